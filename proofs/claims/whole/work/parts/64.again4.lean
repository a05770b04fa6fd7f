-- what is written, read again: the whole writer
section WM
variable {sl : List xSl} {al : List Nat → Prop}
theorem cst_nd {p : xIt} (h3 : p.1 = 3) (hd : ¬ p = dotP) : cst p = 2 * p.2.2.1.length + 6 + p.2.2.2 := by
  unfold cst
  rw [if_neg (by omega), if_neg (by omega), if_neg (by omega), if_neg hd]
theorem cst_3 {p : xIt} (h3 : p.1 = 3) : 3 ≤ cst p := by
  unfold cst
  rw [if_neg (by omega), if_neg (by omega), if_neg (by omega)]
  split <;> omega
theorem trP_ne {D : Nat} {L : List xIt} (h : trP D L) : L ≠ [] := by
  cases D with
  | zero => exact h.elim
  | succ D =>
    obtain ⟨p, L1, e, _⟩ := h
    rw [e]
    exact List.cons_ne_nil _ _
theorem NW.cat {o : List Nat} (h : NW al o) {r : List Nat} (hg : gds r) (hr : ∀ z, stp z → (o ++ r ++ z).length ≤ 120 → stp (r ++ z) ∧ TN al (r ++ z) z) : NW al (o ++ r) := by
  obtain ⟨⟨c, w, e, h1, h2, h3⟩, hg1, ht⟩ := h
  refine ⟨⟨c, w ++ r, by rw [e]; rfl, h1, h2, h3⟩, ?_, fun z hz hl => ?_⟩
  · intro x hx
    rcases List.mem_append.mp hx with q | q
    · exact hg1 x q
    · exact hg x q
  · obtain ⟨q1, q2⟩ := hr z hz hl
    rw [List.append_assoc] at hl ⊢
    exact (ht _ q1 hl).trans q2
theorem gds_c {c : Nat} {r : List Nat} (hc : 32 ≤ c ∧ c ≤ 126) (h : gds r) : gds (c :: r) := by
  intro x hx
  rcases List.mem_cons.mp hx with q | q
  · omega
  · exact h x q
theorem gds_a {q r : List Nat} (h1 : gds q) (h2 : gds r) : gds (q ++ r) := by
  intro x hx
  rcases List.mem_append.mp hx with q | q
  · exact h1 x q
  · exact h2 x q
theorem gds_n : gds [] := fun x hx => absurd hx List.not_mem_nil
theorem opr_X {f D : Nat} (h46 : ∀ e ∈ sl, ¬ e.1 = 46) (hW : ∀ L, trP D L → okL al L → ∀ most, ∃ o, WX al (wrt sl f) L most o) {p : xIt} {e : xSl} {L : List xIt} (hp : okP p) (ha : al p.2.2.1) (hk : okL al L) (hs : slF sl p = some e) (hch : chP (trP D) p.2.2.2 L) : ∃ o, (∀ R, opr sl (wrt sl f) e p (L ++ R) = (o, R)) ∧ o.length + 2 ≤ cst p + cstL L ∧ NW al o := by
  obtain ⟨h3, hm, hkey, hc⟩ := slF_e hs
  have hnd : ¬ p = dotP := by
    intro q
    rw [q] at hkey
    exact h46 e hm (by rw [hkey]; rfl)
  have hcp := cst_nd h3 hnd
  have hN := nmW_NW (al := al) hp.1 ha
  have hNl := nmW_len p.2.2.1
  rcases hc with ⟨h1, h2⟩ | ⟨h1, h2, h2'⟩ | ⟨h1, h2, h2'⟩
  · rw [h1] at hch hcp
    have hT := chP_1 hch
    obtain ⟨o, hx⟩ := hW L hT hk (oRight (some e))
    obtain ⟨o', q1, q2, q3⟩ := opd_X (sl := sl) (trP_ne hT) hx
    refine ⟨nmW p.2.2.1 ++ 32 :: o', fun R => ?_, ?_, ?_⟩
    · unfold opr
      rw [if_pos h2, q1 R]
    · rw [List.length_append, List.length_cons]
      omega
    · refine hN.cat (gds_c (by decide) q3.2.1) (fun z hz hl => ⟨stp.c (by omega), ?_⟩)
      simp only [List.length_append, List.length_cons] at hl
      exact TN.sp (y := o' ++ z) (by rw [List.length_append]; omega) (q3.2.2 z hz (by rw [List.length_append]; omega))
  · rw [h1] at hch hcp
    have hT := chP_1 hch
    obtain ⟨o, hx⟩ := hW L hT hk (lfm sl e L)
    obtain ⟨o', q1, q2, q3⟩ := opd_X (sl := sl) (trP_ne hT) hx
    have hlf : ∀ R, lfm sl e (L ++ R) = lfm sl e L := fun R => by
      unfold lfm
      rw [hdI_app (trP_ne hT)]
    refine ⟨o' ++ 32 :: nmW p.2.2.1, fun R => ?_, ?_, ?_⟩
    · unfold opr
      rw [if_neg (by rw [h2]; decide), if_pos h2', hlf R, q1 R]
    · rw [List.length_append, List.length_cons]
      omega
    · refine q3.cat (gds_c (by decide) hN.2.1) (fun z hz hl => ⟨stp.c (by omega), ?_⟩)
      simp only [List.length_append, List.length_cons] at hl
      exact TN.sp (y := nmW p.2.2.1 ++ z) (by rw [List.length_append]; omega) (hN.2.2 z hz (by rw [List.length_append]; omega))
  · rw [h1] at hch hcp
    obtain ⟨L1, L2, t1, t2, eL⟩ := chP_2 hch
    rw [eL] at hk
    obtain ⟨o, hx⟩ := hW L1 t1 hk.left (lfm sl e L1)
    obtain ⟨o1, a1, a2, a3⟩ := opd_X (sl := sl) (trP_ne t1) hx
    obtain ⟨o, hx⟩ := hW L2 t2 hk.right (oRight (some e))
    obtain ⟨o2, b1, b2, b3⟩ := opd_X (sl := sl) (trP_ne t2) hx
    have hlf : ∀ R, lfm sl e (L1 ++ R) = lfm sl e L1 := fun R => by
      unfold lfm
      rw [hdI_app (trP_ne t1)]
    refine ⟨o1 ++ (ifx p ++ o2), fun R => ?_, ?_, ?_⟩
    · unfold opr
      rw [if_neg (by rw [h2]; decide), if_neg (by rw [h2']; decide), eL, List.append_assoc, hlf, a1 (L2 ++ R)]
      dsimp only
      rw [b1 R]
    · rw [List.length_append, List.length_append, eL, cstL_a]
      have : (ifx p).length ≤ (nmW p.2.2.1).length + 2 := by
        unfold ifx
        split
        · simp
        · simp
      omega
    · refine a3.cat ?_ (fun z hz hl => ?_)
      · unfold ifx
        split
        · exact gds_c (by decide) b3.2.1
        · exact gds_c (by decide) (gds_a (gds_a hN.2.1 (gds_c (by decide) gds_n)) b3.2.1)
      · unfold ifx at hl ⊢
        split
        next hc =>
          rw [if_pos hc] at hl
          simp only [List.length_append, List.length_cons, List.length_nil] at hl
          exact ⟨stp.c (by omega), (TN.mk (y := o2 ++ z) ⟨by decide, by decide⟩ (fun h => by omega) (fun h => by omega)).trans (b3.2.2 z hz (by rw [List.length_append]; omega))⟩
        next hc =>
          rw [if_neg hc] at hl
          simp only [List.length_append, List.length_cons, List.length_nil] at hl
          have e1 : 32 :: (nmW p.2.2.1 ++ [32]) ++ o2 ++ z = 32 :: (nmW p.2.2.1 ++ 32 :: (o2 ++ z)) := by simp
          rw [e1]
          refine ⟨stp.c (by omega), TN.sp (by simp only [List.length_append, List.length_cons]; omega) ((hN.2.2 (32 :: (o2 ++ z)) (stp.c (by omega)) (by simp only [List.length_append, List.length_cons]; omega)).trans (TN.sp (by rw [List.length_append]; omega) (b3.2.2 z hz (by rw [List.length_append]; omega))))⟩
theorem NW.ne {o : List Nat} (h : NW al o) (y : List Nat) : ¬ (o ++ y).head? = some 93 ∧ ¬ (o ++ y).head? = some 125 := by
  obtain ⟨⟨c, r, e, h1, h2, _⟩, _⟩ := h
  rw [e]
  constructor
  · intro q
    cases q
    exact h1 rfl
  · intro q
    cases q
    exact h2 rfl
theorem wrt_X (h46 : ∀ e ∈ sl, ¬ e.1 = 46) (h45 : al [45]) : ∀ (f D : Nat) (L : List xIt), trP D L → D ≤ f → D ≤ 15 → okL al L → ∀ most, ∃ o, WX al (wrt sl f) L most o
  | 0, D, L, h, hf, _, _, most => by
    have : D = 0 := by omega
    subst this
    exact h.elim
  | f + 1, 0, L, h, _, _, _, _ => h.elim
  | f + 1, D + 1, L, h, hf, h15, hk, most => by
    have IH := fun D L h hf h15 hk => wrt_X h46 h45 f D L h hf h15 hk
    obtain ⟨p, L1, e, hok, hp3, hch⟩ := h
    have hk0 := hk
    rw [e] at hk0
    obtain ⟨hp, hal, hav⟩ := hk0 p List.mem_cons_self
    have hk1 := hk0.tail
    subst e
    have hhd : hdI (p :: L1) = p := rfl
    by_cases h0 : p.1 = 0
    · rw [hok.1 (by omega)] at hch
      have e1 : L1 = [] := hch
      subst e1
      have hv := hp.2.1 h0
      refine ⟨95 :: intW p.2.1, fun R => ?_, ?_, var_NW hv (hav h0), fun h => by rw [hhd] at h; omega⟩
      · rw [List.cons_append]
        unfold wrt
        rw [if_pos h0]
        rfl
      · rw [cstL_c, nil0]
        have : cst p = 4 := by unfold cst; rw [if_pos h0]
        have := cst_var hv
        omega
    · by_cases h1 : p.1 = 1
      · rw [hok.1 (by omega)] at hch
        have e1 : L1 = [] := hch
        subst e1
        have hv := hp.2.2 h1
        refine ⟨intW p.2.1, fun R => ?_, ?_, int_NW h45 hv, fun h => by rw [hhd] at h; omega⟩
        · rw [List.cons_append]
          unfold wrt
          rw [if_neg h0, if_pos h1]
          rfl
        · rw [cstL_c, nil0]
          have e2 : cst p = cst (1, p.2.1, [], 0) := by
            unfold cst
            rw [if_neg h0, if_pos h1]
            rfl
          have := cst_int hv
          omega
      · by_cases h2 : p.1 = 2
        · rw [hok.1 (by omega)] at hch
          have e1 : L1 = [] := hch
          subst e1
          have hl := nmW_len p.2.2.1
          have e2 : cst p = 2 * p.2.2.1.length + 4 := by
            unfold cst
            rw [if_neg h0, if_neg h1, if_pos h2]
          refine ⟨nmW p.2.2.1, fun R => ?_, ?_, nmW_NW hp.1 (hal (by omega)), fun h => ?_⟩
          · rw [List.cons_append]
            unfold wrt
            rw [if_neg h0, if_neg h1, if_pos h2]
            rfl
          · rw [cstL_c, nil0]
            omega
          · rw [cstL_c, nil0]
            omega
        · have h3 : p.1 = 3 := by omega
          have hc3 := cst_3 h3
          have ha := hal (by omega)
          have hu : ∀ R, wrt sl (f + 1) most (p :: (L1 ++ R)) = (match slF sl p with
              | some e => (brk (decide (most < (e.2.1 : Int))) (opr sl (wrt sl f) e p (L1 ++ R)).1, (opr sl (wrt sl f) e p (L1 ++ R)).2)
              | none => if isDotP p = true then (91 :: ((wrt sl f 999 (L1 ++ R)).1 ++ ((lsW (wrt sl f) 15 (wrt sl f 999 (L1 ++ R)).2).1 ++ [93])), (lsW (wrt sl f) 15 (wrt sl f 999 (L1 ++ R)).2).2)
                else if isBrcP p = true then (123 :: ((wrt sl f 1200 (L1 ++ R)).1 ++ [125]), (wrt sl f 1200 (L1 ++ R)).2)
                else (nmW p.2.2.1 ++ ((agW (wrt sl f) p.2.2.2 40 (L1 ++ R)).1 ++ [41]), (agW (wrt sl f) p.2.2.2 40 (L1 ++ R)).2)) := fun R => by
            conv => lhs; unfold wrt
            rw [if_neg h0, if_neg h1, if_neg h2]
            rfl
          cases hs : slF sl p with
          | some e =>
            obtain ⟨o, q1, q2, q3⟩ := opr_X h46 (fun L h hk => IH D L h (by omega) (by omega) hk) hp ha hk1 hs hch
            refine ⟨brk (decide (most < (e.2.1 : Int))) o, fun R => ?_, ?_, brk_NW q3, fun h => by rw [hhd] at h; omega⟩
            · rw [List.cons_append, hu R, hs]
              dsimp only
              rw [q1 R]
            · have := brk_len (decide (most < (e.2.1 : Int))) o
              rw [cstL_c]
              omega
          | none =>
            by_cases hd : isDotP p = true
            · rw [(dot_2 hd).2] at hch
              obtain ⟨E, T, t1, t2, eL⟩ := chP_2 hch
              rw [eL] at hk1
              obtain ⟨o1, a1, a2, a3, a4⟩ := IH D E t1 (by omega) (by omega) hk1.left 999
              obtain ⟨o2, b1, b2, b3, b4⟩ := lsW_X (fun D L h hf h15 hk => IH D L h hf h15 hk) 15 D T t2 (by omega) (by omega) (by omega) hk1.right
              refine ⟨91 :: (o1 ++ (o2 ++ [93])), fun R => ?_, ?_, ⟨⟨91, _, rfl, by decide, by decide, by decide⟩, ?_, fun z hz hl => ?_⟩, fun h => by rw [hhd] at h; omega⟩
              · rw [List.cons_append, hu R, hs]
                dsimp only
                rw [if_pos hd, eL, List.append_assoc, a1 (T ++ R)]
                dsimp only
                rw [b1 R]
              · rw [eL, cstL_c, cstL_a]
                simp only [List.length_cons, List.length_append, List.length_nil]
                omega
              · exact gds_c (by decide) (gds_a a3.2.1 (gds_a b3 (gds_c (by decide) gds_n)))
              · have e1 : 91 :: (o1 ++ (o2 ++ [93])) ++ z = 91 :: (o1 ++ (o2 ++ 93 :: z)) := by simp
                rw [e1] at hl ⊢
                simp only [List.length_cons, List.length_append] at hl
                obtain ⟨s1, s2⟩ := b4 z (by simp only [List.length_cons, List.length_append]; omega)
                exact (TN.mk ⟨by decide, by decide⟩ (fun _ => (a3.ne _).1) (fun h => by omega)).trans ((a3.2.2 _ s1 (by simp only [List.length_cons, List.length_append]; omega)).trans s2)
            · have hnd : ¬ p = dotP := fun q => hd (by rw [q]; decide)
              have hcp := cst_nd h3 hnd
              by_cases hb : isBrcP p = true
              · rw [(brc_1 hb).2] at hch
                have hT := chP_1 hch
                obtain ⟨o1, a1, a2, a3, a4⟩ := IH D L1 hT (by omega) (by omega) hk1 1200
                refine ⟨123 :: (o1 ++ [125]), fun R => ?_, ?_, ⟨⟨123, _, rfl, by decide, by decide, by decide⟩, ?_, fun z hz hl => ?_⟩, fun h => by rw [hhd] at h; omega⟩
                · rw [List.cons_append, hu R, hs]
                  dsimp only
                  rw [if_neg hd, if_pos hb, a1 R]
                · rw [cstL_c]
                  simp only [List.length_cons, List.length_append, List.length_nil]
                  omega
                · exact gds_c (by decide) (gds_a a3.2.1 (gds_c (by decide) gds_n))
                · have e1 : 123 :: (o1 ++ [125]) ++ z = 123 :: (o1 ++ 125 :: z) := by simp
                  rw [e1] at hl ⊢
                  simp only [List.length_cons, List.length_append] at hl
                  exact (TN.mk ⟨by decide, by decide⟩ (fun h => by omega) (fun _ => (a3.ne _).2)).trans ((a3.2.2 _ (stp.c (by omega)) (by simp only [List.length_cons, List.length_append]; omega)).trans (TN.mk ⟨by decide, by decide⟩ (fun h => by omega) (fun h => by omega)))
              · have hN := nmW_NW (al := al) hp.1 ha
                have hNl := nmW_len p.2.2.1
                obtain ⟨o2, b1, b2, b3, b4⟩ := agW_X (T := trP D) (fun L h hk => IH D L h (by omega) (by omega) hk) p.2.2.2 40 L1 hch hk1 (Or.inl rfl)
                refine ⟨nmW p.2.2.1 ++ (o2 ++ [41]), fun R => ?_, ?_, hN.cat (gds_a b3 (gds_c (by decide) gds_n)) (fun z hz hl => ?_), fun h => by rw [hhd] at h; omega⟩
                · rw [List.cons_append, hu R, hs]
                  dsimp only
                  rw [if_neg hd, if_neg hb, b1 R]
                · rw [cstL_c]
                  simp only [List.length_cons, List.length_append, List.length_nil]
                  omega
                · have e1 : o2 ++ [41] ++ z = o2 ++ 41 :: z := by simp
                  rw [e1]
                  simp only [List.length_cons, List.length_append, List.length_nil] at hl
                  exact b4 z (by simp only [List.length_cons, List.length_append]; omega)
end WM
