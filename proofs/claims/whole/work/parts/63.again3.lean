-- what is written, read again: terms
def chP (T : List xIt → Prop) : Nat → List xIt → Prop
  | 0, L => L = []
  | k + 1, L => ∃ L1 L2, T L1 ∧ L = L1 ++ L2 ∧ chP T k L2
/-- a term of no more depth -/
def trP : Nat → List xIt → Prop
  | 0, _ => False
  | e + 1, L => ∃ p L1, L = p :: L1 ∧ okIt p ∧ p.1 ≤ 3 ∧ chP (trP e) p.2.2.2 L1
theorem xCh.chP {F : xF} {T : Nat → Nat → List xIt → Prop} {T' : List xIt → Prop} (hT : ∀ a b l, T a b l → T' l) : ∀ {k : Nat} {x : Int32} {lo hi : Nat} {L : List xIt}, xCh F T k x lo hi L → chP T' k L
  | 0, x, lo, hi, L, h => h.2
  | k + 1, x, lo, hi, L, h => by
    obtain ⟨a, b, L1, L2, _, _, _, _, q5, q6, q7⟩ := h
    exact ⟨L1, L2, hT a b L1 q5, q6, q7.chP hT⟩
theorem xTr.trP {F : xF} {nm : List Nat} : ∀ {e lo hi : Nat} {L : List xIt}, xTr F nm e lo hi L → trP e L
  | 0, _, _, _, h => h.elim
  | e + 1, lo, hi, L, h => by
    obtain ⟨_, p, L1, h1, h2, h3, h4⟩ := h
    exact ⟨p, L1, h1, h2, h3.2.1, h4.chP (fun a b l ht => ht.trP)⟩
theorem chP_mono {T T' : List xIt → Prop} (hT : ∀ l, T l → T' l) : ∀ {k : Nat} {L : List xIt}, chP T k L → chP T' k L
  | 0, L, h => h
  | k + 1, L, h => by
    obtain ⟨L1, L2, h1, h2, h3⟩ := h
    exact ⟨L1, L2, hT L1 h1, h2, chP_mono hT h3⟩
theorem chP_1 {T : List xIt → Prop} {L : List xIt} (h : chP T 1 L) : T L := by
  obtain ⟨L1, L2, h1, h2, h3⟩ := h
  rw [h2, show L2 = [] from h3, List.append_nil]
  exact h1
theorem chP_2 {T : List xIt → Prop} {L : List xIt} (h : chP T 2 L) : ∃ L1 L2, T L1 ∧ T L2 ∧ L = L1 ++ L2 := by
  obtain ⟨L1, L2, h1, h2, h3⟩ := h
  exact ⟨L1, L2, h1, chP_1 h3, h2⟩
section WL
variable {sl : List xSl} {al : List Nat → Prop}
def okL (al : List Nat → Prop) (L : List xIt) : Prop := ∀ p ∈ L, okP p ∧ (2 ≤ p.1 → al p.2.2.1) ∧ (p.1 = 0 → al (95 :: ten p.2.1.natAbs))
theorem okL.left {L M : List xIt} (h : okL al (L ++ M)) : okL al L := fun p hp => h p (List.mem_append_left _ hp)
theorem okL.right {L M : List xIt} (h : okL al (L ++ M)) : okL al M := fun p hp => h p (List.mem_append_right _ hp)
theorem okL.tail {p : xIt} {M : List xIt} (h : okL al (p :: M)) : okL al M := fun q hq => h q (List.mem_cons_of_mem _ hq)
/-- what a writer makes of one term -/
def WX (al : List Nat → Prop) (W : xW1) (L : List xIt) (most : Int) (o : List Nat) : Prop := (∀ R, W most (L ++ R) = (o, R)) ∧ o.length ≤ cstL L ∧ NW al o ∧ ((hdI L).1 = 2 → o.length + 2 ≤ cstL L)
theorem brk_NW {b : Bool} {o : List Nat} (h : NW al o) : NW al (brk b o) := by
  cases b with
  | false => exact h
  | true =>
    obtain ⟨⟨c, r, e, h1, h2, h3⟩, hg, ht⟩ := h
    refine ⟨⟨40, _, rfl, by decide, by decide, by decide⟩, ?_, fun z hz hl => ?_⟩
    · intro x hx
      rcases List.mem_cons.mp hx with q | q
      · omega
      · rcases List.mem_append.mp q with q | q
        · exact hg x q
        · rw [List.mem_singleton] at q
          omega
    · have e1 : brk true o ++ z = 40 :: (o ++ 41 :: z) := by simp [brk]
      rw [e1] at hl ⊢
      refine (TN.mk ⟨by decide, by decide⟩ (fun h => by omega) (fun h => by omega)).trans ((ht (41 :: z) (stp.c (by omega)) ?_).trans (TN.mk ⟨by decide, by decide⟩ (fun h => by omega) (fun h => by omega)))
      rw [List.length_cons] at hl
      omega
theorem brk_len (b : Bool) (o : List Nat) : (brk b o).length ≤ o.length + 2 := by
  cases b with
  | false => exact Nat.le_add_right _ _
  | true => simp [brk]
theorem hdI_app {L R : List xIt} (h : L ≠ []) : hdI (L ++ R) = hdI L := by
  cases L with
  | nil => exact absurd rfl h
  | cons p L => rfl
theorem opd_X {W : xW1} {L : List xIt} {most : Int} {o : List Nat} (hL : L ≠ []) (h : WX al W L most o) : ∃ o', (∀ R, opd sl W most (L ++ R) = (o', R)) ∧ o'.length ≤ cstL L ∧ NW al o' := by
  obtain ⟨h1, h2, h3, h4⟩ := h
  refine ⟨brk (opdB sl L) o, fun R => ?_, ?_, brk_NW h3⟩
  · unfold opd
    rw [h1 R]
    have : opdB sl (L ++ R) = opdB sl L := by
      unfold opdB
      rw [hdI_app hL]
    rw [this]
  · cases hb : opdB sl L with
    | false => exact h2
    | true =>
      have : (hdI L).1 = 2 := by
        unfold opdB at hb
        rw [Bool.and_eq_true, decide_eq_true_eq] at hb
        exact hb.1
      have h5 := h4 this
      have := brk_len true o
      omega
theorem lsW_X {W : xW1} {f : Nat} (hW : ∀ D L, trP D L → D ≤ f → D ≤ 15 → okL al L → ∀ most, ∃ o, WX al W L most o) : ∀ (m D : Nat) (C : List xIt), trP D C → D ≤ m → D ≤ f → D ≤ 15 → okL al C → ∃ o, (∀ R, lsW W m (C ++ R) = (o, R)) ∧ o.length ≤ cstL C + 1 ∧ gds o ∧ ∀ z, (o ++ 93 :: z).length ≤ 120 → stp (o ++ 93 :: z) ∧ TN al (o ++ 93 :: z) z
  | 0, D, C, h, hm, _, _, _ => by
    have : D = 0 := by omega
    subst this
    exact h.elim
  | m + 1, 0, C, h, hm, hf, h15, hk => h.elim
  | m + 1, D + 1, C, h, hm, hf, h15, hk => by
    have hh := h
    obtain ⟨q, C1, e, hok, hq3, hch⟩ := h
    by_cases hd : isDotP q = true
    · obtain ⟨_, h2⟩ := dot_2 hd
      rw [h2] at hch
      obtain ⟨E, T, t1, t2, eL⟩ := chP_2 hch
      have hk1 : okL al (E ++ T) := by
        rw [e, eL] at hk
        exact hk.tail
      obtain ⟨o1, a1, a2, a3, a4⟩ := hW D E t1 (by omega) (by omega) hk1.left 999
      obtain ⟨o2, b1, b2, b3, b4⟩ := lsW_X hW m D T t2 (by omega) (by omega) (by omega) hk1.right
      refine ⟨44 :: (o1 ++ o2), fun R => ?_, ?_, ?_, fun z hz => ?_⟩
      · have hhd : hdI (C ++ R) = q := by rw [e]; rfl
        have htl : (C ++ R).tail = E ++ (T ++ R) := by rw [e, eL, ← List.append_assoc]; rfl
        rw [lsW, hhd, htl, if_pos hd, a1 (T ++ R)]
        dsimp only
        rw [b1 R]
      · rw [e, eL, cstL_c, cstL_a, List.length_cons, List.length_append]
        have : 3 ≤ cst q := by
          unfold cst
          rw [if_neg (by rw [(dot_2 hd).1]; decide), if_neg (by rw [(dot_2 hd).1]; decide), if_neg (by rw [(dot_2 hd).1]; decide)]
          split <;> omega
        omega
      · intro x hx
        rcases List.mem_cons.mp hx with q | q
        · omega
        · rcases List.mem_append.mp q with q | q
          · exact a3.2.1 x q
          · exact b3 x q
      · have e1 : 44 :: (o1 ++ o2) ++ 93 :: z = 44 :: (o1 ++ (o2 ++ 93 :: z)) := by simp
        rw [e1] at hz ⊢
        rw [List.length_cons, List.length_append] at hz
        obtain ⟨s1, s2⟩ := b4 z (by omega)
        refine ⟨stp.c (by omega), (TN.mk ⟨by decide, by decide⟩ (fun h => by omega) (fun h => by omega)).trans ((a3.2.2 _ s1 ?_).trans s2)⟩
        rw [List.length_append]
        omega
    · by_cases hn : isNilP q = true
      · have h0 := hok.1 (by rw [nil_0 hn]; omega)
        rw [h0] at hch
        refine ⟨[], fun R => ?_, by simp, fun x hx => absurd hx List.not_mem_nil, fun z hz => ⟨stp.c (by omega), TN.mk ⟨by decide, by decide⟩ (fun h => by omega) (fun h => by omega)⟩⟩
        have hhd : hdI (C ++ R) = q := by rw [e]; rfl
        have htl : (C ++ R).tail = R := by rw [e, show C1 = [] from hch]; rfl
        rw [lsW, hhd, htl, if_neg hd, if_pos hn]
      · obtain ⟨o1, a1, a2, a3, a4⟩ := hW (D + 1) C hh (by omega) (by omega) hk 999
        refine ⟨124 :: o1, fun R => ?_, by rw [List.length_cons]; omega, ?_, fun z hz => ?_⟩
        · have hhd : hdI (C ++ R) = q := by rw [e]; rfl
          rw [lsW, hhd, if_neg hd, if_neg hn, a1 R]
        · intro x hx
          rcases List.mem_cons.mp hx with q | q
          · omega
          · exact a3.2.1 x q
        · rw [List.cons_append] at hz ⊢
          rw [List.length_cons] at hz
          exact ⟨stp.c (by omega), (TN.mk ⟨by decide, by decide⟩ (fun h => by omega) (fun h => by omega)).trans ((a3.2.2 _ (stp.c (by omega)) (by omega)).trans (TN.mk ⟨by decide, by decide⟩ (fun h => by omega) (fun h => by omega)))⟩
theorem agW_X {W : xW1} {T : List xIt → Prop} (hW : ∀ L, T L → okL al L → ∀ most, ∃ o, WX al W L most o) : ∀ (k c : Nat) (L : List xIt), chP T k L → okL al L → (c = 40 ∨ c = 44) → ∃ o, (∀ R, agW W k c (L ++ R) = (o, R)) ∧ o.length ≤ cstL L + k ∧ gds o ∧ ∀ z, (o ++ 41 :: z).length ≤ 120 → stp (o ++ 41 :: z) ∧ TN al (o ++ 41 :: z) z
  | 0, c, L, h, hk, hc => by
    refine ⟨[], fun R => ?_, by simp, fun x hx => absurd hx List.not_mem_nil, fun z hz => ⟨stp.c (by omega), TN.mk ⟨by decide, by decide⟩ (fun h => by omega) (fun h => by omega)⟩⟩
    rw [show L = [] from h]
    rfl
  | k + 1, c, L, h, hk, hc => by
    obtain ⟨L1, L2, h1, h2, h3⟩ := h
    rw [h2] at hk
    obtain ⟨o1, a1, a2, a3, a4⟩ := hW L1 h1 hk.left 999
    obtain ⟨o2, b1, b2, b3, b4⟩ := agW_X hW k 44 L2 h3 hk.right (Or.inr rfl)
    refine ⟨c :: (o1 ++ o2), fun R => ?_, ?_, ?_, fun z hz => ?_⟩
    · rw [agW, h2, List.append_assoc, a1 (L2 ++ R)]
      dsimp only
      rw [b1 R]
    · rw [h2, cstL_a, List.length_cons, List.length_append]
      omega
    · intro x hx
      rcases List.mem_cons.mp hx with q | q
      · omega
      · rcases List.mem_append.mp q with q | q
        · exact a3.2.1 x q
        · exact b3 x q
    · have e1 : c :: (o1 ++ o2) ++ 41 :: z = c :: (o1 ++ (o2 ++ 41 :: z)) := by simp
      rw [e1] at hz ⊢
      rw [List.length_cons, List.length_append] at hz
      obtain ⟨s1, s2⟩ := b4 z (by omega)
      have hp : isPn c = true ∧ c < 126 := by
        rcases hc with rfl | rfl <;> exact ⟨by decide, by decide⟩
      refine ⟨stp.c (by omega), (TN.mk hp (fun h => by omega) (fun h => by omega)).trans ((a3.2.2 _ s1 ?_).trans s2)⟩
      rw [List.length_append]
      omega
end WL
theorem opP_e {sl : List xSl} {key : Int64} {e : xSl} (h : opP sl key = some e) : e ∈ sl ∧ e.1 = key ∧ isPre e.2.2 = true := by
  unfold opP at h
  cases hf : fnd true key sl 0 with
  | none =>
    rw [hf] at h
    cases h
  | some i =>
    obtain ⟨_, e', g1, g2, g3⟩ := fnd_some hf
    rw [hf] at h
    have g4 : sl[i]? = some e := h
    rw [Nat.sub_zero, g4] at g1
    cases g1
    exact ⟨List.mem_of_getElem? g4, g2, g3⟩
theorem isPre_o {e : xSl} : oPre (some e) = isPre e.2.2 := by
  unfold oPre isPre slT
  rw [Bool.eq_iff_iff]
  simp
  omega
theorem slF_e {sl : List xSl} {p : xIt} {e : xSl} (h : slF sl p = some e) : p.1 = 3 ∧ e ∈ sl ∧ e.1 = kP p ∧ ((p.2.2.2 = 1 ∧ oPre (some e) = true) ∨ (p.2.2.2 = 1 ∧ oPre (some e) = false ∧ oPost (some e) = true) ∨ (p.2.2.2 = 2 ∧ oPre (some e) = false ∧ oPost (some e) = false)) := by
  unfold slF at h
  split at h
  next h3 =>
    refine ⟨h3, ?_⟩
    split at h
    next h1 =>
      obtain ⟨g1, g2, g3⟩ := opP_e h
      exact ⟨g1, g2, Or.inl ⟨h1.1, by rw [isPre_o, g3]⟩⟩
    · split at h
      next h1 =>
        obtain ⟨g1, g2, g3⟩ := opB_e h
        rw [h] at h1
        refine ⟨g1, g2, Or.inr ?_⟩
        rcases h1 with ⟨q1, q2⟩ | ⟨q1, q2⟩
        · exact Or.inl ⟨q1, by rw [isPre_o, g3], q2⟩
        · refine Or.inr ⟨q1, by rw [isPre_o, g3], ?_⟩
          unfold oInf slT at q2
          unfold oPost slT
          simp at q2 ⊢
          omega
      · cases h
  · cases h
