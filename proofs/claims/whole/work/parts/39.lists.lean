-- Parser: lists
/-- elements that have been read, the latest first, each holding the one ahead of it -/
def xBk (F : xF) (nm : List Nat) (lo : Nat) : List (List xIt × Nat) → Int32 → Nat → Prop
  | [], x, hi => x = -1 ∧ hi = lo
  | q :: es, x, hi => ∃ a, hi = a + q.1.length ∧ lo ≤ a ∧ a < hi ∧ x = nI (hi - 1) ∧ xTr F nm q.2 a hi q.1 ∧ F.2.2.2.2.2 (hi - 1) = nI q.2 ∧ 1 ≤ q.2 ∧ q.2 ≤ 14 ∧ xBk F nm lo es (F.2.2.2.2.1 (hi - 1)) a
theorem xBk.same {F F' : xF} {nm : List Nat} {lo : Nat} : ∀ {es : List (List xIt × Nat)} {x : Int32} {hi : Nat}, xBk F nm lo es x hi → xA0 F F' hi → xBk F' nm lo es x hi
  | [], x, hi, h, _ => h
  | q :: es, x, hi, h, hg => by
    obtain ⟨a, h1, h2, h3, h4, h5, h6, h7, h8, h9⟩ := h
    obtain ⟨g1, g2, g3, g4, g5, g6⟩ := hg (hi - 1) (by omega)
    exact ⟨a, h1, h2, h3, h4, h5.same0 hg (Nat.le_refl _), g6.trans h6, h7, h8, by rw [g5]; exact h9.same (fun j hj => hg j (by omega))⟩
theorem xBk.le {F : xF} {nm : List Nat} {lo : Nat} {es : List (List xIt × Nat)} {x : Int32} {hi : Nat} (h : xBk F nm lo es x hi) : lo ≤ hi := by
  cases es with
  | nil => exact Nat.le_of_eq h.2.symm
  | cons q es =>
    obtain ⟨a, h1, h2, h3, _⟩ := h
    omega
def wrL : List (List xIt × Nat) → List xIt → List xIt
  | [], M => M
  | q :: es, M => wrL es (dotP :: (q.1 ++ M))
def wrD : List (List xIt × Nat) → Nat → Nat
  | [], m => m
  | q :: es, m => wrD es (max q.2 m + 1)
theorem wrD_ge : ∀ (es : List (List xIt × Nat)) (m : Nat), m ≤ wrD es m
  | [], m => Nat.le_refl _
  | q :: es, m => by
    have := wrD_ge es (max q.2 m + 1)
    rw [wrD]
    omega
section PU
variable {sc : xSc} {d g : Nat} {t nm : List Nat} {sl : List xSl} {u p v : Nat} {G : xG} {P : xO → xH → Prop}
set_option maxRecDepth 100000 in
theorem p_listedFail {n a pr c : Nat} {A : List xC} {F : xF} {y1 y2 : Int32} (hw : xWd A t nm sl u p v G c F a pr) (k : P (.inl (some (.int (-1)))) (A, g)) :
    ∀ (es : List (List xIt × Nat)) (i hi : Nat) (x : Int32), i + es.length ≤ 120 → xBk F nm n es x hi → hi ≤ c → xP sc (d + 10) 55 8 [(0, .ref 25), (1, .int y1), (2, .int y2), (3, .int (-1)), (4, .int x), (5, .int (nI i))] [] (A, g) P
  | [], i, hi, x, hi1, hb, hc => by
    have h120 : (120 : Int32).toInt = 120 := rfl
    have hI : (nI i).toInt = (i : Int) := nI_toInt (by omega)
    obtain ⟨hx, _⟩ := hb
    subst hx
    refine xP_s rfl rfl rfl ?_
    refine xP_s rfl rfl rfl ?_
    refine xP_s rfl rfl rfl ?_
    refine xP_if (fun hc => ?_) (fun hc => ?_)
    · repeat' first
        | refine xP_s rfl rfl rfl ?_
        | refine xP_ret rfl rfl rfl ?_
      exact k
    · repeat' first
        | refine xP_s rfl rfl rfl ?_
        | refine xP_ret rfl rfl rfl ?_
      exact k
  | q :: es, i, hi, x, hi1, hb, hc => by
    have h120 : (120 : Int32).toInt = 120 := rfl
    rw [List.length_cons] at hi1
    have hI : (nI i).toInt = (i : Int) := nI_toInt (by omega)
    obtain ⟨b, h1, h2, h3, h4, h5, h6, h7, h8, h9⟩ := hb
    subst h4
    obtain ⟨hs, hn, ho, ht, hp, h25, hpr⟩ := id hw
    unfold xPa at h25
    have hpn := hp.1
    have go := p_listedFail (y1 := y1) (y2 := y2) hw k es (i + 1) b _ (by omega) h9 (by omega)
    rw [← nI_1] at go
    have go1 := xP_more [(6, .int (F.2.2.2.2.1 (hi - 1)))] rfl go
    refine xP_s rfl rfl rfl ?_
    refine xP_s rfl rfl rfl ?_
    refine xP_s rfl rfl rfl ?_
    refine xP_if (fun hc => ?_) (fun hc => ?_)
    · have := xc_t hc
      dsimp only at this
      omega
    · refine xP_s rfl rfl rfl ?_
      refine xP_s rfl rfl rfl ?_
      refine xP_s rfl rfl rfl ?_
      refine xP_if (fun hc => ?_) (fun hc => ?_)
      · exact absurd (xc_t hc) (nI_neg1 (by omega))
      · refine xP_s rfl rfl rfl ?_
        refine xP_get rfl h25 rfl ?_
        refine xP_s rfl rfl rfl ?_
        refine xP_cv rfl rfl rfl rfl rfl hp.2.1 (p_next hp (o := some (hi - 1)) (fun i h => by have := Option.some.inj h; omega) ?_)
        refine xP_s rfl rfl rfl ?_
        refine xP_s rfl rfl rfl ?_
        refine xP_get rfl h25 rfl ?_
        refine xP_s rfl rfl rfl ?_
        refine xP_s rfl rfl rfl ?_
        refine xP_s rfl rfl rfl ?_
        refine xP_s rfl rfl rfl ?_
        refine xP_cv rfl rfl rfl rfl rfl hp.2.1 (p_addPair0 (ol := some (hi - 1)) (or := none) hp (fun i h => by have := Option.some.inj h; omega) (Or.inr rfl) ?_)
        repeat' first
          | exact go1
          | refine xP_s rfl rfl rfl ?_
set_option maxHeartbeats 4000000 in
set_option maxRecDepth 100000 in
theorem p_listedLoop {n a pr : Nat} {A0 : List xC} {F0 : xF} {y1 y2 : Int32} (h0 : nm0 nm) :
    ∀ (es : List (List xIt × Nat)) (i hi c DM : Nat) (x : Int32) (A : List xC) (F : xF) (M : List xIt), i + es.length ≤ 120 → xWd A t nm sl u p v G c F a pr → xBk F nm n es x hi → c = hi + M.length → xTr F nm DM hi c M → F.2.2.2.2.2 (c - 1) = nI DM → 1 ≤ DM → DM ≤ 14 → F.2.2.2.2.1 (c - 1) = -1 → c + es.length ≤ 840 → xA0 F0 F n → xSame A0 A pL →
    (14 < wrD es DM → ∀ A' F' c', xWd A' t nm sl u p v G c' F' a pr → n ≤ c' → xA0 F0 F' n → xSame A0 A' pL → P (.inl (some (.int (-1)))) (A', g)) →
    (wrD es DM ≤ 14 → ∀ A' F', xWd A' t nm sl u p v G (n + (wrL es M).length) F' a pr → xTr F' nm (wrD es DM) n (n + (wrL es M).length) (wrL es M) → F'.2.2.2.2.2 (n + (wrL es M).length - 1) = nI (wrD es DM) → F'.2.2.2.2.1 (n + (wrL es M).length - 1) = -1 → xA0 F0 F' n → xSame A0 A' pL → P (.inl (some (.int (nI (n + (wrL es M).length - 1))))) (A', g)) →
    xP sc (d + 10) 55 8 [(0, .ref 25), (1, .int y1), (2, .int y2), (3, .int (nI (c - 1))), (4, .int x), (5, .int (nI i))] [] (A, g) P
  | [], i, hi, c, DM, x, A, F, M, hi1, hw, hb, hc, htr, hdp, hD1, hD, hnx, hbud, hag, hsm, kb, ko => by
    have h120 : (120 : Int32).toInt = 120 := rfl
    have hI : (nI i).toInt = (i : Int) := nI_toInt (by rw [List.length_nil] at hi1; omega)
    obtain ⟨hx, hh⟩ := hb
    subst hx hh hc
    have k := ko hD A F hw htr hdp hnx hag hsm
    refine xP_s rfl rfl rfl ?_
    refine xP_s rfl rfl rfl ?_
    refine xP_s rfl rfl rfl ?_
    refine xP_if (fun hc => ?_) (fun hc => ?_)
    · repeat' first
        | refine xP_s rfl rfl rfl ?_
        | refine xP_ret rfl rfl rfl ?_
      exact k
    · repeat' first
        | refine xP_s rfl rfl rfl ?_
        | refine xP_ret rfl rfl rfl ?_
      exact k
  | q :: es, i, hi, c, DM, x, A, F, M, hi1, hw, hb, hc, htr, hdp, hD1, hD, hnx, hbud, hag, hsm, kb, ko => by
    have h120 : (120 : Int32).toInt = 120 := rfl
    rw [List.length_cons] at hi1 hbud
    have hI : (nI i).toInt = (i : Int) := nI_toInt (by omega)
    obtain ⟨b, h1, h2, h3, h4, h5, h6, h7, h8, h9⟩ := hb
    subst h4
    obtain ⟨hs, hn, ho, ht, hp, h25, hpr⟩ := id hw
    unfold xPa at h25
    have hpn := hp.1
    have g1 := htr.root
    have lkb : xA0 F (xLk F (hi - 1) (c - 1)) b := xA0_lk F (by omega) (by omega)
    refine xP_s rfl rfl rfl ?_
    refine xP_s rfl rfl rfl ?_
    refine xP_s rfl rfl rfl ?_
    refine xP_if (fun hc => ?_) (fun hc => ?_)
    · have := xc_t hc
      dsimp only at this
      omega
    · refine xP_s rfl rfl rfl ?_
      refine xP_s rfl rfl rfl ?_
      refine xP_s rfl rfl rfl ?_
      refine xP_if (fun hc => ?_) (fun hc => ?_)
      · exact absurd (xc_t hc) (nI_neg1 (by omega))
      · refine xP_s rfl rfl rfl ?_
        refine xP_get rfl h25 rfl ?_
        refine xP_s rfl rfl rfl ?_
        refine xP_cv rfl rfl rfl rfl rfl hp.2.1 (p_next hp (o := some (hi - 1)) (fun i h => by have := Option.some.inj h; omega) ?_)
        refine xP_s rfl rfl rfl ?_
        refine xP_s rfl rfl rfl ?_
        refine xP_get rfl h25 rfl ?_
        refine xP_s rfl rfl rfl ?_
        refine xP_s rfl rfl rfl ?_
        refine xP_s rfl rfl rfl ?_
        refine xP_s rfl rfl rfl ?_
        refine xP_cv rfl rfl rfl rfl rfl hp.2.1 (p_addPair (l := hi - 1) (r := c - 1) (Dl := q.2) (Dr := DM) hp (by omega) (by omega) (by omega) h6 ⟨h7, h8⟩ hdp ⟨hD1, hD⟩ (fun hz A2 x1 x2 => ?_) (fun hz hz2 A2 x1 x2 => ?_))
        · have hw2 := hw.setP x1 x2
          have hdeep : 14 < wrD (q :: es) DM := by
            have := wrD_ge es (max q.2 DM + 1)
            rw [wrD]
            omega
          have fl := p_listedFail (sc := sc) (d := d) (g := g) (P := P) (n := n) (y1 := y1) (y2 := y2) hw2 (kb hdeep A2 _ c hw2 (by omega) (hag.trans (fun j hj => lkb j (by omega)) (Nat.le_refl _)) ((hsm.trans x2).wide (by decide))) es (i + 1) b _ (by omega) (h9.same lkb) (by omega)
          rw [← nI_1] at fl
          have fl1 := xP_more [(6, .int (F.2.2.2.2.1 (hi - 1)))] rfl fl
          repeat' first
            | exact fl1
            | refine xP_s rfl rfl rfl ?_
        · have hw2 := hw.setP x1 x2
          have hpair := tr_pair (lo := b) (n := c) (z := 0) (w := [46]) (x5 := nI (max q.2 DM + 1)) h5 htr (Or.inl (Nat.le_refl _)) (Nat.le_refl _) (by omega) (by omega) (Nat.le_refl _) h0.1
          have a1 : xA0 F (xAdd (xLk F (hi - 1) (c - 1)) c 3 0 1 (nI (hi - 1)) (nI (max q.2 DM + 1))) b := lkb.trans (xA0_add _ _ _ _ _ _ _ (by omega)) (Nat.le_refl _)
          have go := p_listedLoop (y1 := y1) (y2 := y2) (A0 := A0) (F0 := F0) h0 es (i + 1) b (c + 1) (max q.2 DM + 1) _ A2 _ (dotP :: (q.1 ++ M)) (by omega) hw2 (h9.same a1) (by simp; omega) hpair pk_us (by omega) (by omega) pk_us (by omega) (hag.trans (fun j hj => a1 j (by omega)) (Nat.le_refl _)) ((hsm.trans x2).wide (by decide)) kb ko
          rw [← nI_1] at go
          have go1 := xP_more [(6, .int (F.2.2.2.2.1 (hi - 1)))] rfl go
          repeat' first
            | exact go1
            | refine xP_s rfl rfl rfl ?_
end PU
