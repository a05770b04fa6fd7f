-- Writer: names
def xWo (A : List xC) : Prop := A[26]? = some (.inr (6, [.ref 3, .ref 5, .ref 7, .ref 11]))
section WA
variable {sc : xSc} {d g : Nat} {A : List xC} {nm : List Nat} {P : xO → xH → Prop}
set_option maxRecDepth 100000 in
theorem p_isRowLoop {z : Nat} {l : List Nat} {b : Bool} (h26 : xWo A) (hn : xRw A 5 4926 nm) (hz : nmAt nm z l) (k : P (.inl (some (.int (xb (l.all (spf b)))))) (A, g)) : ∀ (m i : Nat), i + m = l.length → (l.take i).all (spf b) = true → xP sc (d + 2) 129 3 [(0, .ref 26), (1, .int (nI z)), (2, .int (nI l.length)), (3, .int (xb b)), (4, .int (nI i))] [] (A, g) P
  | 0, i, hm, ha => by
    unfold xWo at h26
    have hl := hn.len
    have hz1 := hz.1
    have hI : (nI i).toInt = (i : Int) := nI_toInt (by omega)
    have hL : (nI l.length).toInt = (l.length : Int) := nI_toInt (by omega)
    rw [List.take_of_length_le (by omega)] at ha
    rw [ha] at k
    refine xP_s rfl rfl rfl ?_
    refine xP_s rfl rfl rfl ?_
    refine xP_s rfl rfl rfl ?_
    refine xP_if (fun hc => ?_) (fun hc => ?_)
    · repeat' first
        | refine xP_s rfl rfl rfl ?_
        | refine xP_ret rfl rfl rfl ?_
      exact k
    · have := xc_f hc
      dsimp only at this
      omega
  | m + 1, i, hm, ha => by
    have h26' := h26
    unfold xWo at h26'
    have hl := hn.len
    have hz1 := hz.1
    have hI : (nI i).toInt = (i : Int) := nI_toInt (by omega)
    have hL : (nI l.length).toInt = (l.length : Int) := nI_toInt (by omega)
    obtain ⟨c, hc0⟩ : ∃ c, l[i]? = some c := ⟨l[i]'(by omega), List.getElem?_eq_getElem (by omega)⟩
    have hc128 := hn.chr c (List.mem_of_getElem? (hz.2 i c hc0))
    have go := p_isRowLoop (b := b) h26 hn hz k m (i + 1) (by omega)
    rw [← nI_1] at go
    refine xP_s rfl rfl rfl ?_
    refine xP_s rfl rfl rfl ?_
    refine xP_s rfl rfl rfl ?_
    refine xP_if (fun hc => ?_) (fun hc => ?_)
    · have := xc_t hc
      dsimp only at this
      omega
    · refine xP_s rfl rfl rfl ?_
      refine xP_get rfl h26' rfl ?_
      refine xP_s rfl rfl rfl ?_
      refine xP_s rfl rfl rfl ?_
      refine xP_s rfl rfl rfl ?_
      rw [nI_add]
      refine xP_cv rfl rfl rfl rfl rfl hn.obj (p_at hn (by decide) (by decide) ?_)
      rw [cAt_get (by omega) (hz.2 i c hc0)]
      cases hf : spf b c
      · have e : l.all (spf b) = false := by
          rw [List.all_eq_false]
          exact ⟨c, List.mem_of_getElem? hc0, by rw [hf]; decide⟩
        rw [e] at k
        cases b
        · repeat' first
            | refine xP_s rfl rfl rfl ?_
            | refine xP_call rfl rfl rfl (p_isWordN (show isWd c = false from hf) (show c < 2 ^ 31 by omega) ?_)
            | refine xP_ret rfl rfl rfl ?_
          exact k
        · repeat' first
            | refine xP_s rfl rfl rfl ?_
            | refine xP_call rfl rfl rfl (p_isSignN (show isSg c = false from hf) (show c < 256 by omega) ?_)
            | refine xP_ret rfl rfl rfl ?_
          exact k
      · have go1 := xP_more [(5, .int (nI c))] rfl (go (by
          rw [List.take_add_one, hc0, List.all_append, ha]
          simp [hf]))
        cases b
        · repeat' first
            | exact go1
            | refine xP_s rfl rfl rfl ?_
            | refine xP_call rfl rfl rfl (p_isWordN (show isWd c = true from hf) (show c < 2 ^ 31 by omega) ?_)
        · repeat' first
            | exact go1
            | refine xP_s rfl rfl rfl ?_
            | refine xP_call rfl rfl rfl (p_isSignN (show isSg c = true from hf) (show c < 256 by omega) ?_)
set_option maxRecDepth 100000 in
theorem p_isRow {z : Nat} {l : List Nat} {b : Bool} (h26 : xWo A) (hn : xRw A 5 4926 nm) (hz : nmAt nm z l) (k : P (.inl (some (.int (xb (l.all (spf b)))))) (A, g)) : xM1 sc (d + 2) 129 [.ref 26, .int (nI z), .int (nI l.length), .int (xb b)] (A, g) P := by
  have go := p_isRowLoop (sc := sc) (d := d) (g := g) (b := b) (P := P) h26 hn hz k l.length 0 (by omega) rfl
  unfold xM1
  repeat' first
    | exact go
    | refine xP_s rfl rfl rfl ?_
/-- a name that stands for itself -/
def pln (l : List Nat) : Bool := decide ((l.length = 1 ∧ ((oc l 0).toInt = 33 ∨ (oc l 0).toInt = 59)) ∨ (l.length = 2 ∧ (((oc l 0).toInt = 91 ∧ (oc l 1).toInt = 93) ∨ ((oc l 0).toInt = 123 ∧ (oc l 1).toInt = 125))) ∨ (97 ≤ (oc l 0).toInt ∧ (oc l 0).toInt ≤ 122 ∧ l.all isWd = true) ∨ (¬ (97 ≤ (oc l 0).toInt ∧ (oc l 0).toInt ≤ 122) ∧ 0 < l.length ∧ ¬ ((l.length = 1 ∧ (oc l 0).toInt = 46) ∨ ((oc l 0).toInt = 47 ∧ (oc l 1).toInt = 42)) ∧ l.all isSg = true))
theorem xb_int (b : Bool) : ∃ w : Nat, (xb b).toInt = w ∧ (w = 1 ↔ b = true) ∧ w ≤ 1 := by
  cases b
  · exact ⟨0, rfl, by simp, by omega⟩
  · exact ⟨1, rfl, by simp, by omega⟩
set_option maxHeartbeats 4000000 in
set_option maxRecDepth 100000 in
theorem p_isPlain {z : Nat} {l : List Nat} (h26 : xWo A) (hn : xRw A 5 4926 nm) (hz : nmAt nm z l) (k : P (.inl (some (.int (xb (pln l))))) (A, g)) : xM1 sc (d + 3) 128 [.ref 26, .int (nI z), .int (nI l.length)] (A, g) P := by
  have h26' := h26
  unfold xWo at h26'
  have hl := hn.len
  have hz1 := hz.1
  have hL : (nI l.length).toInt = (l.length : Int) := nI_toInt (by omega)
  have h0 : (0 : Int32).toInt = 0 := rfl
  have h1 : (1 : Int32).toInt = 1 := rfl
  have h2 : (2 : Int32).toInt = 2 := rfl
  have h33 : (33 : Int32).toInt = 33 := rfl
  have h59 : (59 : Int32).toInt = 59 := rfl
  have h91 : (91 : Int32).toInt = 91 := rfl
  have h93 : (93 : Int32).toInt = 93 := rfl
  have h123 : (123 : Int32).toInt = 123 := rfl
  have h125 : (125 : Int32).toInt = 125 := rfl
  have h46 : (46 : Int32).toInt = 46 := rfl
  have h47 : (47 : Int32).toInt = 47 := rfl
  have h42 : (42 : Int32).toInt = 42 := rfl
  have hb : pln l = true ↔ (l.length = 1 ∧ ((oc l 0).toInt = 33 ∨ (oc l 0).toInt = 59)) ∨ (l.length = 2 ∧ (((oc l 0).toInt = 91 ∧ (oc l 1).toInt = 93) ∨ ((oc l 0).toInt = 123 ∧ (oc l 1).toInt = 125))) ∨ (97 ≤ (oc l 0).toInt ∧ (oc l 0).toInt ≤ 122 ∧ l.all isWd = true) ∨ (¬ (97 ≤ (oc l 0).toInt ∧ (oc l 0).toInt ≤ 122) ∧ 0 < l.length ∧ ¬ ((l.length = 1 ∧ (oc l 0).toInt = 46) ∨ ((oc l 0).toInt = 47 ∧ (oc l 1).toInt = 42)) ∧ l.all isSg = true) := decide_eq_true_iff
  have main : xP sc (d + 3) 128 38 [(0, .ref 26), (1, .int (nI z)), (2, .int (nI l.length)), (3, .int (oc l 0)), (4, .int (oc l 1))] [] (A, g) P := by
    have row : ∀ (P' : xO → xH → Prop), P' (.inl (some (.int (xb (l.all isSg))))) (A, g) → xM1 sc (d + 2) 129 [.ref 26, .int (nI z), .int (nI l.length), .int 1] (A, g) P' := fun P' h => p_isRow (b := true) h26 hn hz h
    have wrow : ∀ (P' : xO → xH → Prop), P' (.inl (some (.int (xb (l.all isWd))))) (A, g) → xM1 sc (d + 2) 129 [.ref 26, .int (nI z), .int (nI l.length), .int 0] (A, g) P' := fun P' h => p_isRow (b := false) h26 hn hz h
    clear hz hn
    have wrd : ¬ (l.length = 1 ∧ ((oc l 0).toInt = 33 ∨ (oc l 0).toInt = 59)) → ¬ (l.length = 2 ∧ (((oc l 0).toInt = 91 ∧ (oc l 1).toInt = 93) ∨ ((oc l 0).toInt = 123 ∧ (oc l 1).toInt = 125))) → xP sc (d + 3) 128 90 [(0, .ref 26), (1, .int (nI z)), (2, .int (nI l.length)), (3, .int (oc l 0)), (4, .int (oc l 1))] [] (A, g) P := by
      intro n1 n2
      refine xP_s rfl rfl rfl ?_
      refine xP_call rfl rfl rfl (p_isSmall ?_)
      cases hsm : iIn 97 122 (oc l 0)
      · have S : ¬ (97 ≤ (oc l 0).toInt ∧ (oc l 0).toInt ≤ 122) := fun h => by
          have : iIn 97 122 (oc l 0) = true := by simp [iIn, h.1, h.2]
          rw [hsm] at this
          cases this
        have e : pln l = true ↔ 0 < l.length ∧ ¬ ((l.length = 1 ∧ (oc l 0).toInt = 46) ∨ ((oc l 0).toInt = 47 ∧ (oc l 1).toInt = 42)) ∧ l.all isSg = true := by
          rw [hb]
          constructor
          · rintro (h | h | h | h)
            · exact absurd h n1
            · exact absurd h n2
            · exact absurd ⟨h.1, h.2.1⟩ S
            · exact h.2
          · intro h
            exact Or.inr (Or.inr (Or.inr ⟨S, h⟩))
        clear hb hsm S n1 n2
        have odd1 : ((l.length = 1 ∧ (oc l 0).toInt = 46) ∨ ((oc l 0).toInt = 47 ∧ (oc l 1).toInt = 42)) → xP sc (d + 3) 128 129 [(0, .ref 26), (1, .int (nI z)), (2, .int (nI l.length)), (3, .int (oc l 0)), (4, .int (oc l 1))] [] (A, g) P := by
          intro ho
          rw [show pln l = false from Bool.not_eq_true _ ▸ fun q => (e.mp q).2.1 ho] at k
          refine xP_s rfl rfl rfl ?_
          refine xP_s rfl rfl rfl ?_
          refine xP_s rfl rfl rfl ?_
          refine xP_s rfl rfl rfl ?_
          refine xP_s rfl rfl rfl ?_
          refine xP_if (fun hc => ?_) (fun hc => ?_)
          · repeat' first
              | refine xP_s rfl rfl rfl ?_
              | refine xP_ret rfl rfl rfl ?_
            exact k
          · repeat' first
              | refine xP_s rfl rfl rfl ?_
              | refine xP_ret rfl rfl rfl ?_
            exact k
        have odd0 : ¬ ((l.length = 1 ∧ (oc l 0).toInt = 46) ∨ ((oc l 0).toInt = 47 ∧ (oc l 1).toInt = 42)) → xP sc (d + 3) 128 133 [(0, .ref 26), (1, .int (nI z)), (2, .int (nI l.length)), (3, .int (oc l 0)), (4, .int (oc l 1))] [] (A, g) P := by
          intro ho
          refine xP_s rfl rfl rfl ?_
          refine xP_s rfl rfl rfl ?_
          refine xP_s rfl rfl rfl ?_
          refine xP_s rfl rfl rfl ?_
          refine xP_if (fun hc => ?_) (fun hc => ?_)
          · have r := xc_t hc
            dsimp only at r
            rw [hL, h0] at r
            rw [show pln l = false from Bool.not_eq_true _ ▸ fun q => absurd (e.mp q).1 (by clear e odd1 ho k row wrow; omega)] at k
            repeat' first
              | refine xP_s rfl rfl rfl ?_
              | refine xP_ret rfl rfl rfl ?_
            exact k
          · have r := xc_f hc
            dsimp only at r
            rw [hL, h0] at r
            refine xP_s rfl rfl rfl ?_
            refine xP_s rfl rfl rfl ?_
            refine xP_s rfl rfl rfl ?_
            refine xP_s rfl rfl rfl ?_
            refine xP_s rfl rfl rfl ?_
            refine xP_s rfl rfl rfl ?_
            refine xP_cv rfl rfl rfl rfl rfl h26' (row _ ?_)
            cases hsgl : l.all isSg
            · rw [show pln l = false from Bool.not_eq_true _ ▸ fun q => by have := (e.mp q).2.2; rw [hsgl] at this; cases this] at k
              repeat' first
                | refine xP_s rfl rfl rfl ?_
                | refine xP_ret rfl rfl rfl ?_
              exact k
            · rw [show pln l = true from e.mpr ⟨by clear e odd1 ho k row wrow; omega, ho, hsgl⟩] at k
              repeat' first
                | refine xP_s rfl rfl rfl ?_
                | refine xP_ret rfl rfl rfl ?_
              exact k
        have sl : ¬ (l.length = 1 ∧ (oc l 0).toInt = 46) → xP sc (d + 3) 128 116 [(0, .ref 26), (1, .int (nI z)), (2, .int (nI l.length)), (3, .int (oc l 0)), (4, .int (oc l 1))] [] (A, g) P := by
          intro h1'
          refine xP_s rfl rfl rfl ?_
          refine xP_s rfl rfl rfl ?_
          refine xP_s rfl rfl rfl ?_
          refine xP_if (fun hc => ?_) (fun hc => ?_)
          · have r := xc_t hc
            dsimp only at r
            exact odd0 (fun h => h.elim h1' (fun h => r (by rw [h.1]; rfl)))
          · have r := xc_f hc
            dsimp only at r
            refine xP_s rfl rfl rfl ?_
            refine xP_s rfl rfl rfl ?_
            refine xP_s rfl rfl rfl ?_
            refine xP_if (fun hc => ?_) (fun hc => ?_)
            · have r2 := xc_t hc
              dsimp only at r2
              exact odd0 (fun h => h.elim h1' (fun h => r2 (by rw [h.2]; rfl)))
            · have r2 := xc_f hc
              dsimp only at r2
              exact odd1 (Or.inr ⟨r, r2⟩)
        refine xP_s rfl rfl rfl ?_
        refine xP_s rfl rfl rfl ?_
        refine xP_s rfl rfl rfl ?_
        refine xP_s rfl rfl rfl ?_
        refine xP_if (fun hc => ?_) (fun hc => ?_)
        · have r := xc_t hc
          dsimp only at r
          exact sl (fun h => r (by rw [hL, h.1]; rfl))
        · have r := xc_f hc
          dsimp only at r
          rw [hL, h1] at r
          refine xP_s rfl rfl rfl ?_
          refine xP_s rfl rfl rfl ?_
          refine xP_s rfl rfl rfl ?_
          refine xP_if (fun hc => ?_) (fun hc => ?_)
          · have r2 := xc_t hc
            dsimp only at r2
            exact odd1 (Or.inl ⟨Int.ofNat.inj r, r2⟩)
          · have r2 := xc_f hc
            dsimp only at r2
            exact sl (fun h => r2 (by rw [h.2]; rfl))
      · have S : 97 ≤ (oc l 0).toInt ∧ (oc l 0).toInt ≤ 122 := by simpa [iIn] using hsm
        have e : pln l = l.all isWd := by
          rw [Bool.eq_iff_iff, hb]
          constructor
          · rintro (h | h | h | h)
            · exact absurd h n1
            · exact absurd h n2
            · exact h.2.2
            · exact absurd S h.1
          · intro h
            exact Or.inr (Or.inr (Or.inl ⟨S.1, S.2, h⟩))
        rw [e] at k
        clear hb e n1 n2
        refine xP_s rfl rfl rfl ?_
        refine xP_s rfl rfl rfl ?_
        refine xP_s rfl rfl rfl ?_
        refine xP_s rfl rfl rfl ?_
        refine xP_s rfl rfl rfl ?_
        refine xP_cv rfl rfl rfl rfl rfl h26' (wrow _ ?_)
        cases hwd : l.all isWd
        · rw [hwd] at k
          repeat' first
            | refine xP_s rfl rfl rfl ?_
            | refine xP_ret rfl rfl rfl ?_
          exact k
        · rw [hwd] at k
          repeat' first
            | refine xP_s rfl rfl rfl ?_
            | refine xP_ret rfl rfl rfl ?_
          exact k
    have two : ¬ (l.length = 1 ∧ ((oc l 0).toInt = 33 ∨ (oc l 0).toInt = 59)) → xP sc (d + 3) 128 57 [(0, .ref 26), (1, .int (nI z)), (2, .int (nI l.length)), (3, .int (oc l 0)), (4, .int (oc l 1))] [] (A, g) P := by
      intro n1
      have brc : ¬ (l.length = 2 ∧ (oc l 0).toInt = 91 ∧ (oc l 1).toInt = 93) → l.length = 2 → xP sc (d + 3) 128 75 [(0, .ref 26), (1, .int (nI z)), (2, .int (nI l.length)), (3, .int (oc l 0)), (4, .int (oc l 1))] [] (A, g) P := by
        intro n2 hl2
        refine xP_s rfl rfl rfl ?_
        refine xP_s rfl rfl rfl ?_
        refine xP_s rfl rfl rfl ?_
        refine xP_if (fun hc => ?_) (fun hc => ?_)
        · have r1 := xc_t hc
          dsimp only at r1
          exact wrd n1 (fun h => h.2.elim (fun y => n2 ⟨h.1, y⟩) (fun y => r1 (by rw [y.1]; rfl)))
        · have r1 := xc_f hc
          dsimp only at r1
          refine xP_s rfl rfl rfl ?_
          refine xP_s rfl rfl rfl ?_
          refine xP_s rfl rfl rfl ?_
          refine xP_if (fun hc => ?_) (fun hc => ?_)
          · have r2 := xc_t hc
            dsimp only at r2
            exact wrd n1 (fun h => h.2.elim (fun y => n2 ⟨h.1, y⟩) (fun y => r2 (by rw [y.2]; rfl)))
          · have r2 := xc_f hc
            dsimp only at r2
            rw [show pln l = true from hb.mpr (Or.inr (Or.inl ⟨hl2, Or.inr ⟨r1, r2⟩⟩))] at k
            repeat' first
              | refine xP_s rfl rfl rfl ?_
              | refine xP_ret rfl rfl rfl ?_
            exact k
      refine xP_s rfl rfl rfl ?_
      refine xP_s rfl rfl rfl ?_
      refine xP_s rfl rfl rfl ?_
      refine xP_if (fun hc => ?_) (fun hc => ?_)
      · have r0 := xc_t hc
        dsimp only at r0
        exact wrd n1 (fun h => r0 (by rw [hL, h.1]; rfl))
      · have r0 := xc_f hc
        dsimp only at r0
        rw [hL, h2] at r0
        have hl2 : l.length = 2 := Int.ofNat.inj r0
        refine xP_s rfl rfl rfl ?_
        refine xP_s rfl rfl rfl ?_
        refine xP_s rfl rfl rfl ?_
        refine xP_if (fun hc => ?_) (fun hc => ?_)
        · have r1 := xc_t hc
          dsimp only at r1
          exact brc (fun h => r1 (by rw [h.2.1]; rfl)) hl2
        · have r1 := xc_f hc
          dsimp only at r1
          refine xP_s rfl rfl rfl ?_
          refine xP_s rfl rfl rfl ?_
          refine xP_s rfl rfl rfl ?_
          refine xP_if (fun hc => ?_) (fun hc => ?_)
          · have r2 := xc_t hc
            dsimp only at r2
            rw [show pln l = true from hb.mpr (Or.inr (Or.inl ⟨hl2, Or.inl ⟨r1, r2⟩⟩))] at k
            repeat' first
              | refine xP_s rfl rfl rfl ?_
              | refine xP_ret rfl rfl rfl ?_
            exact k
          · have r2 := xc_f hc
            dsimp only at r2
            exact brc (fun h => r2 (by rw [h.2.2]; rfl)) hl2
    refine xP_s rfl rfl rfl ?_
    refine xP_s rfl rfl rfl ?_
    refine xP_s rfl rfl rfl ?_
    refine xP_if (fun hc => ?_) (fun hc => ?_)
    · have r0 := xc_t hc
      dsimp only at r0
      exact two (fun h => r0 (by rw [hL, h.1]; rfl))
    · have r0 := xc_f hc
      dsimp only at r0
      rw [hL, h1] at r0
      have hl1 : l.length = 1 := Int.ofNat.inj r0
      refine xP_s rfl rfl rfl ?_
      refine xP_s rfl rfl rfl ?_
      refine xP_s rfl rfl rfl ?_
      refine xP_if (fun hc => ?_) (fun hc => ?_)
      · have r1 := xc_t hc
        dsimp only at r1
        rw [show pln l = true from hb.mpr (Or.inl ⟨hl1, Or.inl r1⟩)] at k
        repeat' first
          | refine xP_s rfl rfl rfl ?_
          | refine xP_ret rfl rfl rfl ?_
        exact k
      · have r1 := xc_f hc
        dsimp only at r1
        refine xP_s rfl rfl rfl ?_
        refine xP_s rfl rfl rfl ?_
        refine xP_s rfl rfl rfl ?_
        refine xP_if (fun hc => ?_) (fun hc => ?_)
        · have r2 := xc_t hc
          dsimp only at r2
          exact two (fun h => h.2.elim (fun y => r1 (by rw [y]; rfl)) (fun y => r2 (by rw [y]; rfl)))
        · have r2 := xc_f hc
          dsimp only at r2
          rw [show pln l = true from hb.mpr (Or.inl ⟨hl1, Or.inr r2⟩)] at k
          repeat' first
            | refine xP_s rfl rfl rfl ?_
            | refine xP_ret rfl rfl rfl ?_
          exact k
  clear hb
  unfold xM1
  refine xP_s rfl rfl rfl ?_
  refine xP_s rfl rfl rfl ?_
  refine xP_if (fun hc => ?_) (fun hc => ?_)
  · have := xc_t hc
    dsimp only at this
    have e : l = [] := List.length_eq_zero_iff.mp (by omega)
    subst e
    repeat' first
      | exact main
      | refine xP_s rfl rfl rfl ?_
  · have r0 := xc_f hc
    dsimp only at r0
    obtain ⟨c, hc0⟩ : ∃ c, l[0]? = some c := ⟨l[0]'(by omega), List.getElem?_eq_getElem (by omega)⟩
    have e0 : oc l 0 = nI c := by unfold oc; rw [hc0]
    refine xP_s rfl rfl rfl ?_
    refine xP_get rfl h26' rfl ?_
    refine xP_s rfl rfl rfl ?_
    refine xP_cv rfl rfl rfl rfl rfl hn.obj (p_at hn (by decide) (by decide) ?_)
    rw [cAt_get (i := z) (by omega) (hz.2 0 c hc0), ← e0]
    refine xP_s rfl rfl rfl ?_
    refine xP_s rfl rfl rfl ?_
    refine xP_s rfl rfl rfl ?_
    refine xP_s rfl rfl rfl ?_
    refine xP_s rfl rfl rfl ?_
    refine xP_if (fun hc => ?_) (fun hc => ?_)
    · have := xc_t hc
      dsimp only at this
      have e1 : oc l 1 = -1 := by unfold oc; rw [List.getElem?_eq_none (by omega)]
      rw [e1] at main
      repeat' first
        | exact main
        | refine xP_s rfl rfl rfl ?_
    · have r1 := xc_f hc
      dsimp only at r1
      obtain ⟨c1, hc1⟩ : ∃ c, l[1]? = some c := ⟨l[1]'(by omega), List.getElem?_eq_getElem (by omega)⟩
      have e1 : oc l 1 = nI c1 := by unfold oc; rw [hc1]
      refine xP_s rfl rfl rfl ?_
      refine xP_get rfl h26' rfl ?_
      refine xP_s rfl rfl rfl ?_
      refine xP_s rfl rfl rfl ?_
      refine xP_s rfl rfl rfl ?_
      rw [nI_1]
      refine xP_cv rfl rfl rfl rfl rfl hn.obj (p_at hn (by decide) (by decide) ?_)
      rw [cAt_get (by omega) (hz.2 1 c1 hc1), ← e1]
      repeat' first
        | exact main
        | refine xP_s rfl rfl rfl ?_
end WA
