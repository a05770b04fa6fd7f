-- TermReader: text, write, alike
def prt (c : Nat) : Bool := decide (32 ≤ c) && decide (c ≤ 126)
/-- may a text be added? -/
def txOK (t : List Nat) (s : Int64) : Bool := decide (0 < (txt s).length ∧ t.length + (txt s).length ≤ 120) && (txt s).all prt
section TS
variable {sc : xSc} {d g : Nat} {P : xO → xH → Prop}
set_option maxRecDepth 100000 in
theorem p_textScan {A : List xC} {s : Int64} {l : List Nat} (hl : l = txt s) (kf : l.all prt = false → P (.inl (some (.int 0))) (A, g)) (kn : l.all prt = true → xP sc (d + 2) 1 54 [(0, .ref 0), (1, .long s), (3, .int (nI l.length)), (4, .int (nI l.length))] [] (A, g) P) : ∀ (m i : Nat), i + m = l.length → (l.take i).all prt = true → xP sc (d + 2) 1 28 [(0, .ref 0), (1, .long s), (3, .int (nI l.length)), (4, .int (nI i))] [] (A, g) P
  | 0, i, hm, ha => by
    have h8 : l.length ≤ 8 := by rw [hl]; exact tx_len s 8 0
    have hI : (nI i).toInt = (i : Int) := nI_toInt (by omega)
    have e : i = l.length := by omega
    subst e
    have k1 := kn (by rw [List.take_of_length_le (Nat.le_refl _)] at ha; exact ha)
    refine xP_s rfl rfl rfl ?_
    refine xP_s rfl rfl rfl ?_
    refine xP_s rfl rfl rfl ?_
    refine xP_if (fun hc => ?_) (fun hc => ?_)
    · exact k1
    · have := xc_f hc
      dsimp only at this
      omega
  | m + 1, i, hm, ha => by
    have h8 : l.length ≤ 8 := by rw [hl]; exact tx_len s 8 0
    have hI : (nI i).toInt = (i : Int) := nI_toInt (by omega)
    have hL : (nI l.length).toInt = (l.length : Int) := nI_toInt (by omega)
    obtain ⟨c, hc0⟩ : ∃ c, l[i]? = some c := ⟨l[i]'(by omega), List.getElem?_eq_getElem (by omega)⟩
    have hb : bN s i = c := by
      have := tx_get s 8 0 i c (by rw [← hc0, hl])
      rw [Nat.zero_add] at this
      exact this.1
    have hB := bN_lt s i
    have hpr : iIn 32 126 (nI c) = prt c := iIn_nI (lo := 32) (hi := 126) (by omega)
    refine xP_s rfl rfl rfl ?_
    refine xP_s rfl rfl rfl ?_
    refine xP_s rfl rfl rfl ?_
    refine xP_if (fun hc => ?_) (fun hc => ?_)
    · have := xc_t hc
      dsimp only at this
      omega
    · refine xP_s rfl rfl rfl ?_
      refine xP_s rfl rfl rfl ?_
      refine xP_call rfl rfl rfl (p_byteAt (by omega) ?_)
      rw [hb]
      refine xP_call rfl rfl rfl (p_isPrintable ?_)
      rw [hpr]
      cases hp : prt c
      · have k0 := kf (by
          rw [List.all_eq_false]
          exact ⟨c, List.mem_of_getElem? hc0, by rw [hp]; decide⟩)
        repeat' first
          | refine xP_s rfl rfl rfl ?_
          | refine xP_ret rfl rfl rfl ?_
        exact k0
      · have go := p_textScan hl kf kn m (i + 1) (by omega) (by
          rw [List.take_add_one, hc0, List.all_append, ha]
          simp [hp])
        rw [← nI_1] at go
        repeat' first
          | exact go
          | refine xP_s rfl rfl rfl ?_
set_option maxRecDepth 100000 in
theorem p_textAdd {q : Nat} {s : Int64} {l t : List Nat} {A0 : List xC} (hl : l = txt s) (hpr : l.all prt = true) (hlen : t.length + l.length ≤ 120) (kn : ∀ A', xTo A' q → xRw A' 1 120 (t ++ l) → xSame A0 A' [1, 2] → P (.inl (some (.int 1))) (A', g)) : ∀ (m i : Nat) (A : List xC), i + m = l.length → xTo A q → xRw A 1 120 (t ++ l.take i) → xSame A0 A [1, 2] → xP sc (d + 2) 1 57 [(0, .ref 0), (1, .long s), (3, .int (nI l.length)), (4, .int (nI i))] [] (A, g) P
  | 0, i, A, hm, h0, hs, hsm => by
    have h8 : l.length ≤ 8 := by rw [hl]; exact tx_len s 8 0
    have hI : (nI i).toInt = (i : Int) := nI_toInt (by omega)
    have e : i = l.length := by omega
    subst e
    have k1 := kn A h0 (by rw [List.take_of_length_le (Nat.le_refl _)] at hs; exact hs) hsm
    refine xP_s rfl rfl rfl ?_
    refine xP_s rfl rfl rfl ?_
    refine xP_s rfl rfl rfl ?_
    refine xP_if (fun hc => ?_) (fun hc => ?_)
    · repeat' first
        | refine xP_s rfl rfl rfl ?_
        | refine xP_ret rfl rfl rfl ?_
      exact k1
    · have := xc_f hc
      dsimp only at this
      omega
  | m + 1, i, A, hm, h0, hs, hsm => by
    have h0' := h0
    unfold xTo at h0'
    have h8 : l.length ≤ 8 := by rw [hl]; exact tx_len s 8 0
    have hI : (nI i).toInt = (i : Int) := nI_toInt (by omega)
    have hL : (nI l.length).toInt = (l.length : Int) := nI_toInt (by omega)
    obtain ⟨c, hc0⟩ : ∃ c, l[i]? = some c := ⟨l[i]'(by omega), List.getElem?_eq_getElem (by omega)⟩
    have hb : bN s i = c := by
      have := tx_get s 8 0 i c (by rw [← hc0, hl])
      rw [Nat.zero_add] at this
      exact this.1
    have hc126 : c < 128 := by
      have := List.all_eq_true.mp hpr c (List.mem_of_getElem? hc0)
      simp [prt] at this
      omega
    refine xP_s rfl rfl rfl ?_
    refine xP_s rfl rfl rfl ?_
    refine xP_s rfl rfl rfl ?_
    refine xP_if (fun hc => ?_) (fun hc => ?_)
    · have := xc_t hc
      dsimp only at this
      omega
    · refine xP_s rfl rfl rfl ?_
      refine xP_get rfl h0' rfl ?_
      refine xP_s rfl rfl rfl ?_
      refine xP_s rfl rfl rfl ?_
      refine xP_call rfl rfl rfl (p_byteAt (by omega) ?_)
      rw [hb]
      refine xP_cv rfl rfl rfl rfl rfl hs.obj (p_add hs (by decide) (by decide) hc126 (by rw [List.length_append, List.length_take]; omega) (fun A2 w1 w2 => ?_))
      have go := p_textAdd (q := q) (A0 := A0) hl hpr hlen kn m (i + 1) A2 (by omega) ((w2.2 0 (by decide)).trans h0) (by rw [List.take_add_one, hc0]; rw [List.append_assoc] at w1; exact w1) ((hsm.trans w2).wide (by decide))
      rw [← nI_1] at go
      repeat' first
        | exact go
        | refine xP_s rfl rfl rfl ?_
set_option maxRecDepth 100000 in
theorem p_text {q : Nat} {A : List xC} {t : List Nat} {s : Int64} (h0 : xTo A q) (hs : xRw A 1 120 t)
    (k0 : txOK t s = false → P (.inl (some (.int 0))) (A, g))
    (k1 : txOK t s = true → ∀ A', xTo A' q → xRw A' 1 120 (t ++ txt s) → xSame A A' [1, 2] → P (.inl (some (.int 1))) (A', g)) : xM1 sc (d + 2) 1 [.ref 0, .long s] (A, g) P := by
  have h0' := h0
  unfold xTo at h0'
  have ht := hs.len
  have h8 : (txt s).length ≤ 8 := tx_len s 8 0
  generalize hl : txt s = l at h8
  have z0 : (0 : Int32).toInt = 0 := rfl
  have h120 : (120 : Int32).toInt = 120 := rfl
  have hL : (nI l.length).toInt = (l.length : Int) := nI_toInt (by omega)
  have hT : (nI (t.length + l.length)).toInt = ((t.length + l.length : Nat) : Int) := nI_toInt (by omega)
  have eOK : txOK t s = (decide (0 < l.length ∧ t.length + l.length ≤ 120) && l.all prt) := by
    unfold txOK
    rw [hl]
  have no : ¬ (0 < l.length ∧ t.length + l.length ≤ 120) → P (.inl (some (.int 0))) (A, g) := fun h => k0 (by rw [eOK, decide_eq_false h, Bool.false_and])
  unfold xM1
  refine xP_s rfl rfl rfl ?_
  refine xP_call rfl rfl rfl (p_size ?_)
  rw [hl]
  refine xP_s rfl rfl rfl ?_
  refine xP_s rfl rfl rfl ?_
  refine xP_s rfl rfl rfl ?_
  refine xP_if (fun hc => ?_) (fun hc => ?_)
  · have r : (nI l.length).toInt = (0 : Int32).toInt := xc_t hc
    have kk := no (by omega)
    repeat' first
      | refine xP_s rfl rfl rfl ?_
      | refine xP_ret rfl rfl rfl ?_
    exact kk
  · have r : ¬ (nI l.length).toInt = (0 : Int32).toInt := xc_f hc
    refine xP_s rfl rfl rfl ?_
    refine xP_get rfl h0' rfl ?_
    refine xP_cv rfl rfl rfl rfl rfl hs.obj (p_length hs ?_)
    refine xP_s rfl rfl rfl ?_
    refine xP_s rfl rfl rfl ?_
    rw [nI_add]
    refine xP_s rfl rfl rfl ?_
    refine xP_s rfl rfl rfl ?_
    refine xP_if (fun hc => ?_) (fun hc => ?_)
    · have r2 := xc_t hc
      dsimp only at r2
      have hcond : 0 < l.length ∧ t.length + l.length ≤ 120 := by omega
      rw [decide_eq_true hcond, Bool.true_and] at eOK
      have scan := p_textScan (sc := sc) (d := d) (g := g) (P := P) (A := A) (s := s) hl.symm (fun h => k0 (by rw [eOK]; exact h)) (fun h => by
        have add := p_textAdd (sc := sc) (d := d) (g := g) (P := P) (q := q) (t := t) (A0 := A) hl.symm h hcond.2 (fun A' w1 w2 w3 => k1 (by rw [eOK]; exact h) A' w1 (by rw [hl]; exact w2) w3) l.length 0 A (by omega) h0 (by simpa using hs) (xSame.refl _ _)
        refine xP_s rfl rfl rfl ?_
        refine xP_s rfl rfl rfl ?_
        exact add) l.length 0 (by omega) rfl
      refine xP_s rfl rfl rfl ?_
      refine xP_s rfl rfl rfl ?_
      exact scan
    · have r2 := xc_f hc
      dsimp only at r2
      have kk := no (by omega)
      repeat' first
        | refine xP_s rfl rfl rfl ?_
        | refine xP_ret rfl rfl rfl ?_
      exact kk
end TS
