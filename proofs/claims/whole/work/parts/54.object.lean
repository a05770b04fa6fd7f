-- TermReader: the object, texts, operators
theorem xP_throw {sc : xSc} {d mi pc : Nat} {ls : xL} {h : xH} {P : xO → xH → Prop} {r : xRow} (hrow : xrow mi pc = some r) (hk : xkd r = 3) (k : P (.inr (r.2.2.1 - 1000)) (h.1, h.2 + 1)) : xP sc (d + 8) mi pc ls [] h P := by
  refine ⟨1, .inr (r.2.2.1 - 1000), (h.1, h.2 + 1), ?_, k⟩
  rw [xr_eq]
  unfold xstep
  simp only [hrow, hk]
/-- the object itself: so many terms -/
def xTo (A : List xC) (q : Nat) : Prop := A[0]? = some (.inr (0, [.ref 1, .ref 3, .ref 5, .ref 7, .ref 11, .ref 18, .ref 25, .ref 26, .ref 27, .int (nI q)]))
section TR
variable {sc : xSc} {d g : Nat} {A : List xC} {P : xO → xH → Prop}
set_option maxRecDepth 100000 in
theorem p_isTerm {q : Nat} {x : Int32} {b : Bool} (h0 : xTo A q) (hq : q ≤ 40) (hb : b = true ↔ 0 ≤ x.toInt ∧ x.toInt < q) (k : P (.inl (some (.int (xb b)))) (A, g)) : xM1 sc d 10 [.ref 0, .int x] (A, g) P := by
  unfold xTo at h0
  have z0 : (0 : Int32).toInt = 0 := rfl
  have h40 : (40 : Int32).toInt = 40 := rfl
  have hQ : (nI q).toInt = (q : Int) := nI_toInt (by omega)
  unfold xM1
  repeat' first
    | refine xP_s rfl rfl rfl ?_
    | refine xP_get rfl h0 rfl ?_
    | refine xP_if (fun hc => ?_) (fun hc => ?_)
    | refine xP_ret rfl rfl rfl ?_
  all_goals
    (try simp only [xc_i, decide_eq_true_eq, decide_eq_false_iff_not] at *)
  all_goals first
    | (rw [show b = true from hb.mpr (by omega)] at k; exact k)
    | (rw [show b = false from Bool.not_eq_true _ ▸ fun q => absurd (hb.mp q) (by omega)] at k; exact k)
set_option maxRecDepth 100000 in
theorem p_written {q : Nat} {x : Int32} {o : List Nat} (h0 : xTo A q) (ho : xRw A 3 1200 o) (k : P (.inl (some (.int (cAt o x)))) (A, g)) : xM1 sc (d + 1) 5 [.ref 0, .int x] (A, g) P := by
  unfold xTo at h0
  unfold xM1
  refine xP_s rfl rfl rfl ?_
  refine xP_get rfl h0 rfl ?_
  refine xP_s rfl rfl rfl ?_
  refine xP_cv rfl rfl rfl rfl rfl ho.obj (p_at ho (by decide) (by decide) ?_)
  repeat' first
    | refine xP_s rfl rfl rfl ?_
    | refine xP_ret rfl rfl rfl ?_
  exact k
set_option maxRecDepth 100000 in
theorem p_againLoop {q : Nat} {o : List Nat} {A0 : List xC} : ∀ (m i : Nat) (A : List xC), i + m = o.length → o.length + 3 ≤ 120 → xTo A q → xRw A 3 1200 o → xRw A 1 120 (o.take i) → xSame A0 A [1, 2] →
    (∀ A', xTo A' q → xRw A' 1 120 o → xSame A0 A' [1, 2] → xP sc (d + 1) 6 54 [(0, .ref 0), (1, .int (nI o.length)), (2, .int (nI o.length))] [] (A', g) P) →
    xP sc (d + 1) 6 28 [(0, .ref 0), (1, .int (nI o.length)), (2, .int (nI i))] [] (A, g) P
  | 0, i, A, hm, h117, h0, ho, hs, hsm, k => by
    have hI : (nI i).toInt = (i : Int) := nI_toInt (by omega)
    have e : i = o.length := by omega
    subst e
    have k1 := k A h0 (by rw [List.take_of_length_le (Nat.le_refl _)] at hs; exact hs) hsm
    refine xP_s rfl rfl rfl ?_
    refine xP_s rfl rfl rfl ?_
    refine xP_s rfl rfl rfl ?_
    refine xP_if (fun hc => ?_) (fun hc => ?_)
    · exact k1
    · have := xc_f hc
      dsimp only at this
      omega
  | m + 1, i, A, hm, h117, h0, ho, hs, hsm, k => by
    have h0' := h0
    unfold xTo at h0'
    have hI : (nI i).toInt = (i : Int) := nI_toInt (by omega)
    have hL : (nI o.length).toInt = (o.length : Int) := nI_toInt (by omega)
    obtain ⟨c, hc0⟩ : ∃ c, o[i]? = some c := ⟨o[i]'(by omega), List.getElem?_eq_getElem (by omega)⟩
    have hc128 := ho.chr c (List.mem_of_getElem? hc0)
    refine xP_s rfl rfl rfl ?_
    refine xP_s rfl rfl rfl ?_
    refine xP_s rfl rfl rfl ?_
    refine xP_if (fun hc => ?_) (fun hc => ?_)
    · have := xc_t hc
      dsimp only at this
      omega
    · refine xP_s rfl rfl rfl ?_
      refine xP_get rfl h0' rfl ?_
      refine xP_s rfl rfl rfl ?_
      refine xP_get rfl h0' rfl ?_
      refine xP_s rfl rfl rfl ?_
      refine xP_cv rfl rfl rfl rfl rfl ho.obj (p_at ho (by decide) (by decide) ?_)
      rw [cAt_get (by omega) hc0]
      refine xP_cv rfl rfl rfl rfl rfl hs.obj (p_add hs (by decide) (by decide) hc128 (by rw [List.length_take]; omega) (fun A2 w1 w2 => ?_))
      have go := p_againLoop (q := q) (A0 := A0) m (i + 1) A2 (by omega) h117 ((w2.2 0 (by decide)).trans h0) (ho.same w2 (by decide) (by decide)) (by rw [List.take_add_one, hc0]; exact w1) ((hsm.trans w2).wide (by decide)) k
      rw [← nI_1] at go
      repeat' first
        | exact go
        | refine xP_s rfl rfl rfl ?_
set_option maxRecDepth 100000 in
theorem p_again {q : Nat} {o t : List Nat} (h0 : xTo A q) (hs : xRw A 1 120 t) (ho : xRw A 3 1200 o)
    (k0 : 120 < o.length + 3 → P (.inl (some (.int 0))) (A, g))
    (k1 : o.length + 3 ≤ 120 → ∀ A', xTo A' q → xRw A' 1 120 (o ++ [32, 46, 32]) → xSame A A' [1, 2] → P (.inl (some (.int 1))) (A', g)) : xM1 sc (d + 1) 6 [.ref 0] (A, g) P := by
  have h0' := h0
  unfold xTo at h0'
  have hl := ho.len
  have h120 : (120 : Int32).toInt = 120 := rfl
  have hL : (nI (o.length + 3)).toInt = ((o.length + 3 : Nat) : Int) := nI_toInt (by omega)
  unfold xM1
  refine xP_s rfl rfl rfl ?_
  refine xP_get rfl h0' rfl ?_
  refine xP_cv rfl rfl rfl rfl rfl ho.obj (p_length ho ?_)
  refine xP_s rfl rfl rfl ?_
  refine xP_s rfl rfl rfl ?_
  refine xP_s rfl rfl rfl ?_
  refine xP_s rfl rfl rfl ?_
  rw [show nI o.length + 3 = nI (o.length + 3) from nI_add _ 3]
  refine xP_s rfl rfl rfl ?_
  refine xP_s rfl rfl rfl ?_
  refine xP_if (fun hc => ?_) (fun hc => ?_)
  · have z := xc_t hc
    dsimp only at z
    refine xP_s rfl rfl rfl ?_
    refine xP_get rfl h0' rfl ?_
    refine xP_s rfl rfl rfl ?_
    refine xP_cv rfl rfl rfl rfl rfl hs.obj (p_cut hs (by decide) (fun A2 w1 w2 => ?_))
    have e : (if 0 ≤ (0 : Int32).toInt ∧ (0 : Int32).toInt < t.length then t.take (0 : Int32).toInt.toNat else t) = [] := by
      cases t with
      | nil => simp
      | cons c r => simp
    rw [e] at w1
    have w2' : xSame A A2 [1, 2] := w2.wide (by decide)
    have loop := p_againLoop (sc := sc) (d := d) (g := g) (P := P) (q := q) (A0 := A) o.length 0 A2 (by omega) (by omega) ((w2'.2 0 (by decide)).trans h0) (ho.same w2' (by decide) (by decide)) w1 w2' (fun A3 v1 v2 v3 => by
      have v1' := v1
      unfold xTo at v1'
      refine xP_s rfl rfl rfl ?_
      refine xP_get rfl v1' rfl ?_
      refine xP_s rfl rfl rfl ?_
      refine xP_cv rfl rfl rfl rfl rfl v2.obj (p_add (c := 32) v2 (by decide) (by decide) (by decide) (by omega) (fun A4 u1 u2 => ?_))
      have o4 : xTo A4 q := (u2.2 0 (by decide)).trans v1
      have o4' := o4
      unfold xTo at o4'
      refine xP_s rfl rfl rfl ?_
      refine xP_get rfl o4' rfl ?_
      refine xP_s rfl rfl rfl ?_
      refine xP_cv rfl rfl rfl rfl rfl u1.obj (p_add (c := 46) u1 (by decide) (by decide) (by decide) (by rw [List.length_append, List.length_singleton]; omega) (fun A5 s1 s2 => ?_))
      have o5 : xTo A5 q := (s2.2 0 (by decide)).trans o4
      have o5' := o5
      unfold xTo at o5'
      refine xP_s rfl rfl rfl ?_
      refine xP_get rfl o5' rfl ?_
      refine xP_s rfl rfl rfl ?_
      refine xP_cv rfl rfl rfl rfl rfl s1.obj (p_add (c := 32) s1 (by decide) (by decide) (by decide) (by simp only [List.length_append, List.length_cons, List.length_nil]; omega) (fun A6 r1 r2 => ?_))
      repeat' first
        | refine xP_s rfl rfl rfl ?_
        | refine xP_ret rfl rfl rfl ?_
      exact k1 (by omega) A6 ((r2.2 0 (by decide)).trans o5) (by simpa [List.append_assoc] using r1) (((v3.trans u2).trans (s2.trans r2)).wide (by decide)))
    repeat' first
      | exact loop
      | refine xP_s rfl rfl rfl ?_
  · have z := xc_f hc
    dsimp only at z
    repeat' first
      | refine xP_s rfl rfl rfl ?_
      | refine xP_ret rfl rfl rfl ?_
    exact k0 (by omega)
/-- what op does -/
def opBad (x y : Int32) (s : Int64) : Bool := decide (x.toInt < 0 ∨ 1200 < x.toInt ∨ y.toInt < 0 ∨ 6 < y.toInt) || !(opn (txt s))
set_option maxRecDepth 100000 in
theorem p_op {q : Nat} {x y : Int32} {s : Int64} {sl : List xSl} (h0 : xTo A q) (ho : xOp A sl)
    (kb : opBad x y s = true → P (.inr 0) (A, g + 1))
    (kt : opBad x y s = false → x.toInt = 0 → ∀ A', xOp A' (takeS sl y.toInt.toNat (trm s)) → xSame A A' [7, 8, 9, 10] → P (.inl none) (A', g))
    (kc : opBad x y s = false → ¬ x.toInt = 0 → canS sl y.toInt.toNat (trm s) = false → P (.inr 1) (A, g + 1))
    (ko : opBad x y s = false → ¬ x.toInt = 0 → canS sl y.toInt.toNat (trm s) = true → ∀ A', xOp A' (tellS sl x.toInt.toNat y.toInt.toNat (trm s)) → xSame A A' [7, 8, 9, 10] → P (.inl none) (A', g)) : xM1 sc (d + 8) 2 [.ref 0, .int x, .int y, .long s] (A, g) P := by
  have h0' := h0
  unfold xTo at h0'
  have z0 : (0 : Int32).toInt = 0 := rfl
  have z1200 : (1200 : Int32).toInt = 1200 := rfl
  have z6 : (6 : Int32).toInt = 6 := rfl
  have bad : opBad x y s = true → xP sc (d + 8) 2 28 [(0, .ref 0), (1, .int x), (2, .int y), (3, .long s)] [] (A, g) P := fun h => xP_throw rfl rfl (kb h)
  have badI : (x.toInt < 0 ∨ 1200 < x.toInt ∨ y.toInt < 0 ∨ 6 < y.toInt) → opBad x y s = true := fun h => by
    unfold opBad
    rw [decide_eq_true h, Bool.true_or]
  unfold xM1
  refine xP_s rfl rfl rfl ?_
  refine xP_s rfl rfl rfl ?_
  refine xP_if (fun hc => ?_) (fun hc => ?_)
  · exact bad (badI (Or.inl (xc_t hc)))
  · have r1 : (0 : Int) ≤ x.toInt := xc_f hc
    refine xP_s rfl rfl rfl ?_
    refine xP_s rfl rfl rfl ?_
    refine xP_s rfl rfl rfl ?_
    refine xP_if (fun hc => ?_) (fun hc => ?_)
    · exact bad (badI (Or.inr (Or.inl (xc_t hc))))
    · have r2 : x.toInt ≤ 1200 := xc_f hc
      refine xP_s rfl rfl rfl ?_
      refine xP_s rfl rfl rfl ?_
      refine xP_if (fun hc => ?_) (fun hc => ?_)
      · exact bad (badI (Or.inr (Or.inr (Or.inl (xc_t hc)))))
      · have r3 : (0 : Int) ≤ y.toInt := xc_f hc
        refine xP_s rfl rfl rfl ?_
        refine xP_s rfl rfl rfl ?_
        refine xP_s rfl rfl rfl ?_
        refine xP_if (fun hc => ?_) (fun hc => ?_)
        · exact bad (badI (Or.inr (Or.inr (Or.inr (xc_t hc)))))
        · have r4 : y.toInt ≤ 6 := xc_f hc
          refine xP_s rfl rfl rfl ?_
          refine xP_call rfl rfl rfl (p_isOperatorName ?_)
          cases hop : opn (txt s)
          · have bd := bad (by unfold opBad; rw [hop]; simp)
            repeat' first
              | exact bd
              | refine xP_s rfl rfl rfl ?_
          · have hgood : opBad x y s = false := by
              unfold opBad
              rw [hop, decide_eq_false (by omega)]
              rfl
            have ex : x = nI x.toInt.toNat := Int32.toInt_inj.mp (by rw [nI_toInt (by omega)]; omega)
            have ey : y = nI y.toInt.toNat := Int32.toInt_inj.mp (by rw [nI_toInt (by omega)]; omega)
            refine xP_s rfl rfl rfl ?_
            refine xP_s rfl rfl rfl ?_
            refine xP_call rfl rfl rfl (p_trimmed ?_)
            refine xP_s rfl rfl rfl ?_
            refine xP_s rfl rfl rfl ?_
            refine xP_s rfl rfl rfl ?_
            refine xP_if (fun hc => ?_) (fun hc => ?_)
            · have hne : ¬ x.toInt = 0 := xc_t hc
              refine xP_s rfl rfl rfl ?_
              refine xP_get rfl h0' rfl ?_
              refine xP_s rfl rfl rfl ?_
              refine xP_s rfl rfl rfl ?_
              rw [ey]
              refine xP_cv rfl rfl rfl rfl rfl ho.obj (p_canTell ho (by omega) ?_)
              rw [← ey]
              cases hcan : canS sl y.toInt.toNat (trm s)
              · refine xP_s rfl rfl rfl ?_
                exact xP_throw rfl rfl (kc hgood hne hcan)
              · refine xP_s rfl rfl rfl ?_
                refine xP_s rfl rfl rfl ?_
                refine xP_get rfl h0' rfl ?_
                refine xP_s rfl rfl rfl ?_
                refine xP_s rfl rfl rfl ?_
                refine xP_s rfl rfl rfl ?_
                rw [ex, ey]
                refine xP_cv rfl rfl rfl rfl rfl ho.obj (p_tell ho (by omega) (by omega) (fun A2 w1 w2 => ?_))
                repeat' first
                  | refine xP_s rfl rfl rfl ?_
                  | refine xP_ret rfl rfl rfl ?_
                exact ko hgood hne hcan A2 w1 w2
            · have heq : x.toInt = 0 := xc_f hc
              refine xP_s rfl rfl rfl ?_
              refine xP_get rfl h0' rfl ?_
              refine xP_s rfl rfl rfl ?_
              refine xP_s rfl rfl rfl ?_
              rw [ey]
              refine xP_cv rfl rfl rfl rfl rfl ho.obj (p_takeBack ho (by omega) (fun A2 w1 w2 => ?_))
              repeat' first
                | refine xP_s rfl rfl rfl ?_
                | refine xP_ret rfl rfl rfl ?_
              exact kt hgood heq A2 w1 w2
end TR
