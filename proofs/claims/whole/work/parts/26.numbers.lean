-- quoted names from their start; variables; digits; strings
set_option maxRecDepth 100000 in
theorem p_addQuotedName {sc : xSc} {d g u p v : Nat} {A : List xC} {G : xG} {t nm s : List Nat} {P : xO → xH → Prop} (ht : xTk A u p v G) (hs : xRw A 1 120 t) (hn : xRw A 5 4926 nm) (hu : u < 120) (hd : t.drop (p + 1) = s) (hp : p + 1 ≤ t.length) (hr : nm.length + s.length ≤ 4926)
    (k0 : ∀ A' w', (qt 120 s = none ∨ ∃ q, qt 120 s = some q ∧ 24 < q.1.length) → xTk A' u p v G → xRw A' 5 4926 (nm ++ w') → xSame A A' [5, 6, 18, 19, 20, 21, 22, 23, 24] → P (.inl (some (.int 0))) (A', g))
    (k1 : ∀ A' q, qt 120 s = some q → q.1.length ≤ 24 → xTk A' (u + 1) (t.length - q.2.length) v (xTn G u 1 p (t.length - q.2.length) (nI nm.length) (nI q.1.length) (kL q.1)) → xRw A' 5 4926 (nm ++ q.1) → xSame A A' [5, 6, 18, 19, 20, 21, 22, 23, 24] → P (.inl (some (.int 1))) (A', g)) : xM1 sc (d + 3) 105 [.ref 18] (A, g) P := by
  have h18 := ht.2.1
  have hl := hs.len
  have hsl : s.length = t.length - (p + 1) := by rw [← hd, List.length_drop]
  have go := p_quotedLoop (sc := sc) (d := d) (g := g) (P := P) hu 120 (p + 1) 0 A [] s (by omega) (by omega) hd hp ht hs (by rw [List.append_nil]; exact hn) (by rw [List.length_nil]; omega) (fun A' w' z1 z2 z3 z4 => k0 A' w' z1 z2 z3 z4) (fun A' q z1 z2 z3 z4 z5 => k1 A' q z1 z2 z3 z4 z5)
  rw [← nI_1] at go
  unfold xM1
  repeat' first
    | exact go
    | refine xP_s rfl rfl rfl ?_
    | refine xP_get rfl h18 rfl ?_
    | refine xP_cv rfl rfl rfl rfl rfl hn.obj (p_length hn ?_)
set_option maxRecDepth 100000 in
theorem p_sameTextLoop {sc : xSc} {d g u p v b n : Nat} {A : List xC} {G : xG} {t : List Nat} {P : xO → xH → Prop} (ht : xTk A u p v G) (hs : xRw A 1 120 t) (hb : b + n ≤ t.length) (hp : p + n ≤ t.length) (k : P (.inl (some (.int (xb (decide ((t.drop b).take n = (t.drop p).take n)))))) (A, g)) : ∀ m i, i + m = n → (t.drop b).take i = (t.drop p).take i →
    xP sc (d + 1) 109 2 [(0, .ref 18), (1, .int (nI b)), (2, .int (nI n)), (3, .int (nI i))] [] (A, g) P
  | 0, i, hm, he => by
    have hl := hs.len
    have hI : (nI i).toInt = (i : Int) := nI_toInt (by omega)
    have hN : (nI n).toInt = (n : Int) := nI_toInt (by omega)
    have e : i = n := by omega
    subst e
    rw [decide_eq_true he] at k
    refine xP_s rfl rfl rfl ?_
    refine xP_s rfl rfl rfl ?_
    refine xP_s rfl rfl rfl ?_
    refine xP_if (fun hc => ?_) (fun hc => ?_)
    · repeat' first
        | refine xP_s rfl rfl rfl ?_
        | refine xP_ret rfl rfl rfl ?_
      exact k
    · have := xc_f hc
      dsimp only at this
      omega
  | m + 1, i, hm, he => by
    have h18 := ht.2.1
    have hl := hs.len
    have hI : (nI i).toInt = (i : Int) := nI_toInt (by omega)
    have hN : (nI n).toInt = (n : Int) := nI_toInt (by omega)
    obtain ⟨c1, hc1⟩ : ∃ c, t[b + i]? = some c := ⟨t[b + i]'(by omega), List.getElem?_eq_getElem (by omega)⟩
    obtain ⟨c2, hc2⟩ : ∃ c, t[p + i]? = some c := ⟨t[p + i]'(by omega), List.getElem?_eq_getElem (by omega)⟩
    have hk1 := hs.chr c1 (List.mem_of_getElem? hc1)
    have hk2 := hs.chr c2 (List.mem_of_getElem? hc2)
    have hd1 : (t.drop b)[i]? = some c1 := by rw [List.getElem?_drop]; exact hc1
    have hd2 : (t.drop p)[i]? = some c2 := by rw [List.getElem?_drop]; exact hc2
    refine xP_s rfl rfl rfl ?_
    refine xP_s rfl rfl rfl ?_
    refine xP_s rfl rfl rfl ?_
    refine xP_if (fun hc => ?_) (fun hc => ?_)
    · have := xc_t hc
      dsimp only at this
      omega
    · refine xP_s rfl rfl rfl ?_
      refine xP_get rfl h18 rfl ?_
      refine xP_s rfl rfl rfl ?_
      refine xP_s rfl rfl rfl ?_
      refine xP_s rfl rfl rfl ?_
      rw [nI_add]
      refine xP_cv rfl rfl rfl rfl rfl hs.obj (p_at hs (by decide) (by decide) ?_)
      rw [cAt_get (by omega) hc1]
      refine xP_s rfl rfl rfl ?_
      refine xP_get rfl h18 rfl ?_
      refine xP_s rfl rfl rfl ?_
      refine xP_get rfl h18 rfl ?_
      refine xP_s rfl rfl rfl ?_
      refine xP_s rfl rfl rfl ?_
      rw [nI_add]
      refine xP_cv rfl rfl rfl rfl rfl hs.obj (p_at hs (by decide) (by decide) ?_)
      rw [cAt_get (by omega) hc2]
      refine xP_s rfl rfl rfl ?_
      refine xP_if (fun hc => ?_) (fun hc => ?_)
      · have hq := xc_t hc
        dsimp only at hq
        rw [nI_toInt (by omega), nI_toInt (by omega)] at hq
        have e : c1 = c2 := by omega
        have go := p_sameTextLoop (sc := sc) (d := d) (g := g) (P := P) ht hs hb hp k m (i + 1) (by omega) (by
          rw [List.take_add_one, List.take_add_one, he, hd1, hd2, e])
        rw [← nI_1] at go
        repeat' first
          | exact go
          | refine xP_s rfl rfl rfl ?_
      · have hq := xc_f hc
        dsimp only at hq
        rw [nI_toInt (by omega), nI_toInt (by omega)] at hq
        have e : ¬ (t.drop b).take n = (t.drop p).take n := fun q => by
          have z := congrArg (fun l => l[i]?) q
          rw [List.getElem?_take_of_lt (by omega), List.getElem?_take_of_lt (by omega), hd1, hd2] at z
          have := Option.some.inj z
          omega
        rw [decide_eq_false e] at k
        repeat' first
          | refine xP_s rfl rfl rfl ?_
          | refine xP_ret rfl rfl rfl ?_
        exact k
set_option maxRecDepth 100000 in
theorem p_isSameText {sc : xSc} {d g u p v b n : Nat} {A : List xC} {G : xG} {t : List Nat} {P : xO → xH → Prop} (ht : xTk A u p v G) (hs : xRw A 1 120 t) (hb : b + n ≤ t.length) (hp : p + n ≤ t.length) (k : P (.inl (some (.int (xb (decide ((t.drop b).take n = (t.drop p).take n)))))) (A, g)) : xM1 sc (d + 1) 109 [.ref 18, .int (nI b), .int (nI n)] (A, g) P := by
  have go := p_sameTextLoop (sc := sc) (d := d) (g := g) (P := P) ht hs hb hp k n 0 (by omega) rfl
  unfold xM1
  repeat' first
    | exact go
    | refine xP_s rfl rfl rfl ?_
/-- the text of a token -/
def vtx (t : List Nat) (G : xG) (j : Nat) (w : List Nat) : Prop := ∃ b, G.2.1 j = nI b ∧ b + w.length ≤ t.length ∧ (t.drop b).take w.length = w ∧ G.2.2.2.2.1 j = nI w.length
theorem vtx_inj {t : List Nat} {G : xG} {j : Nat} {w w' : List Nat} (ht : t.length ≤ 120) (h : vtx t G j w) (h' : vtx t G j w') : w = w' := by
  obtain ⟨b, h1, h2, h3, h4⟩ := h
  obtain ⟨b', q1, q2, q3, q4⟩ := h'
  rw [h1] at q1
  rw [h4] at q4
  have e1 := (nI_eq (by omega) (by omega)).mp q1
  have e2 := (nI_eq (by omega) (by omega)).mp q4
  rw [← h3, ← q3, e1, e2]
/-- the variables that have been met, by their tokens -/
def xVT (t : List Nat) (G : xG) (u : Nat) (vs : List (List Nat)) : Prop :=
  (∀ j, j < u → (G.1 j).toInt = 2 → ∃ w i, vtx t G j w ∧ G.2.2.2.1 j = nI i ∧ vs[i]? = some w) ∧
  (∀ (i : Nat) (w : List Nat), vs[i]? = some w → ¬ w = [95] → ∃ j, j < u ∧ (G.1 j).toInt = 2 ∧ vtx t G j w) ∧
  (∀ (i i' : Nat) (w : List Nat), vs[i]? = some w → vs[i']? = some w → ¬ w = [95] → i = i') ∧ vs.length ≤ u
def vix (w : List Nat) : List (List Nat) → Nat → Option Nat
  | [], _ => none
  | a :: r, i => if a = w then some i else vix w r (i + 1)
theorem vix_some {w : List Nat} : ∀ {vs : List (List Nat)} {i j : Nat}, vix w vs i = some j → i ≤ j ∧ vs[j - i]? = some w
  | [], i, j, h => by cases h
  | a :: r, i, j, h => by
    unfold vix at h
    split at h
    next ha =>
      have := Option.some.inj h
      subst this
      exact ⟨Nat.le_refl _, by simp [ha]⟩
    next =>
      obtain ⟨h1, h2⟩ := vix_some h
      refine ⟨by omega, ?_⟩
      rw [show j - i = (j - (i + 1)) + 1 by omega]
      simpa using h2
theorem vix_none {w : List Nat} : ∀ {vs : List (List Nat)} {i : Nat}, vix w vs i = none → ∀ (j : Nat), ¬ vs[j]? = some w
  | [], i, h, j => by simp
  | a :: r, i, h, j => by
    unfold vix at h
    split at h
    next => cases h
    next ha =>
      cases j with
      | zero => simpa using ha
      | succ j => simpa using vix_none h j
/-- the number of a variable, and the variables with it -/
def vno (vs : List (List Nat)) (w : List Nat) : Nat := if w = [95] then vs.length else (match vix w vs 0 with
  | some i => i
  | none => vs.length)
def vnx (vs : List (List Nat)) (w : List Nat) : List (List Nat) := if w = [95] then vs ++ [w] else (match vix w vs 0 with
  | some _ => vs
  | none => vs ++ [w])
set_option maxRecDepth 100000 in
theorem p_varLoop {sc : xSc} {d g u p v n : Nat} {A : List xC} {G : xG} {t w : List Nat} {vs : List (List Nat)} {P : xO → xH → Prop} (ht : xTk A u p v G) (hs : xRw A 1 120 t) (hvt : xVT t G u vs) (hn : w.length = n) (hp : p + n ≤ t.length) (hw : (t.drop p).take n = w) (h95 : ¬ w = [95])
    (kf : ∀ (i : Nat), vs[i]? = some w → P (.inl (some (.int (nI i)))) (A, g))
    (kn : (∀ (i : Nat), ¬ vs[i]? = some w) → ∀ x, xP sc (d + 2) 108 94 [(0, .ref 18), (1, .int (nI n)), (2, .int 0), (3, .int x)] [] (A, g) P) : ∀ m j, j + m = u → (∀ j', j' < j → ¬ ((G.1 j').toInt = 2 ∧ vtx t G j' w)) →
    xP sc (d + 2) 108 29 [(0, .ref 18), (1, .int (nI n)), (2, .int 0), (3, .int (nI j))] [] (A, g) P
  | 0, j, hm, hno => by
    have h18 := ht.2.1
    have hu := ht.1
    have hJ : (nI j).toInt = (j : Int) := nI_toInt (by omega)
    have hU : (nI u).toInt = (u : Int) := nI_toInt (by omega)
    refine xP_s rfl rfl rfl ?_
    refine xP_s rfl rfl rfl ?_
    refine xP_get rfl h18 rfl ?_
    refine xP_s rfl rfl rfl ?_
    refine xP_if (fun hc => ?_) (fun hc => ?_)
    · refine kn (fun i hi => ?_) _
      obtain ⟨j', h1, h2, h3⟩ := hvt.2.1 i w hi h95
      exact hno j' (by omega) ⟨h2, h3⟩
    · have := xc_f hc
      dsimp only at this
      omega
  | m + 1, j, hm, hno => by
    have h18 := ht.2.1
    have hu := ht.1
    have hl := hs.len
    have h120 : (120 : Int32).toInt = 120 := rfl
    have h2 : (2 : Int32).toInt = 2 := rfl
    have hJ : (nI j).toInt = (j : Int) := nI_toInt (by omega)
    have hU : (nI u).toInt = (u : Int) := nI_toInt (by omega)
    have go := fun hq => p_varLoop (sc := sc) (d := d) (g := g) (P := P) ht hs hvt hn hp hw h95 kf kn m (j + 1) (by omega) hq
    have nxt : ¬ ((G.1 j).toInt = 2 ∧ vtx t G j w) → ∀ j', j' < j + 1 → ¬ ((G.1 j').toInt = 2 ∧ vtx t G j' w) := by
      intro hq j' hj'
      by_cases e : j' = j
      · subst e
        exact hq
      · exact hno j' (by omega)
    rw [← nI_1] at go
    refine xP_s rfl rfl rfl ?_
    refine xP_s rfl rfl rfl ?_
    refine xP_get rfl h18 rfl ?_
    refine xP_s rfl rfl rfl ?_
    refine xP_if (fun hc => ?_) (fun hc => ?_)
    · have := xc_t hc
      dsimp only at this
      omega
    · refine xP_s rfl rfl rfl ?_
      refine xP_s rfl rfl rfl ?_
      refine xP_s rfl rfl rfl ?_
      refine xP_if (fun hc => ?_) (fun hc => ?_)
      · have := xc_t hc
        dsimp only at this
        omega
      · refine xP_s rfl rfl rfl ?_
        refine xP_s rfl rfl rfl ?_
        refine xP_s rfl rfl rfl ?_
        refine xP_get rfl h18 rfl ?_
        refine xP_s rfl rfl rfl ?_
        refine xP_ial rfl ht.2.2.1 (by decide) (xib_of (by omega) (by omega)) ?_
        rw [nI_clamp (by omega)]
        refine xP_s rfl rfl rfl ?_
        refine xP_s rfl rfl rfl ?_
        refine xP_if (fun hc => ?_) (fun hc => ?_)
        · have hk := xc_t hc
          dsimp only at hk
          have go1 := go (nxt (fun q => hk (by rw [h2]; exact q.1)))
          repeat' first
            | exact go1
            | refine xP_s rfl rfl rfl ?_
        · have hk := xc_f hc
          dsimp only at hk
          obtain ⟨w', i, z1, z2, z3⟩ := hvt.1 j (by omega) hk
          obtain ⟨b, y1, y2, y3, y4⟩ := id z1
          have hW : (nI w'.length).toInt = (w'.length : Int) := nI_toInt (by omega)
          have hN : (nI n).toInt = (n : Int) := nI_toInt (by omega)
          refine xP_s rfl rfl rfl ?_
          refine xP_get rfl h18 rfl ?_
          refine xP_s rfl rfl rfl ?_
          refine xP_ial rfl ht.2.2.2.2.2.2.1 (by decide) (xib_of (by omega) (by omega)) ?_
          rw [nI_clamp (by omega), y4]
          refine xP_s rfl rfl rfl ?_
          refine xP_s rfl rfl rfl ?_
          refine xP_if (fun hc => ?_) (fun hc => ?_)
          · have hz := xc_t hc
            dsimp only at hz
            have go1 := go (nxt (fun q => hz (by
              have := vtx_inj hl z1 q.2
              rw [hW, hN, this, hn])))
            repeat' first
              | exact go1
              | refine xP_s rfl rfl rfl ?_
          · have hz := xc_f hc
            dsimp only at hz
            have ewl : w'.length = n := by omega
            refine xP_s rfl rfl rfl ?_
            refine xP_s rfl rfl rfl ?_
            refine xP_get rfl h18 rfl ?_
            refine xP_s rfl rfl rfl ?_
            refine xP_ial rfl ht.2.2.2.1 (by decide) (xib_of (by omega) (by omega)) ?_
            rw [nI_clamp (by omega), y1]
            refine xP_s rfl rfl rfl ?_
            refine xP_cv rfl rfl rfl rfl rfl h18 (p_isSameText ht hs (by omega) hp ?_)
            rw [hw, show (t.drop b).take n = w' by rw [← ewl]; exact y3]
            by_cases he : w' = w
            · rw [decide_eq_true he]
              refine xP_s rfl rfl rfl ?_
              refine xP_s rfl rfl rfl ?_
              refine xP_get rfl h18 rfl ?_
              refine xP_s rfl rfl rfl ?_
              refine xP_ial rfl ht.2.2.2.2.2.1 (by decide) (xib_of (by omega) (by omega)) ?_
              rw [nI_clamp (by omega), z2]
              repeat' first
                | refine xP_s rfl rfl rfl ?_
                | refine xP_ret rfl rfl rfl ?_
              exact kf i (he ▸ z3)
            · rw [decide_eq_false he]
              have go1 := go (nxt (fun q => he (vtx_inj hl z1 q.2)))
              repeat' first
                | exact go1
                | refine xP_s rfl rfl rfl ?_
set_option maxRecDepth 100000 in
theorem p_variableNumber {sc : xSc} {d g u p v n : Nat} {A : List xC} {G : xG} {t w : List Nat} {vs : List (List Nat)} {P : xO → xH → Prop} (ht : xTk A u p v G) (hs : xRw A 1 120 t) (hvt : xVT t G u vs) (hv : v = vs.length) (hn : w.length = n) (hp : p + n ≤ t.length) (hw : (t.drop p).take n = w)
    (k : ∀ A', xTk A' u p (vnx vs w).length G → xSame A A' [18] → P (.inl (some (.int (nI (vno vs w))))) (A', g)) : xM1 sc (d + 2) 108 [.ref 18, .int (nI n)] (A, g) P := by
  have h18 := ht.2.1
  have hu := ht.1
  have hl := hs.len
  have hvl := hvt.2.2.2
  have h1 : (1 : Int32).toInt = 1 := rfl
  have h95' : (95 : Int32).toInt = 95 := rfl
  have hN : (nI n).toInt = (n : Int) := nI_toInt (by omega)
  have new : vno vs w = vs.length → vnx vs w = vs ++ [w] → ∀ y x, xP sc (d + 2) 108 94 [(0, .ref 18), (1, .int (nI n)), (2, .int y), (3, .int x)] [] (A, g) P := by
    intro e1 e2 y x
    refine xP_s rfl rfl rfl ?_
    refine xP_s rfl rfl rfl ?_
    refine xP_get rfl h18 rfl ?_
    refine xP_s rfl rfl rfl ?_
    refine xP_s rfl rfl rfl ?_
    refine xP_put rfl h18 (Nat.le_of_ble_eq_true rfl) rfl ?_
    rw [show nI v + 1 = nI (v + 1) from nI_1 v]
    have h2 := ht.setO (u' := u) (p' := p) (v' := v + 1) hu
    refine xP_s rfl rfl rfl ?_
    refine xP_get rfl h2.2.1 rfl ?_
    repeat' first
      | refine xP_s rfl rfl rfl ?_
      | refine xP_ret rfl rfl rfl ?_
    rw [show nI (v + 1) - 1 = nI v by rw [← nI_1]; exact Int32.add_sub_cancel _ _]
    have z := k _ (by rw [e2, List.length_append, List.length_singleton, ← hv]; exact h2) (xSame.set _ _)
    rw [e1, ← hv] at z
    exact z
  have named : ¬ w = [95] → xP sc (d + 2) 108 29 [(0, .ref 18), (1, .int (nI n)), (2, .int 0), (3, .int (nI 0))] [] (A, g) P := by
    intro h95
    refine p_varLoop ht hs hvt hn hp hw h95 (fun i hi => ?_) (fun hno x => ?_) u 0 (by omega) (fun j' hj' => by omega)
    · cases hx : vix w vs 0 with
      | none => exact absurd hi (vix_none hx i)
      | some j =>
        have e : j = i := by
          obtain ⟨_, q⟩ := vix_some hx
          exact hvt.2.2.1 _ _ w (by simpa using q) hi h95
        have e1 : vno vs w = i := by
          unfold vno
          rw [if_neg h95, hx]
          exact e
        have e2 : vnx vs w = vs := by
          unfold vnx
          rw [if_neg h95, hx]
        have z := k A (by rw [e2, ← hv]; exact ht) (xSame.refl _ _)
        rw [e1] at z
        exact z
    · cases hx : vix w vs 0 with
      | none =>
        refine new ?_ ?_ 0 x
        · unfold vno
          rw [if_neg h95, hx]
        · unfold vnx
          rw [if_neg h95, hx]
      | some j =>
        obtain ⟨_, q⟩ := vix_some hx
        exact absurd q (hno _)
  unfold xM1
  refine xP_s rfl rfl rfl ?_
  refine xP_s rfl rfl rfl ?_
  refine xP_s rfl rfl rfl ?_
  refine xP_if (fun hc => ?_) (fun hc => ?_)
  · have hne := xc_t hc
    dsimp only at hne
    have nm := named (fun q => hne (by rw [hN, h1, ← hn, q]; rfl))
    repeat' first
      | exact nm
      | refine xP_s rfl rfl rfl ?_
  · have heq := xc_f hc
    dsimp only at heq
    have en : n = 1 := by omega
    obtain ⟨c, hc0⟩ : ∃ c, t[p]? = some c := ⟨t[p]'(by omega), List.getElem?_eq_getElem (by omega)⟩
    have hc128 := hs.chr c (List.mem_of_getElem? hc0)
    have hC : (nI c).toInt = (c : Int) := nI_toInt (by omega)
    have ew : w = [c] := by
      rw [← hw, en]
      have : (t.drop p)[0]? = some c := by rw [List.getElem?_drop]; exact hc0
      cases hx : t.drop p with
      | nil =>
        rw [hx] at this
        cases this
      | cons a r =>
        rw [hx] at this
        have := Option.some.inj this
        rw [← this]
        rfl
    refine xP_s rfl rfl rfl ?_
    refine xP_get rfl h18 rfl ?_
    refine xP_s rfl rfl rfl ?_
    refine xP_get rfl h18 rfl ?_
    refine xP_cv rfl rfl rfl rfl rfl hs.obj (p_at hs (by decide) (by decide) ?_)
    rw [cAt_get (by omega) hc0]
    refine xP_s rfl rfl rfl ?_
    refine xP_s rfl rfl rfl ?_
    refine xP_if (fun hc => ?_) (fun hc => ?_)
    · have hne := xc_t hc
      dsimp only at hne
      have nm := named (fun q => hne (by
        rw [ew] at q
        have := (List.cons.inj q).1
        rw [hC, h95', this]
        rfl))
      repeat' first
        | exact nm
        | refine xP_s rfl rfl rfl ?_
    · have heq := xc_f hc
      dsimp only at heq
      have e95 : w = [95] := by
        rw [ew, show c = 95 by omega]
      have nw := new (by unfold vno; rw [if_pos e95]) (by unfold vnx; rw [if_pos e95]) 1 0
      have hU : (nI u).toInt = (u : Int) := nI_toInt (by omega)
      refine xP_s rfl rfl rfl ?_
      refine xP_s rfl rfl rfl ?_
      refine xP_s rfl rfl rfl ?_
      refine xP_s rfl rfl rfl ?_
      refine xP_s rfl rfl rfl ?_
      refine xP_s rfl rfl rfl ?_
      refine xP_s rfl rfl rfl ?_
      refine xP_get rfl h18 rfl ?_
      refine xP_s rfl rfl rfl ?_
      refine xP_if (fun hc => ?_) (fun hc => ?_)
      · exact nw
      · refine xP_s rfl rfl rfl ?_
        refine xP_s rfl rfl rfl ?_
        refine xP_s rfl rfl rfl ?_
        refine xP_if (fun hc => ?_) (fun hc => ?_)
        · exact nw
        · repeat' first
            | exact nw
            | refine xP_s rfl rfl rfl ?_
set_option maxRecDepth 100000 in
theorem p_tkVariable {sc : xSc} {d g u p v e : Nat} {A : List xC} {G : xG} {t w : List Nat} {vs : List (List Nat)} {P : xO → xH → Prop} (ht : xTk A u p v G) (hs : xRw A 1 120 t) (hvt : xVT t G u vs) (hv : v = vs.length) (hu : u < 120) (hpe : p ≤ e) (he : e ≤ t.length) (hw : (t.drop p).take (e - p) = w)
    (k0 : 24 < w.length → P (.inl (some (.int 0))) (A, g))
    (k : w.length ≤ 24 → ∀ A', xTk A' (u + 1) e (vnx vs w).length (xTn G u 2 p e (nI (vno vs w)) (nI w.length) 0) → xSame A A' [18, 19, 20, 21, 22, 23, 24] → P (.inl (some (.int 1))) (A', g)) : xM1 sc (d + 3) 107 [.ref 18, .int (nI e)] (A, g) P := by
  have h18 := ht.2.1
  have hl := hs.len
  have h24 : (24 : Int32).toInt = 24 := rfl
  have hwl : w.length = e - p := by
    rw [← hw, List.length_take, List.length_drop]
    omega
  have hD : (nI (e - p)).toInt = ((e - p : Nat) : Int) := nI_toInt (by omega)
  unfold xM1
  refine xP_s rfl rfl rfl ?_
  refine xP_s rfl rfl rfl ?_
  refine xP_get rfl h18 rfl ?_
  refine xP_s rfl rfl rfl ?_
  rw [nI_subN hpe]
  refine xP_s rfl rfl rfl ?_
  refine xP_s rfl rfl rfl ?_
  refine xP_s rfl rfl rfl ?_
  refine xP_s rfl rfl rfl ?_
  refine xP_if (fun hc => ?_) (fun hc => ?_)
  · have := xc_t hc
    dsimp only at this
    repeat' first
      | refine xP_s rfl rfl rfl ?_
      | refine xP_ret rfl rfl rfl ?_
    exact k0 (by omega)
  · have := xc_f hc
    dsimp only at this
    refine xP_s rfl rfl rfl ?_
    refine xP_s rfl rfl rfl ?_
    refine xP_s rfl rfl rfl ?_
    refine xP_s rfl rfl rfl ?_
    refine xP_s rfl rfl rfl ?_
    refine xP_cv rfl rfl rfl rfl rfl h18 (p_variableNumber ht hs hvt hv hwl (by omega) hw (fun A1 q1 q2 => ?_))
    refine xP_s rfl rfl rfl ?_
    refine xP_s rfl rfl rfl ?_
    refine xP_cv rfl rfl rfl rfl rfl q1.2.1 (p_tadd q1 hu (fun A2 z1 z2 => ?_))
    repeat' first
      | refine xP_s rfl rfl rfl ?_
      | refine xP_ret rfl rfl rfl ?_
    rw [← hwl] at z1
    exact k (by omega) A2 z1 ((q2.trans z2).wide (by decide))
/-- a digit of base 16 (true) or 10 -/
def dg (b : Bool) (c : Nat) : Option Nat := if isDg c then some (c - 48) else if b && (decide (97 ≤ c) && decide (c ≤ 102)) then some (c - 87) else none
def bas (b : Bool) : Nat := if b then 16 else 10
set_option maxRecDepth 100000 in
theorem dg_nI : ∀ b c, c < 128 → dgI b (nI c) = (match dg b c with | some x => nI x | none => -1) := by decide
theorem dg_lt {b : Bool} {c x : Nat} (h : dg b c = some x) : x < 16 := by
  unfold dg at h
  split at h
  next hc =>
    cases h
    simp [isDg] at hc
    omega
  next =>
    split at h
    next hc =>
      cases h
      simp at hc
      omega
    next => cases h
/-- digits: their value, up to what an int holds, and what is left -/
def dgr (b : Bool) : List Nat → Nat → Option (Nat × List Nat)
  | [], a => some (a, [])
  | c :: r, a => match dg b c with
    | none => some (a, c :: r)
    | some x => if 2147483647 < a * bas b + x then none else dgr b r (a * bas b + x)
theorem lN_T {n : Nat} (h : n < 2 ^ 63) : (lN n).toInt = (n : Int) := lg_ofNat_toInt h
theorem lcI (n : Nat) (h : n < 2 ^ 63) : (lg_cmp (lN n) 2147483647).toInt ≤ 0 ↔ n ≤ 2147483647 := by
  have e : (2147483647 : Int64).toInt = 2147483647 := rfl
  have q := lg_cmp_le (lN n) 2147483647
  rw [Int32.le_iff_toInt_le, Int64.le_iff_toInt_le, lN_T h, e] at q
  rw [show (0 : Int) = (0 : Int32).toInt from rfl, q]
  omega
theorem bas_l (b : Bool) : (if b = true then (16 : Int32) else 10).toInt64 = lN (bas b) := by cases b <;> rfl
set_option maxRecDepth 100000 in
theorem p_digitsLoop {sc : xSc} {d g u p v f : Nat} {A : List xC} {G : xG} {t : List Nat} {b : Bool} {P : xO → xH → Prop} (ht : xTk A u p v G) (hs : xRw A 1 120 t) (hu : u < 120) : ∀ (s : List Nat) (i a : Nat), t.drop i = s → i ≤ t.length → a ≤ 2147483647 →
    (dgr b s a = none → P (.inl (some (.int 0))) (A, g)) →
    (∀ A' q, dgr b s a = some q → xTk A' (u + 1) (t.length - q.2.length) v (xTn G u 3 p (t.length - q.2.length) (nI q.1) 0 0) → xSame A A' [18, 19, 20, 21, 22, 23, 24] → P (.inl (some (.int 1))) (A', g)) →
    xP sc (d + 2) 111 8 [(0, .ref 18), (1, .int (nI f)), (2, .int (if b then 16 else 10)), (3, .long (lN a)), (5, .int (nI i)), (6, .int (nI i))] [] (A, g) P := by
  have fin : ∀ (i a : Nat) (s : List Nat) (ex : xL), i = t.length - s.length → (ex = [] ∨ ∃ x, ex = [(7, .int x)]) → (∀ A', xTk A' (u + 1) (t.length - s.length) v (xTn G u 3 p (t.length - s.length) (nI a) 0 0) → xSame A A' [18, 19, 20, 21, 22, 23, 24] → P (.inl (some (.int 1))) (A', g)) → xP sc (d + 2) 111 75 ([(0, .ref 18), (1, .int (nI f)), (2, .int (if b then 16 else 10)), (3, .long (lN a)), (5, .int (nI i)), (6, .int (nI i))] ++ ex) [] (A, g) P := by
    intro i a s ex hi hex k
    have h18 := ht.2.1
    have base : xP sc (d + 2) 111 75 [(0, .ref 18), (1, .int (nI f)), (2, .int (if b then 16 else 10)), (3, .long (lN a)), (5, .int (nI i)), (6, .int (nI i))] [] (A, g) P := by
      refine xP_s rfl rfl rfl ?_
      refine xP_s rfl rfl rfl ?_
      refine xP_s rfl rfl rfl ?_
      refine xP_s rfl rfl rfl ?_
      refine xP_s rfl rfl rfl ?_
      refine xP_s rfl rfl rfl ?_
      refine xP_s rfl rfl rfl ?_
      rw [lN_i]
      refine xP_cv rfl rfl rfl rfl rfl h18 (p_tadd ht hu (fun A1 q1 q2 => ?_))
      repeat' first
        | refine xP_s rfl rfl rfl ?_
        | refine xP_ret rfl rfl rfl ?_
      rw [hi] at q1
      exact k A1 q1 q2
    rcases hex with rfl | ⟨x, rfl⟩
    · exact base
    · exact xP_more [(7, .int x)] rfl base
  intro s
  induction s with
  | nil =>
    intro i a hd hi ha k0 k1
    have h18 := ht.2.1
    have hl := hs.len
    have e := drop_n hd hi
    have hI : (nI i).toInt = (i : Int) := nI_toInt (by omega)
    have hL : (nI t.length).toInt = (t.length : Int) := nI_toInt (by omega)
    have fn := fin i a [] [] (by rw [List.length_nil]; exact e) (Or.inl rfl) (fun A' q1 q2 => k1 A' (a, []) rfl q1 q2)
    refine xP_s rfl rfl rfl ?_
    refine xP_s rfl rfl rfl ?_
    refine xP_get rfl h18 rfl ?_
    refine xP_cv rfl rfl rfl rfl rfl hs.obj (p_length hs ?_)
    refine xP_s rfl rfl rfl ?_
    refine xP_if (fun hc => ?_) (fun hc => ?_)
    · exact fn
    · have := xc_f hc
      dsimp only at this
      omega
  | cons c r ih =>
    intro i a hd hi ha k0 k1
    have h18 := ht.2.1
    have hl := hs.len
    obtain ⟨hd1, hlt⟩ := drop_s hd
    have hI : (nI i).toInt = (i : Int) := nI_toInt (by omega)
    have hL : (nI t.length).toInt = (t.length : Int) := nI_toInt (by omega)
    have hc128 : c < 128 := hs.chr c (List.mem_of_mem_drop (hd ▸ List.mem_cons_self))
    have hbas : bas b ≤ 16 := by cases b <;> decide
    refine xP_s rfl rfl rfl ?_
    refine xP_s rfl rfl rfl ?_
    refine xP_get rfl h18 rfl ?_
    refine xP_cv rfl rfl rfl rfl rfl hs.obj (p_length hs ?_)
    refine xP_s rfl rfl rfl ?_
    refine xP_if (fun hc => ?_) (fun hc => ?_)
    · have := xc_t hc
      dsimp only at this
      omega
    · refine xP_s rfl rfl rfl ?_
      refine xP_get rfl h18 rfl ?_
      refine xP_s rfl rfl rfl ?_
      refine xP_cv rfl rfl rfl rfl rfl hs.obj (p_at hs (by decide) (by decide) ?_)
      rw [cAt_sfx0 hd (by omega), oc_0]
      refine xP_s rfl rfl rfl ?_
      refine xP_call rfl rfl rfl (p_digit ?_)
      rw [dg_nI b c hc128]
      cases hx : dg b c with
      | none =>
        have fn := fin i a (c :: r) [(7, .int (-1))] (drop_len hd hi) (Or.inr ⟨_, rfl⟩) (fun A' q1 q2 => k1 A' (a, c :: r) (by unfold dgr; rw [hx]) q1 q2)
        repeat' first
          | exact fn
          | refine xP_s rfl rfl rfl ?_
      | some x =>
        have hx16 := dg_lt hx
        have hmul : a * bas b ≤ 2147483647 * 16 := Nat.mul_le_mul ha hbas
        have hX : (nI x).toInt = (x : Int) := nI_toInt (by omega)
        have ev : lN a * (if b = true then (16 : Int32) else 10).toInt64 + (nI x).toInt64 = lN (a * bas b + x) := by
          rw [bas_l, nI_l (by omega), lN_mul, lN_add]
        have hcm := lcI (a * bas b + x) (by omega)
        have e0 : dgr b (c :: r) a = (if 2147483647 < a * bas b + x then none else dgr b r (a * bas b + x)) := by
          conv => lhs; unfold dgr
          rw [hx]
        rw [e0] at k0 k1
        dsimp only
        refine xP_s rfl rfl rfl ?_
        refine xP_s rfl rfl rfl ?_
        refine xP_s rfl rfl rfl ?_
        refine xP_s rfl rfl rfl ?_
        refine xP_if (fun hc => ?_) (fun hc => ?_)
        · refine xP_s rfl rfl rfl ?_
          refine xP_s rfl rfl rfl ?_
          refine xP_s rfl rfl rfl ?_
          refine xP_s rfl rfl rfl ?_
          refine xP_s rfl rfl rfl ?_
          refine xP_s rfl rfl rfl ?_
          refine xP_s rfl rfl rfl ?_
          rw [ev]
          refine xP_s rfl rfl rfl ?_
          refine xP_s rfl rfl rfl ?_
          refine xP_s rfl rfl rfl ?_
          refine xP_s rfl rfl rfl ?_
          refine xP_s rfl rfl rfl ?_
          refine xP_if (fun hc => ?_) (fun hc => ?_)
          · have hle := xc_t hc
            dsimp only at hle
            have hle := hcm.mp hle
            rw [if_neg (by omega)] at k0 k1
            have go := xP_more [(7, .int (nI x))] rfl (nI_1 i ▸ ih (i + 1) (a * bas b + x) hd1 (by omega) hle k0 k1)
            repeat' first
              | exact go
              | refine xP_s rfl rfl rfl ?_
          · have hgt := xc_f hc
            dsimp only at hgt
            rw [if_pos (by
              rcases Nat.lt_or_ge 2147483647 (a * bas b + x) with z | z
              · exact z
              · have := hcm.mpr z
                have h0 : (0 : Int32).toInt = 0 := rfl
                omega)] at k0
            repeat' first
              | refine xP_s rfl rfl rfl ?_
              | refine xP_ret rfl rfl rfl ?_
            exact k0 rfl
        · exact absurd (xc_f hc) (nI_neg1 (by omega))
set_option maxRecDepth 100000 in
theorem p_addDigits {sc : xSc} {d g u p v f : Nat} {A : List xC} {G : xG} {t s : List Nat} {b : Bool} {P : xO → xH → Prop} (ht : xTk A u p v G) (hs : xRw A 1 120 t) (hu : u < 120) (hd : t.drop f = s) (hf : f ≤ t.length)
    (k0 : dgr b s 0 = none → P (.inl (some (.int 0))) (A, g))
    (k1 : ∀ A' q, dgr b s 0 = some q → xTk A' (u + 1) (t.length - q.2.length) v (xTn G u 3 p (t.length - q.2.length) (nI q.1) 0 0) → xSame A A' [18, 19, 20, 21, 22, 23, 24] → P (.inl (some (.int 1))) (A', g)) : xM1 sc (d + 2) 111 [.ref 18, .int (nI f), .int (if b then 16 else 10)] (A, g) P := by
  have go := p_digitsLoop (sc := sc) (d := d) (g := g) (f := f) (b := b) (P := P) ht hs hu s f 0 hd hf (by omega) k0 k1
  unfold xM1
  repeat' first
    | exact go
    | refine xP_s rfl rfl rfl ?_
/-- a string: its characters and what is left -/
def strq : List Nat → Option (List Nat × List Nat)
  | [] => none
  | c :: r => if c = 34 then some ([], r) else if c = 92 then none else (strq r).map (fun q => (c :: q.1, q.2))
set_option maxRecDepth 100000 in
theorem p_stringLoop {sc : xSc} {d g u p v : Nat} {A : List xC} {G : xG} {t : List Nat} {P : xO → xH → Prop} (ht : xTk A u p v G) (hs : xRw A 1 120 t) (hu : u < 120) : ∀ (s : List Nat) (i n : Nat), t.drop i = s → i ≤ t.length → i = p + 1 + n →
    ((strq s = none ∨ ∃ q, strq s = some q ∧ 12 < n + q.1.length) → P (.inl (some (.int 0))) (A, g)) →
    (∀ A' q, strq s = some q → n + q.1.length ≤ 12 → xTk A' (u + 1) (t.length - q.2.length) v (xTn G u 4 p (t.length - q.2.length) (nI (p + 1)) (nI (n + q.1.length)) 0) → xSame A A' [18, 19, 20, 21, 22, 23, 24] → P (.inl (some (.int 1))) (A', g)) →
    xP sc (d + 2) 112 9 [(0, .ref 18), (1, .int (nI (p + 1))), (2, .int (nI i))] [] (A, g) P
  | [], i, n, hd, hi, hin, k0, k1 => by
    have h18 := ht.2.1
    have hl := hs.len
    have e := drop_n hd hi
    have hI : (nI i).toInt = (i : Int) := nI_toInt (by omega)
    have hL : (nI t.length).toInt = (t.length : Int) := nI_toInt (by omega)
    refine xP_s rfl rfl rfl ?_
    refine xP_s rfl rfl rfl ?_
    refine xP_get rfl h18 rfl ?_
    refine xP_cv rfl rfl rfl rfl rfl hs.obj (p_length hs ?_)
    refine xP_s rfl rfl rfl ?_
    refine xP_if (fun hc => ?_) (fun hc => ?_)
    · repeat' first
        | refine xP_s rfl rfl rfl ?_
        | refine xP_ret rfl rfl rfl ?_
      exact k0 (Or.inl rfl)
    · have := xc_f hc
      dsimp only at this
      omega
  | c :: r, i, n, hd, hi, hin, k0, k1 => by
    have h18 := ht.2.1
    have hl := hs.len
    obtain ⟨hd1, hlt⟩ := drop_s hd
    have h34 : (34 : Int32).toInt = 34 := rfl
    have h92 : (92 : Int32).toInt = 92 := rfl
    have h12 : (12 : Int32).toInt = 12 := rfl
    have hI : (nI i).toInt = (i : Int) := nI_toInt (by omega)
    have hL : (nI t.length).toInt = (t.length : Int) := nI_toInt (by omega)
    have hNn : (nI n).toInt = (n : Int) := nI_toInt (by omega)
    have hc128 : c < 128 := hs.chr c (List.mem_of_mem_drop (hd ▸ List.mem_cons_self))
    have hC : (nI c).toInt = (c : Int) := nI_toInt (by omega)
    have esub : nI i - nI (p + 1) = nI n := by
      rw [nI_subN (by omega)]
      congr 1
      omega
    refine xP_s rfl rfl rfl ?_
    refine xP_s rfl rfl rfl ?_
    refine xP_get rfl h18 rfl ?_
    refine xP_cv rfl rfl rfl rfl rfl hs.obj (p_length hs ?_)
    refine xP_s rfl rfl rfl ?_
    refine xP_if (fun hc => ?_) (fun hc => ?_)
    · have := xc_t hc
      dsimp only at this
      omega
    · refine xP_s rfl rfl rfl ?_
      refine xP_get rfl h18 rfl ?_
      refine xP_s rfl rfl rfl ?_
      refine xP_cv rfl rfl rfl rfl rfl hs.obj (p_at hs (by decide) (by decide) ?_)
      rw [cAt_sfx0 hd (by omega), oc_0]
      refine xP_s rfl rfl rfl ?_
      refine xP_s rfl rfl rfl ?_
      refine xP_s rfl rfl rfl ?_
      refine xP_s rfl rfl rfl ?_
      refine xP_if (fun hc => ?_) (fun hc => ?_)
      · have n34 := xc_t hc
        dsimp only at n34
        refine xP_s rfl rfl rfl ?_
        refine xP_s rfl rfl rfl ?_
        refine xP_s rfl rfl rfl ?_
        refine xP_if (fun hc => ?_) (fun hc => ?_)
        · have n92 := xc_t hc
          dsimp only at n92
          have e : strq (c :: r) = (strq r).map (fun q => (c :: q.1, q.2)) := by
            conv => lhs; unfold strq
            rw [if_neg (by omega), if_neg (by omega)]
          have go := p_stringLoop (sc := sc) (d := d) (g := g) (P := P) ht hs hu r (i + 1) (n + 1) hd1 (by omega) (by omega) (fun z => k0 (by
            rw [e]
            rcases z with z | ⟨q, z1, z2⟩
            · exact Or.inl (by rw [z]; rfl)
            · exact Or.inr ⟨(c :: q.1, q.2), by rw [z1]; rfl, by rw [List.length_cons]; omega⟩)) (fun A' q z1 z2 z3 z4 => k1 A' (c :: q.1, q.2) (by rw [e, z1]; rfl) (by rw [List.length_cons]; omega) (by
              rw [List.length_cons, show n + (q.1.length + 1) = n + 1 + q.1.length by omega]
              exact z3) z4)
          rw [← nI_1 i] at go
          have go1 := xP_more [(3, .int (nI c))] rfl go
          repeat' first
            | exact go1
            | refine xP_s rfl rfl rfl ?_
        · have n92 := xc_f hc
          dsimp only at n92
          repeat' first
            | refine xP_s rfl rfl rfl ?_
            | refine xP_ret rfl rfl rfl ?_
          refine k0 (Or.inl ?_)
          unfold strq
          rw [if_neg (by omega), if_pos (by omega)]
      · have n34 := xc_f hc
        dsimp only at n34
        have e : strq (c :: r) = some ([], r) := by
          conv => lhs; unfold strq
          rw [if_pos (by omega)]
        have er : t.length - r.length = i + 1 := (drop_len hd1 (by omega)).symm
        refine xP_s rfl rfl rfl ?_
        refine xP_s rfl rfl rfl ?_
        refine xP_s rfl rfl rfl ?_
        rw [esub]
        refine xP_s rfl rfl rfl ?_
        refine xP_s rfl rfl rfl ?_
        refine xP_s rfl rfl rfl ?_
        refine xP_s rfl rfl rfl ?_
        refine xP_if (fun hc => ?_) (fun hc => ?_)
        · have := xc_t hc
          dsimp only at this
          repeat' first
            | refine xP_s rfl rfl rfl ?_
            | refine xP_ret rfl rfl rfl ?_
          exact k0 (Or.inr ⟨_, e, by rw [List.length_nil]; omega⟩)
        · have := xc_f hc
          dsimp only at this
          refine xP_s rfl rfl rfl ?_
          refine xP_s rfl rfl rfl ?_
          refine xP_s rfl rfl rfl ?_
          refine xP_s rfl rfl rfl ?_
          refine xP_s rfl rfl rfl ?_
          rw [nI_1 i]
          refine xP_s rfl rfl rfl ?_
          refine xP_s rfl rfl rfl ?_
          refine xP_s rfl rfl rfl ?_
          refine xP_cv rfl rfl rfl rfl rfl h18 (p_tadd ht hu (fun A1 q1 q2 => ?_))
          repeat' first
            | refine xP_s rfl rfl rfl ?_
            | refine xP_ret rfl rfl rfl ?_
          refine k1 A1 _ e (by rw [List.length_nil]; omega) ?_ q2
          rw [er]
          exact q1
set_option maxRecDepth 100000 in
theorem p_tkString {sc : xSc} {d g u p v : Nat} {A : List xC} {G : xG} {t s : List Nat} {P : xO → xH → Prop} (ht : xTk A u p v G) (hs : xRw A 1 120 t) (hu : u < 120) (hd : t.drop (p + 1) = s) (hp : p + 1 ≤ t.length)
    (k0 : (strq s = none ∨ ∃ q, strq s = some q ∧ 12 < q.1.length) → P (.inl (some (.int 0))) (A, g))
    (k1 : ∀ A' q, strq s = some q → q.1.length ≤ 12 → xTk A' (u + 1) (t.length - q.2.length) v (xTn G u 4 p (t.length - q.2.length) (nI (p + 1)) (nI q.1.length) 0) → xSame A A' [18, 19, 20, 21, 22, 23, 24] → P (.inl (some (.int 1))) (A', g)) : xM1 sc (d + 2) 112 [.ref 18] (A, g) P := by
  have h18 := ht.2.1
  have go := p_stringLoop (sc := sc) (d := d) (g := g) (P := P) ht hs hu s (p + 1) 0 hd hp (by omega) (fun z => k0 (by simpa using z)) (fun A' q z1 z2 z3 z4 => k1 A' q z1 (by omega) (by rw [Nat.zero_add] at z3; exact z3) z4)
  rw [← nI_1] at go
  unfold xM1
  repeat' first
    | exact go
    | refine xP_s rfl rfl rfl ?_
    | refine xP_get rfl h18 rfl ?_
