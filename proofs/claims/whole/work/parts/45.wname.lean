-- Writer: names and numbers on the row of characters
def eO (c : Nat) : Option Nat := if c = 10 then some 110 else if c = 9 then some 116 else if c = 92 ∨ c = 39 then some c else none
def eI (x : Int32) : Int32 := if x = 10 then 110 else if x = 9 then 116 else if x = 92 ∨ x = 39 then x else -1
theorem eO_nI {c : Nat} (h : c < 128) : eI (nI c) = (match eO c with | some x => nI x | none => -1) := by
  revert c
  decide
theorem eO_lt {c x : Nat} (h : eO c = some x) (hc : c < 128) : x < 128 := by
  unfold eO at h
  split at h
  · cases h; omega
  · split at h
    · cases h; omega
    · split at h
      · cases h; omega
      · cases h
def ecs (c : Nat) : List Nat := match eO c with
  | some x => [92, x]
  | none => [c]
/-- a name as it is written -/
def nmW (l : List Nat) : List Nat := if pln l = true then l else 39 :: (l.flatMap ecs ++ [39])
def ecb (b : Bool) (c : Nat) : List Nat := if b = true then ecs c else [c]
theorem ecb_len (b : Bool) (c : Nat) : 1 ≤ (ecb b c).length ∧ (ecb b c).length ≤ 2 := by
  unfold ecb ecs
  split
  · split <;> simp
  · simp
theorem nmW_len (l : List Nat) : (nmW l).length ≤ 2 * l.length + 2 := by
  unfold nmW
  split
  · omega
  · have : ∀ l : List Nat, (l.flatMap ecs).length ≤ 2 * l.length := by
      intro l
      induction l with
      | nil => simp
      | cons c l ih =>
        have := (ecb_len true c).2
        rw [List.flatMap_cons, List.length_append, List.length_cons]
        have e : ecb true c = ecs c := rfl
        rw [e] at this
        omega
    have := this l
    rw [List.length_cons, List.length_append, List.length_singleton]
    omega
section WB
variable {sc : xSc} {d g : Nat} {nm : List Nat} {P : xO → xH → Prop}
set_option maxRecDepth 100000 in
theorem p_escapeOf {A : List xC} {x : Int32} (k : P (.inl (some (.int (eI x)))) (A, g)) : xM1 sc d 127 [.int x] (A, g) P := by
  unfold xM1
  refine xP_s rfl rfl rfl ?_
  refine xP_s rfl rfl rfl ?_
  refine xP_sw (fun q hq hx => ?_) (fun hx => ?_)
  · simp only [List.mem_cons, List.not_mem_nil, or_false] at hq
    subst hx
    rcases hq with rfl | rfl | rfl | rfl
    · repeat' first
        | refine xP_s rfl rfl rfl ?_
        | refine xP_ret rfl rfl rfl ?_
      exact k
    · repeat' first
        | refine xP_s rfl rfl rfl ?_
        | refine xP_ret rfl rfl rfl ?_
      exact k
    · repeat' first
        | refine xP_s rfl rfl rfl ?_
        | refine xP_ret rfl rfl rfl ?_
      exact k
    · repeat' first
        | refine xP_s rfl rfl rfl ?_
        | refine xP_ret rfl rfl rfl ?_
      exact k
  · simp only [List.mem_cons, List.not_mem_nil, or_false, forall_eq_or_imp, forall_eq] at hx
    have e : eI x = -1 := by simp [eI, hx]
    rw [e] at k
    repeat' first
      | refine xP_s rfl rfl rfl ?_
      | refine xP_ret rfl rfl rfl ?_
    exact k
set_option maxHeartbeats 4000000 in
set_option maxRecDepth 100000 in
theorem p_wnameLoop {z : Nat} {l : List Nat} {b : Bool} {y : Int32} {A0 : List xC} (hz0 : nmAt nm z l) (hnl : nm.length ≤ 4926) : ∀ (m i : Nat) (A : List xC) (o : List Nat), i + m = l.length → xWo A → xRw A 5 4926 nm → xRw A 3 1200 o → o.length + ((l.drop i).flatMap (ecb b)).length ≤ 1200 → xSame A0 A [3, 4] →
    (∀ A', xRw A' 3 1200 (o ++ (l.drop i).flatMap (ecb b)) → xWo A' → xSame A0 A' [3, 4] → xP sc (d + 4) 126 127 [(0, .ref 26), (1, .int y), (2, .int (nI z)), (3, .int (nI l.length)), (4, .int (xb b)), (5, .int (nI l.length))] [] (A', g) P) →
    xP sc (d + 4) 126 51 [(0, .ref 26), (1, .int y), (2, .int (nI z)), (3, .int (nI l.length)), (4, .int (xb b)), (5, .int (nI i))] [] (A, g) P
  | 0, i, A, o, hm, h26, hn, ho, hr, hsm, k => by
    have hz1 := hz0.1
    have hI : (nI i).toInt = (i : Int) := nI_toInt (by omega)
    have e : i = l.length := by omega
    subst e
    have k1 := k A (by rw [List.drop_eq_nil_of_le (Nat.le_refl _)]; simpa using ho) h26 hsm
    refine xP_s rfl rfl rfl ?_
    refine xP_s rfl rfl rfl ?_
    refine xP_s rfl rfl rfl ?_
    refine xP_if (fun hc => ?_) (fun hc => ?_)
    · exact k1
    · have := xc_f hc
      dsimp only at this
      omega
  | m + 1, i, A, o, hm, h26, hn, ho, hr, hsm, k => by
    have h26' := h26
    unfold xWo at h26'
    have hz1 := hz0.1
    have hI : (nI i).toInt = (i : Int) := nI_toInt (by omega)
    have hL : (nI l.length).toInt = (l.length : Int) := nI_toInt (by omega)
    obtain ⟨c, hc0⟩ : ∃ c, l[i]? = some c := ⟨l[i]'(by omega), List.getElem?_eq_getElem (by omega)⟩
    have hc128 := hn.chr c (List.mem_of_getElem? (hz0.2 i c hc0))
    have hdrop : l.drop i = c :: l.drop (i + 1) := by
      rw [List.drop_eq_getElem_cons (by omega)]
      congr 1
      have := List.getElem?_eq_getElem (show i < l.length by omega)
      rw [this] at hc0
      exact Option.some.inj hc0
    rw [hdrop, List.flatMap_cons] at hr k
    rw [List.length_append] at hr
    -- behind the character
    have next : ∀ A2 x7, xWo A2 → xRw A2 3 1200 (o ++ ecb b c) → xSame A A2 [3, 4] → xP sc (d + 4) 126 121 [(0, .ref 26), (1, .int y), (2, .int (nI z)), (3, .int (nI l.length)), (4, .int (xb b)), (5, .int (nI i)), (6, .int (nI c)), (7, .int x7)] [] (A2, g) P := by
      intro A2 x7 w1 w2 w3
      have go := p_wnameLoop (b := b) (y := y) (A0 := A0) hz0 hnl m (i + 1) A2 (o ++ ecb b c) (by omega) w1 (hn.same w3 (by decide) (by decide)) w2 (by rw [List.length_append]; omega) ((hsm.trans w3).wide (by decide)) (fun A' r1 r2 r3 => by
        rw [List.append_assoc] at r1
        have kk := k A' r1 r2 r3
        exact kk)
      rw [← nI_1 i] at go
      have go1 := xP_more [(6, .int (nI c)), (7, .int x7)] rfl go
      repeat' first
        | exact go1
        | refine xP_s rfl rfl rfl ?_
    have wo : ∀ {A2 : List xC}, xSame A A2 [3, 4] → xWo A2 := fun h => (h.2 26 (by decide)).trans h26
    have plainc : ecb b c = [c] → xP sc (d + 4) 126 101 [(0, .ref 26), (1, .int y), (2, .int (nI z)), (3, .int (nI l.length)), (4, .int (xb b)), (5, .int (nI i)), (6, .int (nI c)), (7, .int (-1))] [] (A, g) P := by
      intro he
      rw [he] at hr next
      refine xP_s rfl rfl rfl ?_
      refine xP_get rfl h26' rfl ?_
      refine xP_s rfl rfl rfl ?_
      refine xP_s rfl rfl rfl ?_
      refine xP_s rfl rfl rfl ?_
      refine xP_s rfl rfl rfl ?_
      refine xP_cv rfl rfl rfl rfl rfl ho.obj (p_add ho (by decide) (by decide) hc128 (by simp at hr; omega) (fun A2 w1 w2 => ?_))
      exact next A2 (-1) (wo w2) w1 w2
    refine xP_s rfl rfl rfl ?_
    refine xP_s rfl rfl rfl ?_
    refine xP_s rfl rfl rfl ?_
    refine xP_if (fun hc => ?_) (fun hc => ?_)
    · have := xc_t hc
      dsimp only at this
      omega
    · refine xP_s rfl rfl rfl ?_
      refine xP_get rfl h26' rfl ?_
      refine xP_s rfl rfl rfl ?_
      refine xP_s rfl rfl rfl ?_
      refine xP_s rfl rfl rfl ?_
      rw [nI_add]
      refine xP_cv rfl rfl rfl rfl rfl hn.obj (p_at hn (by decide) (by decide) ?_)
      rw [cAt_get (by omega) (hz0.2 i c hc0)]
      cases b
      · have pc := plainc rfl
        repeat' first
          | exact pc
          | refine xP_s rfl rfl rfl ?_
      · refine xP_s rfl rfl rfl ?_
        refine xP_s rfl rfl rfl ?_
        refine xP_s rfl rfl rfl ?_
        refine xP_s rfl rfl rfl ?_
        refine xP_call rfl rfl rfl (p_escapeOf ?_)
        rw [eO_nI hc128]
        cases he : eO c with
        | none =>
          have pc := plainc (by simp [ecb, ecs, he])
          repeat' first
            | exact pc
            | refine xP_s rfl rfl rfl ?_
        | some x =>
          have hx := eO_lt he hc128
          have hec : ecb true c = [92, x] := by simp [ecb, ecs, he]
          rw [hec] at hr next
          simp at hr
          dsimp only
          refine xP_s rfl rfl rfl ?_
          refine xP_s rfl rfl rfl ?_
          refine xP_s rfl rfl rfl ?_
          refine xP_s rfl rfl rfl ?_
          refine xP_s rfl rfl rfl ?_
          refine xP_if (fun hc => ?_) (fun hc => ?_)
          · exact absurd (xc_t hc) (nI_neg1 (by omega))
          · refine xP_s rfl rfl rfl ?_
            refine xP_get rfl h26' rfl ?_
            refine xP_s rfl rfl rfl ?_
            refine xP_cv rfl rfl rfl rfl rfl ho.obj (p_add (c := 92) ho (by decide) (by decide) (by decide) (by omega) (fun A2 w1 w2 => ?_))
            have h26b := wo w2
            have h26b' := h26b
            unfold xWo at h26b'
            refine xP_s rfl rfl rfl ?_
            refine xP_get rfl h26b' rfl ?_
            refine xP_s rfl rfl rfl ?_
            refine xP_s rfl rfl rfl ?_
            refine xP_s rfl rfl rfl ?_
            refine xP_if (fun hc => ?_) (fun hc => ?_)
            · exact absurd (xc_t hc) (nI_neg1 (by omega))
            · refine xP_s rfl rfl rfl ?_
              refine xP_s rfl rfl rfl ?_
              refine xP_cv rfl rfl rfl rfl rfl w1.obj (p_add w1 (by decide) (by decide) hx (by rw [List.length_append, List.length_singleton]; omega) (fun A3 v1 v2 => ?_))
              rw [List.append_assoc] at v1
              have nx := next A3 (nI x) (wo ((w2.trans v2).wide (by decide))) v1 ((w2.trans v2).wide (by decide))
              exact nx
set_option maxRecDepth 100000 in
theorem p_wname {j n z : Nat} {A : List xC} {F : xF} {l o : List Nat} (h26 : xWo A) (hn : xRw A 5 4926 nm) (ho : xRw A 3 1200 o) (hp : xPt A n F) (hj : j < n) (hv : F.2.1 j = nI z) (hs : F.2.2.1 j = nI l.length) (hz : nmAt nm z l) (hr : o.length + (nmW l).length ≤ 1200)
    (k : ∀ A', xRw A' 3 1200 (o ++ nmW l) → xSame A A' [3, 4] → P (.inl none) (A', g)) : xM1 sc (d + 4) 126 [.ref 26, .int (nI j)] (A, g) P := by
  have h26' := h26
  unfold xWo at h26'
  have hnl := hn.len
  unfold xM1
  refine xP_s rfl rfl rfl ?_
  refine xP_get rfl h26' rfl ?_
  refine xP_s rfl rfl rfl ?_
  refine xP_cv rfl rfl rfl rfl rfl hp.2.1 (p_value (o := some j) hp (fun i h => Option.some.inj h ▸ hj) ?_)
  rw [show ptG F.2.1 0 (some j) = nI z from hv]
  refine xP_s rfl rfl rfl ?_
  refine xP_s rfl rfl rfl ?_
  refine xP_get rfl h26' rfl ?_
  refine xP_s rfl rfl rfl ?_
  refine xP_cv rfl rfl rfl rfl rfl hp.2.1 (p_nameSize (o := some j) hp (fun i h => Option.some.inj h ▸ hj) ?_)
  rw [show ptG F.2.2.1 0 (some j) = nI l.length from hs]
  refine xP_s rfl rfl rfl ?_
  refine xP_s rfl rfl rfl ?_
  refine xP_s rfl rfl rfl ?_
  refine xP_s rfl rfl rfl ?_
  refine xP_cv rfl rfl rfl rfl rfl h26' (p_isPlain h26 hn hz ?_)
  unfold nmW at hr k
  cases hpl : pln l
  · rw [hpl] at hr k
    simp only [Bool.false_eq_true, if_false, List.length_cons, List.length_append, List.length_singleton] at hr k
    have hfm : l.flatMap (ecb true) = l.flatMap ecs := rfl
    refine xP_s rfl rfl rfl ?_
    refine xP_s rfl rfl rfl ?_
    refine xP_s rfl rfl rfl ?_
    refine xP_s rfl rfl rfl ?_
    refine xP_s rfl rfl rfl ?_
    refine xP_s rfl rfl rfl ?_
    refine xP_s rfl rfl rfl ?_
    refine xP_get rfl h26' rfl ?_
    refine xP_s rfl rfl rfl ?_
    refine xP_cv rfl rfl rfl rfl rfl ho.obj (p_add (c := 39) ho (by decide) (by decide) (by decide) (by omega) (fun A2 w1 w2 => ?_))
    have h26b : xWo A2 := (w2.2 26 (by decide)).trans h26
    have loop := p_wnameLoop (sc := sc) (d := d) (g := g) (P := P) (b := true) (y := nI j) (A0 := A) hz hnl l.length 0 A2 (o ++ [39]) (by omega) h26b (hn.same w2 (by decide) (by decide)) w1 (by rw [List.drop_zero, hfm, List.length_append, List.length_singleton]; omega) w2 (fun A3 v1 v2 v3 => by
      rw [List.drop_zero, hfm] at v1
      have v2' := v2
      unfold xWo at v2'
      refine xP_s rfl rfl rfl ?_
      refine xP_s rfl rfl rfl ?_
      refine xP_s rfl rfl rfl ?_
      refine xP_get rfl v2' rfl ?_
      refine xP_s rfl rfl rfl ?_
      refine xP_cv rfl rfl rfl rfl rfl v1.obj (p_add (c := 39) v1 (by decide) (by decide) (by decide) (by rw [List.length_append, List.length_append, List.length_singleton]; omega) (fun A4 u1 u2 => ?_))
      repeat' first
        | refine xP_s rfl rfl rfl ?_
        | refine xP_ret rfl rfl rfl ?_
      refine k A4 ?_ ((v3.trans u2).wide (by decide))
      rw [List.append_assoc, List.append_assoc] at u1
      exact u1)
    repeat' first
      | exact loop
      | refine xP_s rfl rfl rfl ?_
  · rw [hpl] at hr k
    simp only [if_true] at hr k
    have hfm : l.flatMap (ecb false) = l := by
      have : ∀ l : List Nat, l.flatMap (ecb false) = l := by
        intro l
        induction l with
        | nil => rfl
        | cons c l ih =>
          rw [List.flatMap_cons, ih]
          rfl
      exact this l
    have loop := p_wnameLoop (sc := sc) (d := d) (g := g) (P := P) (b := false) (y := nI j) (A0 := A) hz hnl l.length 0 A o (by omega) h26 hn ho (by rw [List.drop_zero, hfm]; exact hr) (xSame.refl _ _) (fun A3 v1 v2 v3 => by
      rw [List.drop_zero, hfm] at v1
      repeat' first
        | refine xP_s rfl rfl rfl ?_
        | refine xP_ret rfl rfl rfl ?_
      exact k A3 v1 v3)
    repeat' first
      | exact loop
      | refine xP_s rfl rfl rfl ?_
end WB
