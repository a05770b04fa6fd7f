-- the text taken apart: what a token is
/-- the character at a place of what is left, or -1 -/
def oc (s : List Nat) (k : Nat) : Int32 := match s[k]? with
  | some c => nI c
  | none => -1
theorem cAt_sfx {t s : List Nat} {p k : Nat} (h : t.drop p = s) (hk : p + k < 2 ^ 31) : cAt t (nI (p + k)) = oc s k := by
  subst h
  unfold oc
  rw [List.getElem?_drop]
  cases hx : t[p + k]? with
  | none => exact cAt_off hk hx
  | some c => exact cAt_get hk hx
theorem cAt_sfx0 {t s : List Nat} {p : Nat} (h : t.drop p = s) (hk : p < 2 ^ 31) : cAt t (nI p) = oc s 0 := cAt_sfx (k := 0) h hk
theorem oc_nil (k : Nat) : oc [] k = -1 := rfl
theorem oc_0 (c : Nat) (r : List Nat) : oc (c :: r) 0 = nI c := rfl
theorem oc_s (c : Nat) (r : List Nat) (k : Nat) : oc (c :: r) (k + 1) = oc r k := rfl
theorem drop_s {t r : List Nat} {p c : Nat} (h : t.drop p = c :: r) : t.drop (p + 1) = r ∧ p < t.length := by
  constructor
  · rw [← List.drop_drop, h]
    rfl
  · rcases Nat.lt_or_ge p t.length with q | q
    · exact q
    · rw [List.drop_eq_nil_of_le q] at h
      cases h
theorem drop_len {t s : List Nat} {p : Nat} (h : t.drop p = s) (hp : p ≤ t.length) : p = t.length - s.length := by
  rw [← h, List.length_drop]
  omega
theorem drop_n {t : List Nat} {p : Nat} (h : t.drop p = []) (hp : p ≤ t.length) : p = t.length := by
  have := drop_len h hp
  simpa using this
/-- behind the end of a comment -/
def incom : List Nat → Option (List Nat)
  | [] => none
  | c :: r => if c = 42 ∧ r.head? = some 47 then some r.tail else incom r
theorem incom_len : ∀ {s r : List Nat}, incom s = some r → r.length + 2 ≤ s.length
  | [], r, h => by cases h
  | c :: s, r, h => by
    unfold incom at h
    split at h
    next hc =>
      cases s with
      | nil => simp at hc
      | cons d s =>
        cases h
        simp
    next =>
      have := incom_len h
      simp
      omega
theorem incom_sfx : ∀ {s r : List Nat}, incom s = some r → ∃ w, s = w ++ r
  | [], r, h => by cases h
  | c :: s, r, h => by
    unfold incom at h
    split at h
    next hc =>
      cases s with
      | nil => simp at hc
      | cons d s =>
        cases h
        exact ⟨[c, d], rfl⟩
    next =>
      obtain ⟨w, e⟩ := incom_sfx h
      exact ⟨c :: w, by rw [e]; rfl⟩
theorem oc_c {s : List Nat} {k : Nat} (x : Nat) (hs : ∀ c ∈ s, c < 128) : (oc s k).toInt = x ↔ s[k]? = some x := by
  unfold oc
  cases h : s[k]? with
  | none =>
    constructor
    · intro h
      exfalso
      have : (-1 : Int32).toInt = -1 := rfl
      dsimp only at h
      omega
    · intro h
      cases h
  | some c =>
    have := hs c (List.mem_of_getElem? h)
    simp only [nI_toInt (show c < 2 ^ 31 by omega), Option.some.injEq]
    omega
set_option maxRecDepth 100000 in
theorem p_behindCommentLoop {sc : xSc} {d g u p v : Nat} {A : List xC} {G : xG} {t : List Nat} {P : xO → xH → Prop} {y : Int32} (ht : xTk A u p v G) (hs : xRw A 1 120 t) : ∀ (s : List Nat) (i : Nat), t.drop i = s → i ≤ t.length → P (.inl (some (.int (match incom s with | some r => nI (t.length - r.length) | none => -1)))) (A, g) →
    xP sc (d + 1) 98 2 [(0, .ref 18), (1, .int y), (2, .int (nI i))] [] (A, g) P
  | [], i, hd, hi, k => by
    have h18 := ht.2.1
    have hl := hs.len
    have e := drop_n hd hi
    have hI : (nI i).toInt = (i : Int) := nI_toInt (by omega)
    have hL : (nI t.length).toInt = (t.length : Int) := nI_toInt (by omega)
    refine xP_s rfl rfl rfl ?_
    refine xP_s rfl rfl rfl ?_
    refine xP_get rfl h18 rfl ?_
    refine xP_cv rfl rfl rfl rfl rfl hs.obj (p_length hs ?_)
    refine xP_s rfl rfl rfl ?_
    refine xP_if (fun hc => ?_) (fun hc => ?_)
    · repeat' first
        | refine xP_s rfl rfl rfl ?_
        | refine xP_ret rfl rfl rfl ?_
      exact k
    · have := xc_f hc
      dsimp only at this
      omega
  | c :: r, i, hd, hi, k => by
    have h18 := ht.2.1
    have hl := hs.len
    obtain ⟨hd1, hlt⟩ := drop_s hd
    have hI : (nI i).toInt = (i : Int) := nI_toInt (by omega)
    have hL : (nI t.length).toInt = (t.length : Int) := nI_toInt (by omega)
    have hch : ∀ x ∈ c :: r, x < 128 := fun x hx => hs.chr x (List.mem_of_mem_drop (hd ▸ hx))
    have hc128 := hch c List.mem_cons_self
    have hC : (nI c).toInt = (c : Int) := nI_toInt (by omega)
    have h42 : (42 : Int32).toInt = 42 := rfl
    have h47 : (47 : Int32).toInt = 47 := rfl
    have o1 : (oc r 0).toInt = 47 ↔ r[0]? = some 47 := oc_c 47 (fun x hx => hch x (List.mem_cons_of_mem _ hx))
    unfold incom at k
    have go := p_behindCommentLoop (sc := sc) (d := d) (g := g) (P := P) (y := y) ht hs r (i + 1) hd1 (by omega)
    rw [← nI_1] at go
    refine xP_s rfl rfl rfl ?_
    refine xP_s rfl rfl rfl ?_
    refine xP_get rfl h18 rfl ?_
    refine xP_cv rfl rfl rfl rfl rfl hs.obj (p_length hs ?_)
    refine xP_s rfl rfl rfl ?_
    refine xP_if (fun hc => ?_) (fun hc => ?_)
    · have := xc_t hc
      dsimp only at this
      omega
    · refine xP_s rfl rfl rfl ?_
      refine xP_get rfl h18 rfl ?_
      refine xP_s rfl rfl rfl ?_
      refine xP_cv rfl rfl rfl rfl rfl hs.obj (p_at hs (by decide) (by decide) ?_)
      rw [cAt_sfx0 hd (by omega), oc_0]
      refine xP_s rfl rfl rfl ?_
      refine xP_s rfl rfl rfl ?_
      refine xP_if (fun hc => ?_) (fun hc => ?_)
      · have h1 := xc_t hc
        dsimp only at h1
        rw [if_neg (by omega)] at k
        have go := go k
        repeat' first
          | exact go
          | refine xP_s rfl rfl rfl ?_
      · have h1 := xc_f hc
        dsimp only at h1
        refine xP_s rfl rfl rfl ?_
        refine xP_get rfl h18 rfl ?_
        refine xP_s rfl rfl rfl ?_
        refine xP_s rfl rfl rfl ?_
        refine xP_s rfl rfl rfl ?_
        rw [nI_1]
        refine xP_cv rfl rfl rfl rfl rfl hs.obj (p_at hs (by decide) (by decide) ?_)
        rw [cAt_sfx0 hd1 (by omega)]
        refine xP_s rfl rfl rfl ?_
        refine xP_s rfl rfl rfl ?_
        refine xP_if (fun hc => ?_) (fun hc => ?_)
        · have h2 := xc_t hc
          dsimp only at h2
          rw [h47, o1, ← List.head?_eq_getElem?] at h2
          rw [if_neg (fun q => h2 q.2)] at k
          have go := go k
          repeat' first
            | exact go
            | refine xP_s rfl rfl rfl ?_
        · have h2 := xc_f hc
          dsimp only at h2
          rw [h47, o1, ← List.head?_eq_getElem?] at h2
          rw [if_pos ⟨by omega, h2⟩] at k
          repeat' first
            | refine xP_s rfl rfl rfl ?_
            | refine xP_ret rfl rfl rfl ?_
          dsimp only at k
          rw [show nI i + 2 = nI (t.length - r.tail.length) by
            rw [show nI i + 2 = nI (i + 2) from nI_add i 2]
            cases r with
            | nil => cases h2
            | cons x r =>
              have e := drop_len (drop_s hd1).1 (by have := (drop_s hd1).2; omega)
              rw [List.tail_cons, ← e]]
          exact k
set_option maxRecDepth 100000 in
theorem p_behindComment {sc : xSc} {d g u p v i : Nat} {A : List xC} {G : xG} {t s : List Nat} {P : xO → xH → Prop} (ht : xTk A u p v G) (hs : xRw A 1 120 t) (hd : t.drop i = s) (hi : i ≤ t.length) (k : P (.inl (some (.int (match incom s with | some r => nI (t.length - r.length) | none => -1)))) (A, g)) : xM1 sc (d + 1) 98 [.ref 18, .int (nI i)] (A, g) P := by
  unfold xM1
  refine xP_s rfl rfl rfl ?_
  refine xP_s rfl rfl rfl ?_
  exact p_behindCommentLoop ht hs s i hd hi k
/-- behind layout -/
def lay : Nat → List Nat → Option (List Nat)
  | 0, s => some s
  | _ + 1, [] => some []
  | n + 1, c :: r => if c = 32 then lay n r else if c = 37 then lay n [] else if c = 47 ∧ r.head? = some 42 then (match incom r.tail with
    | some z => lay n z
    | none => none) else some (c :: r)
theorem lay_nil : ∀ n, lay n [] = some []
  | 0 => rfl
  | _ + 1 => rfl
theorem lay_len : ∀ {n : Nat} {s r : List Nat}, lay n s = some r → ∃ w, s = w ++ r
  | 0, s, r, h => by
    cases h
    exact ⟨[], rfl⟩
  | n + 1, [], r, h => by
    cases h
    exact ⟨[], rfl⟩
  | n + 1, c :: s, r, h => by
    unfold lay at h
    split at h
    · obtain ⟨w, e⟩ := lay_len h
      exact ⟨c :: w, by rw [e]; rfl⟩
    · split at h
      · rw [lay_nil] at h
        cases h
        exact ⟨c :: s, by simp⟩
      · split at h
        next hc =>
          cases hz : incom s.tail with
          | none =>
            rw [hz] at h
            cases h
          | some z =>
            rw [hz] at h
            obtain ⟨w, e⟩ := lay_len h
            obtain ⟨w2, e2⟩ := incom_sfx hz
            cases s with
            | nil => simp at hc
            | cons d s =>
              rw [List.tail_cons] at e2
              exact ⟨c :: d :: (w2 ++ w), by rw [e2, e]; simp⟩
        next =>
          cases h
          exact ⟨[], rfl⟩
theorem sfx_drop {t s w r : List Nat} {p : Nat} (h : t.drop p = s) (hp : p ≤ t.length) (e : s = w ++ r) : t.drop (t.length - r.length) = r ∧ p ≤ t.length - r.length ∧ t.length - r.length ≤ t.length := by
  have hl : s.length = t.length - p := by rw [← h, List.length_drop]
  have hl2 : s.length = w.length + r.length := by rw [e, List.length_append]
  refine ⟨?_, by omega, by omega⟩
  have : t.length - r.length = p + w.length := by omega
  rw [this, ← List.drop_drop, h, e, List.drop_left]
set_option maxRecDepth 100000 in
theorem p_skipLoop {sc : xSc} {d g u v : Nat} {t : List Nat} {P : xO → xH → Prop} {G : xG} : ∀ (m i p : Nat) (A : List xC) (s : List Nat), i + m = 121 → xTk A u p v G → xRw A 1 120 t → t.drop p = s → p ≤ t.length →
    (∀ A' p', (match lay m s with | some r => xTk A' u (t.length - r.length) v G | none => xTk A' u p' v G) → xSame A A' [18] → P (.inl (some (.int (xb (lay m s).isSome)))) (A', g)) →
    xP sc (d + 2) 97 2 [(0, .ref 18), (1, .int (nI i))] [] (A, g) P
  | 0, i, p, A, s, hm, ht, hs, hd, hp, k => by
    have hI : (nI i).toInt = (i : Int) := nI_toInt (by omega)
    have h120 : (120 : Int32).toInt = 120 := rfl
    refine xP_s rfl rfl rfl ?_
    refine xP_s rfl rfl rfl ?_
    refine xP_s rfl rfl rfl ?_
    refine xP_if (fun hc => ?_) (fun hc => ?_)
    · repeat' first
        | refine xP_s rfl rfl rfl ?_
        | refine xP_ret rfl rfl rfl ?_
      refine k A p ?_ (xSame.refl _ _)
      show xTk A u (t.length - s.length) v G
      rw [← drop_len hd hp]
      exact ht
    · have := xc_f hc
      dsimp only at this
      omega
  | m + 1, i, p, A, s, hm, ht, hs, hd, hp, k => by
    have h18 := ht.2.1
    have hl := hs.len
    have hI : (nI i).toInt = (i : Int) := nI_toInt (by omega)
    have h120 : (120 : Int32).toInt = 120 := rfl
    have h32 : (32 : Int32).toInt = 32 := rfl
    have h37 : (37 : Int32).toInt = 37 := rfl
    have h47 : (47 : Int32).toInt = 47 := rfl
    have h42 : (42 : Int32).toInt = 42 := rfl
    have next : ∀ (p' : Nat) (s' : List Nat) (x : Int32) (ex : xL), (ex = [(2, .int x)] ∨ ∃ y, ex = [(2, .int x), (3, .int y)]) → lay (m + 1) s = lay m s' → t.drop p' = s' → p' ≤ t.length → xP sc (d + 2) 97 111 ([(0, .ref 18), (1, .int (nI i))] ++ ex) [] (A.set 18 (.inr (5, [.ref 1, .ref 5, .ref 19, .ref 20, .ref 21, .ref 22, .ref 23, .ref 24, .int (nI u), .int (nI p'), .int (nI v)])), g) P := by
      intro p' s' x ex hex he hd' hp'
      have go := p_skipLoop (sc := sc) (d := d) (g := g) (P := P) (G := G) m (i + 1) p' _ s' (by omega) (ht.setO (u' := u) (p' := p') (v' := v) ht.1) (hs.same (xSame.set 18 _) (by decide) (by decide)) hd' hp' (fun A' q' z1 z2 => by
        rw [he] at k
        exact k A' q' z1 (((xSame.set _ _).trans z2).wide (by decide)))
      rw [← nI_1] at go
      rcases hex with rfl | ⟨y, rfl⟩
      · have go2 := xP_more [(2, .int x)] rfl go
        repeat' first
          | exact go2
          | refine xP_s rfl rfl rfl ?_
      · have go2 := xP_more [(2, .int x), (3, .int y)] rfl go
        repeat' first
          | exact go2
          | refine xP_s rfl rfl rfl ?_
    refine xP_s rfl rfl rfl ?_
    refine xP_s rfl rfl rfl ?_
    refine xP_s rfl rfl rfl ?_
    refine xP_if (fun hc => ?_) (fun hc => ?_)
    · have := xc_t hc
      dsimp only at this
      omega
    · refine xP_s rfl rfl rfl ?_
      refine xP_get rfl h18 rfl ?_
      refine xP_s rfl rfl rfl ?_
      refine xP_get rfl h18 rfl ?_
      refine xP_cv rfl rfl rfl rfl rfl hs.obj (p_at hs (by decide) (by decide) ?_)
      rw [cAt_sfx0 hd (by omega)]
      cases s with
      | nil =>
        have e : t.length - ([] : List Nat).length = p := (drop_len hd hp).symm
        repeat' first
          | refine xP_s rfl rfl rfl ?_
          | refine xP_ret rfl rfl rfl ?_
        refine k A p ?_ (xSame.refl _ _)
        show xTk A u (t.length - ([] : List Nat).length) v G
        rw [e]
        exact ht
      | cons c r =>
        obtain ⟨hd1, hlt⟩ := drop_s hd
        have hch : ∀ x ∈ c :: r, x < 128 := fun x hx => hs.chr x (List.mem_of_mem_drop (hd ▸ hx))
        have hc128 := hch c List.mem_cons_self
        have hC : (nI c).toInt = (c : Int) := nI_toInt (by omega)
        have o1 : (oc r 0).toInt = 42 ↔ r[0]? = some 42 := oc_c 42 (fun x hx => hch x (List.mem_cons_of_mem _ hx))
        have stay : ¬ c = 32 → ¬ c = 37 → ¬ (c = 47 ∧ r.head? = some 42) → P (.inl (some (.int 1))) (A, g) := by
          intro n1 n2 n3
          have e : lay (m + 1) (c :: r) = some (c :: r) := by
            unfold lay
            rw [if_neg n1, if_neg n2, if_neg n3]
          rw [e] at k
          refine k A p ?_ (xSame.refl _ _)
          show xTk A u (t.length - (c :: r).length) v G
          rw [← drop_len hd hp]
          exact ht
        rw [oc_0]
        refine xP_s rfl rfl rfl ?_
        refine xP_s rfl rfl rfl ?_
        refine xP_s rfl rfl rfl ?_
        refine xP_s rfl rfl rfl ?_
        refine xP_if (fun hc => ?_) (fun hc => ?_)
        · have n32 := xc_t hc
          dsimp only at n32
          refine xP_s rfl rfl rfl ?_
          refine xP_s rfl rfl rfl ?_
          refine xP_s rfl rfl rfl ?_
          refine xP_if (fun hc => ?_) (fun hc => ?_)
          · have n37 := xc_t hc
            dsimp only at n37
            refine xP_s rfl rfl rfl ?_
            refine xP_s rfl rfl rfl ?_
            refine xP_s rfl rfl rfl ?_
            refine xP_if (fun hc => ?_) (fun hc => ?_)
            · have n47 := xc_t hc
              dsimp only at n47
              repeat' first
                | refine xP_s rfl rfl rfl ?_
                | refine xP_ret rfl rfl rfl ?_
              exact stay (by omega) (by omega) (by omega)
            · have n47 := xc_f hc
              dsimp only at n47
              refine xP_s rfl rfl rfl ?_
              refine xP_get rfl h18 rfl ?_
              refine xP_s rfl rfl rfl ?_
              refine xP_get rfl h18 rfl ?_
              refine xP_s rfl rfl rfl ?_
              refine xP_s rfl rfl rfl ?_
              rw [nI_1]
              refine xP_cv rfl rfl rfl rfl rfl hs.obj (p_at hs (by decide) (by decide) ?_)
              rw [cAt_sfx0 hd1 (by omega)]
              refine xP_s rfl rfl rfl ?_
              refine xP_s rfl rfl rfl ?_
              refine xP_if (fun hc => ?_) (fun hc => ?_)
              · have n42 := xc_t hc
                dsimp only at n42
                rw [h42, o1, ← List.head?_eq_getElem?] at n42
                repeat' first
                  | refine xP_s rfl rfl rfl ?_
                  | refine xP_ret rfl rfl rfl ?_
                exact stay (by omega) (by omega) (fun q => n42 q.2)
              · have n42 := xc_f hc
                dsimp only at n42
                rw [h42, o1, ← List.head?_eq_getElem?] at n42
                cases r with
                | nil => cases n42
                | cons c2 r =>
                  obtain ⟨hd2, hlt2⟩ := drop_s hd1
                  have e : lay (m + 1) (c :: c2 :: r) = (match incom r with | some z => lay m z | none => none) := by
                    conv => lhs; unfold lay
                    rw [if_neg (by omega), if_neg (by omega), if_pos ⟨by omega, n42⟩]
                    rfl
                  refine xP_s rfl rfl rfl ?_
                  refine xP_s rfl rfl rfl ?_
                  refine xP_get rfl h18 rfl ?_
                  refine xP_s rfl rfl rfl ?_
                  refine xP_s rfl rfl rfl ?_
                  rw [show nI p + 2 = nI (p + 2) from nI_add p 2]
                  refine xP_cv rfl rfl rfl rfl rfl h18 (p_behindComment ht hs hd2 (by omega) ?_)
                  cases hz : incom r with
                  | none =>
                    rw [e, hz] at k
                    repeat' first
                      | refine xP_s rfl rfl rfl ?_
                      | refine xP_ret rfl rfl rfl ?_
                    exact k A p ht (xSame.refl _ _)
                  | some z =>
                    rw [hz] at e
                    dsimp only at e ⊢
                    obtain ⟨w, hw⟩ := incom_sfx hz
                    obtain ⟨w1, w2, w3⟩ := sfx_drop hd2 (by omega) hw
                    refine xP_s rfl rfl rfl ?_
                    refine xP_s rfl rfl rfl ?_
                    refine xP_s rfl rfl rfl ?_
                    refine xP_s rfl rfl rfl ?_
                    refine xP_if (fun hc => ?_) (fun hc => ?_)
                    · refine xP_s rfl rfl rfl ?_
                      refine xP_s rfl rfl rfl ?_
                      refine xP_put rfl h18 (Nat.le_of_ble_eq_true rfl) rfl ?_
                      have nx := next (t.length - z.length) z (nI c) [(2, .int (nI c)), (3, .int (nI (t.length - z.length)))] (Or.inr ⟨_, rfl⟩) e w1 w3
                      repeat' first
                        | exact nx
                        | refine xP_s rfl rfl rfl ?_
                    · exact absurd (xc_f hc) (nI_neg1 (by omega))
          · have n37 := xc_f hc
            dsimp only at n37
            have e : lay (m + 1) (c :: r) = lay m [] := by
              conv => lhs; unfold lay
              rw [if_neg (by omega), if_pos (by omega)]
            refine xP_s rfl rfl rfl ?_
            refine xP_s rfl rfl rfl ?_
            refine xP_get rfl h18 rfl ?_
            refine xP_cv rfl rfl rfl rfl rfl hs.obj (p_length hs ?_)
            refine xP_put rfl h18 (Nat.le_of_ble_eq_true rfl) rfl ?_
            have nx := next t.length [] (nI c) [(2, .int (nI c))] (Or.inl rfl) e (List.drop_eq_nil_of_le (Nat.le_refl _)) (Nat.le_refl _)
            repeat' first
              | exact nx
              | refine xP_s rfl rfl rfl ?_
        · have n32 := xc_f hc
          dsimp only at n32
          have e : lay (m + 1) (c :: r) = lay m r := by
            conv => lhs; unfold lay
            rw [if_pos (by omega)]
          refine xP_s rfl rfl rfl ?_
          refine xP_s rfl rfl rfl ?_
          refine xP_get rfl h18 rfl ?_
          refine xP_s rfl rfl rfl ?_
          refine xP_s rfl rfl rfl ?_
          refine xP_put rfl h18 (Nat.le_of_ble_eq_true rfl) rfl ?_
          have nx := next (p + 1) r (nI c) [(2, .int (nI c))] (Or.inl rfl) e hd1 (by omega)
          rw [← nI_1] at nx
          repeat' first
            | exact nx
            | refine xP_s rfl rfl rfl ?_
set_option maxRecDepth 100000 in
theorem p_skipLayout {sc : xSc} {d g u v p : Nat} {t s : List Nat} {A : List xC} {P : xO → xH → Prop} {G : xG} (ht : xTk A u p v G) (hs : xRw A 1 120 t) (hd : t.drop p = s) (hp : p ≤ t.length)
    (k : ∀ A' p', (match lay 121 s with | some r => xTk A' u (t.length - r.length) v G | none => xTk A' u p' v G) → xSame A A' [18] → P (.inl (some (.int (xb (lay 121 s).isSome)))) (A', g)) : xM1 sc (d + 2) 97 [.ref 18] (A, g) P := by
  unfold xM1
  refine xP_s rfl rfl rfl ?_
  refine xP_s rfl rfl rfl ?_
  exact p_skipLoop 121 0 p A s rfl ht hs hd hp k
