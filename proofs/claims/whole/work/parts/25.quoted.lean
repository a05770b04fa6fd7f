-- quoted names, ends, strings, digits
theorem nI_subN {a b : Nat} (h : b ≤ a) : nI a - nI b = nI (a - b) := by
  have : nI a = nI (a - b) + nI b := by rw [nI_add, Nat.sub_add_cancel h]
  rw [this, Int32.add_sub_cancel]
set_option maxRecDepth 100000 in
theorem p_isEnd {sc : xSc} {d g u p v e : Nat} {A : List xC} {G : xG} {t s s2 : List Nat} {b : Bool} {P : xO → xH → Prop} (ht : xTk A u p v G) (hs : xRw A 1 120 t) (hd : t.drop p = s) (hd2 : t.drop e = s2) (hpe : p ≤ e) (he : e ≤ t.length) (hb : b = true ↔ e = p + 1 ∧ (oc s 0).toInt = 46 ∧ ((oc s2 0).toInt = 32 ∨ (oc s2 0).toInt = 37 ∨ (oc s2 0).toInt = -1)) (k : P (.inl (some (.int (xb b)))) (A, g)) : xM1 sc (d + 1) 102 [.ref 18, .int (nI e)] (A, g) P := by
  have h18 := ht.2.1
  have hl := hs.len
  have h1 : (1 : Int32).toInt = 1 := rfl
  have h46 : (46 : Int32).toInt = 46 := rfl
  have h32 : (32 : Int32).toInt = 32 := rfl
  have h37 : (37 : Int32).toInt = 37 := rfl
  have hm1 : (-1 : Int32).toInt = -1 := rfl
  have hD : (nI (e - p)).toInt = ((e - p : Nat) : Int) := nI_toInt (by omega)
  unfold xM1
  refine xP_s rfl rfl rfl ?_
  refine xP_get rfl h18 rfl ?_
  refine xP_s rfl rfl rfl ?_
  refine xP_cv rfl rfl rfl rfl rfl hs.obj (p_at hs (by decide) (by decide) ?_)
  rw [cAt_sfx0 hd2 (by omega)]
  refine xP_s rfl rfl rfl ?_
  refine xP_s rfl rfl rfl ?_
  refine xP_s rfl rfl rfl ?_
  refine xP_get rfl h18 rfl ?_
  refine xP_s rfl rfl rfl ?_
  rw [nI_subN hpe]
  refine xP_s rfl rfl rfl ?_
  refine xP_s rfl rfl rfl ?_
  refine xP_if (fun hc => ?_) (fun hc => ?_)
  · repeat' first
      | refine xP_s rfl rfl rfl ?_
      | refine xP_ret rfl rfl rfl ?_
    all_goals
      (try simp only [xc_i, decide_eq_true_eq, decide_eq_false_iff_not] at *)
    all_goals first
      | (rw [show b = true from hb.mpr (by omega)] at k; exact k)
      | (rw [show b = false from Bool.not_eq_true _ ▸ fun q => absurd (hb.mp q) (by omega)] at k; exact k)
  · refine xP_s rfl rfl rfl ?_
    refine xP_get rfl h18 rfl ?_
    refine xP_s rfl rfl rfl ?_
    refine xP_get rfl h18 rfl ?_
    refine xP_cv rfl rfl rfl rfl rfl hs.obj (p_at hs (by decide) (by decide) ?_)
    rw [cAt_sfx0 hd (by omega)]
    repeat' first
      | refine xP_s rfl rfl rfl ?_
      | refine xP_if (fun hc => ?_) (fun hc => ?_)
      | refine xP_ret rfl rfl rfl ?_
    all_goals
      (try simp only [xc_i, decide_eq_true_eq, decide_eq_false_iff_not] at *)
    all_goals first
      | (rw [show b = true from hb.mpr (by omega)] at k; exact k)
      | (rw [show b = false from Bool.not_eq_true _ ▸ fun q => absurd (hb.mp q) (by omega)] at k; exact k)
/-- what stands behind a \ in quotes -/
def esc (c : Nat) : Option Nat := if c = 110 then some 10 else if c = 116 then some 9 else if c = 92 ∨ c = 39 then some c else none
def escI (x : Int32) : Int32 := if x = 110 then 10 else if x = 116 then 9 else if x = 92 ∨ x = 39 then x else -1
theorem esc_nI {c : Nat} (h : c < 128) : escI (nI c) = (match esc c with | some x => nI x | none => -1) := by
  revert c
  decide
theorem esc_lt {c x : Nat} (h : esc c = some x) (hc : c < 128) : x < 128 := by
  unfold esc at h
  split at h
  · cases h; omega
  · split at h
    · cases h; omega
    · split at h
      · cases h; omega
      · cases h
set_option maxRecDepth 100000 in
theorem p_escaped {sc : xSc} {d g : Nat} {A : List xC} {x : Int32} {P : xO → xH → Prop} (k : P (.inl (some (.int (escI x)))) (A, g)) : xM1 sc d 106 [.int x] (A, g) P := by
  unfold xM1
  refine xP_s rfl rfl rfl ?_
  refine xP_s rfl rfl rfl ?_
  refine xP_sw (fun q hq hx => ?_) (fun hx => ?_)
  · simp only [List.mem_cons, List.not_mem_nil, or_false] at hq
    subst hx
    rcases hq with rfl | rfl | rfl | rfl
    · repeat' first
        | refine xP_s rfl rfl rfl ?_
        | refine xP_ret rfl rfl rfl ?_
      exact k
    · repeat' first
        | refine xP_s rfl rfl rfl ?_
        | refine xP_ret rfl rfl rfl ?_
      exact k
    · repeat' first
        | refine xP_s rfl rfl rfl ?_
        | refine xP_ret rfl rfl rfl ?_
      exact k
    · repeat' first
        | refine xP_s rfl rfl rfl ?_
        | refine xP_ret rfl rfl rfl ?_
      exact k
  · simp only [List.mem_cons, List.not_mem_nil, or_false, forall_eq_or_imp, forall_eq] at hx
    have e : escI x = -1 := by simp [escI, hx]
    rw [e] at k
    repeat' first
      | refine xP_s rfl rfl rfl ?_
      | refine xP_ret rfl rfl rfl ?_
    exact k
/-- a name in quotes: its characters and what is left -/
def qt : Nat → List Nat → Option (List Nat × List Nat)
  | 0, _ => none
  | _ + 1, [] => none
  | n + 1, c :: r => if c = 39 then (if r.head? = some 39 then (qt n r.tail).map (fun q => (39 :: q.1, q.2)) else some ([], r))
    else if c = 92 then (match r with
      | [] => none
      | d :: r2 => match esc d with
        | some x => (qt n r2).map (fun q => (x :: q.1, q.2))
        | none => none)
    else (qt n r).map (fun q => (c :: q.1, q.2))
set_option maxHeartbeats 4000000 in
set_option maxRecDepth 100000 in
theorem p_quotedLoop {sc : xSc} {d g u p v : Nat} {G : xG} {t nm : List Nat} {P : xO → xH → Prop} (hu : u < 120) : ∀ (n i j : Nat) (A : List xC) (w s : List Nat), s.length < n → j + n ≤ 120 → t.drop i = s → i ≤ t.length → xTk A u p v G → xRw A 1 120 t → xRw A 5 4926 (nm ++ w) → nm.length + w.length + s.length ≤ 4926 →
    (∀ A' w', (qt n s = none ∨ ∃ q, qt n s = some q ∧ 24 < (w ++ q.1).length) → xTk A' u p v G → xRw A' 5 4926 (nm ++ w') → xSame A A' [5, 6, 18, 19, 20, 21, 22, 23, 24] → P (.inl (some (.int 0))) (A', g)) →
    (∀ A' q, qt n s = some q → (w ++ q.1).length ≤ 24 → xTk A' (u + 1) (t.length - q.2.length) v (xTn G u 1 p (t.length - q.2.length) (nI nm.length) (nI (w ++ q.1).length) (kL (w ++ q.1))) → xRw A' 5 4926 (nm ++ (w ++ q.1)) → xSame A A' [5, 6, 18, 19, 20, 21, 22, 23, 24] → P (.inl (some (.int 1))) (A', g)) →
    xP sc (d + 3) 105 17 [(0, .ref 18), (1, .int (nI nm.length)), (2, .int (nI i)), (3, .int (nI j))] [] (A, g) P
  | 0, i, j, A, w, s, hn0, _, _, _, _, _, _, _, _, _ => by omega
  | n + 1, i, j, A, w, s, hn0, hj, hd, hi, ht, hs, hn, hr, k0, k1 => by
    have h18 := ht.2.1
    have hl := hs.len
    have h120 : (120 : Int32).toInt = 120 := rfl
    have h39 : (39 : Int32).toInt = 39 := rfl
    have h92 : (92 : Int32).toInt = 92 := rfl
    have hJ : (nI j).toInt = (j : Int) := nI_toInt (by omega)
    have go : ∀ (i' c : Nat) (s' : List Nat), c < 128 → s'.length < n → t.drop i' = s' → i' ≤ t.length → s'.length + 1 ≤ s.length → ∀ (A1 : List xC), xRw A1 5 4926 (nm ++ w ++ [c]) → xSame A A1 [5, 6] → qt (n + 1) s = (qt n s').map (fun q => (c :: q.1, q.2)) → ∀ (x4 x5 x6 : Int32),
        xP sc (d + 3) 105 17 [(0, .ref 18), (1, .int (nI nm.length)), (2, .int (nI i')), (3, .int (nI j + 1)), (4, .int x4), (5, .int x5), (6, .int x6)] [] (A1, g) P := by
      intro i' c s' hc h1 h2 h3 h4 A1 q1 q2 e x4 x5 x6
      have g1 := p_quotedLoop (sc := sc) (d := d) (g := g) (P := P) hu n i' (j + 1) A1 (w ++ [c]) s' h1 (by omega) h2 h3 (ht.same q2 (by decide)) (hs.same q2 (by decide) (by decide)) (by rw [← List.append_assoc]; exact q1) (by rw [List.length_append, List.length_singleton]; omega) (fun A' w' z1 z2 z3 z4 => k0 A' w' (by
        rw [e]
        rcases z1 with z1 | ⟨q, z1, z5⟩
        · exact Or.inl (by rw [z1]; rfl)
        · exact Or.inr ⟨(c :: q.1, q.2), by rw [z1]; rfl, by rw [List.append_assoc] at z5; exact z5⟩) z2 z3 ((q2.trans z4).wide (by decide))) (fun A' q z1 z2 z3 z4 z5 => k1 A' (c :: q.1, q.2) (by rw [e, z1]; rfl) (by rw [List.append_assoc] at z2; exact z2) (by rw [List.append_assoc] at z3; exact z3) (by rw [List.append_assoc] at z4; exact z4) ((q2.trans z5).wide (by decide)))
      rw [← nI_1] at g1
      exact xP_more [(4, .int x4), (5, .int x5), (6, .int x6)] rfl g1
    refine xP_s rfl rfl rfl ?_
    refine xP_s rfl rfl rfl ?_
    refine xP_s rfl rfl rfl ?_
    refine xP_if (fun hc => ?_) (fun hc => ?_)
    · have := xc_t hc
      dsimp only at this
      omega
    · refine xP_s rfl rfl rfl ?_
      refine xP_get rfl h18 rfl ?_
      refine xP_s rfl rfl rfl ?_
      refine xP_cv rfl rfl rfl rfl rfl hs.obj (p_at hs (by decide) (by decide) ?_)
      rw [cAt_sfx0 hd (by omega)]
      refine xP_s rfl rfl rfl ?_
      refine xP_s rfl rfl rfl ?_
      refine xP_get rfl h18 rfl ?_
      refine xP_s rfl rfl rfl ?_
      refine xP_s rfl rfl rfl ?_
      refine xP_s rfl rfl rfl ?_
      rw [nI_1]
      refine xP_cv rfl rfl rfl rfl rfl hs.obj (p_at hs (by decide) (by decide) ?_)
      rw [cAt_sfx hd (by omega)]
      cases s with
      | nil =>
        repeat' first
          | refine xP_s rfl rfl rfl ?_
          | refine xP_ret rfl rfl rfl ?_
        exact k0 A w (Or.inl rfl) ht hn (xSame.refl _ _)
      | cons c r =>
        obtain ⟨hd1, hlt⟩ := drop_s hd
        have hch : ∀ x ∈ c :: r, x < 128 := fun x hx => hs.chr x (List.mem_of_mem_drop (hd ▸ hx))
        have hc128 := hch c List.mem_cons_self
        have hC : (nI c).toInt = (c : Int) := nI_toInt (by omega)
        have o1 : (oc r 0).toInt = 39 ↔ r[0]? = some 39 := oc_c 39 (fun x hx => hch x (List.mem_cons_of_mem _ hx))
        rw [List.length_cons] at hn0 hr
        rw [oc_0, oc_s]
        refine xP_s rfl rfl rfl ?_
        refine xP_s rfl rfl rfl ?_
        refine xP_s rfl rfl rfl ?_
        refine xP_s rfl rfl rfl ?_
        refine xP_if (fun hc => ?_) (fun hc => ?_)
        · refine xP_s rfl rfl rfl ?_
          refine xP_s rfl rfl rfl ?_
          refine xP_s rfl rfl rfl ?_
          refine xP_if (fun hc => ?_) (fun hc => ?_)
          · have n39 := xc_t hc
            dsimp only at n39
            refine xP_s rfl rfl rfl ?_
            refine xP_s rfl rfl rfl ?_
            refine xP_s rfl rfl rfl ?_
            refine xP_if (fun hc => ?_) (fun hc => ?_)
            · have n92 := xc_t hc
              dsimp only at n92
              have e : qt (n + 1) (c :: r) = (qt n r).map (fun q => (c :: q.1, q.2)) := by
                conv => lhs; unfold qt
                rw [if_neg (by omega), if_neg (by omega)]
              refine xP_s rfl rfl rfl ?_
              refine xP_s rfl rfl rfl ?_
              refine xP_s rfl rfl rfl ?_
              refine xP_s rfl rfl rfl ?_
              refine xP_s rfl rfl rfl ?_
              refine xP_if (fun hc => ?_) (fun hc => ?_)
              · refine xP_s rfl rfl rfl ?_
                refine xP_get rfl h18 rfl ?_
                refine xP_s rfl rfl rfl ?_
                refine xP_cv rfl rfl rfl rfl rfl hn.obj (p_add hn (by decide) (by decide) hc128 (by rw [List.length_append]; omega) (fun A1 q1 q2 => ?_))
                have go1 := go (i + 1) c r hc128 (by omega) hd1 (by omega) (by rw [List.length_cons]; omega) A1 q1 q2 e (nI c) (oc r 0) (nI c)
                rw [← nI_1] at go1
                refine xP_s rfl rfl rfl ?_
                refine xP_s rfl rfl rfl ?_
                refine xP_s rfl rfl rfl ?_
                refine xP_s rfl rfl rfl ?_
                refine xP_if (fun hc => ?_) (fun hc => ?_)
                · have := xc_t hc
                  dsimp only at this
                  omega
                · refine xP_s rfl rfl rfl ?_
                  refine xP_s rfl rfl rfl ?_
                  refine xP_s rfl rfl rfl ?_
                  refine xP_if (fun hc => ?_) (fun hc => ?_)
                  · repeat' first
                      | exact go1
                      | refine xP_s rfl rfl rfl ?_
                  · have := xc_f hc
                    dsimp only at this
                    omega
              · exact absurd (xc_f hc) (nI_neg1 (by omega))
            · have n92 := xc_f hc
              dsimp only at n92
              refine xP_s rfl rfl rfl ?_
              refine xP_call rfl rfl rfl (p_escaped ?_)
              cases r with
              | nil =>
                repeat' first
                  | refine xP_s rfl rfl rfl ?_
                  | refine xP_ret rfl rfl rfl ?_
                refine k0 A w (Or.inl ?_) ht hn (xSame.refl _ _)
                unfold qt
                rw [if_neg (by omega), if_pos (by omega)]
              | cons c2 r =>
                have hc2 := hch c2 (List.mem_cons_of_mem _ List.mem_cons_self)
                obtain ⟨hd2, hlt2⟩ := drop_s hd1
                rw [oc_0, esc_nI hc2]
                rw [List.length_cons] at hn0 hr
                cases he : esc c2 with
                | none =>
                  repeat' first
                    | refine xP_s rfl rfl rfl ?_
                    | refine xP_ret rfl rfl rfl ?_
                  refine k0 A w (Or.inl ?_) ht hn (xSame.refl _ _)
                  unfold qt
                  rw [if_neg (by omega), if_pos (by omega)]
                  dsimp only
                  rw [he]
                | some x =>
                  have hx := esc_lt he hc2
                  have e : qt (n + 1) (c :: c2 :: r) = (qt n r).map (fun q => (x :: q.1, q.2)) := by
                    conv => lhs; unfold qt
                    rw [if_neg (by omega), if_pos (by omega)]
                    dsimp only
                    rw [he]
                  dsimp only
                  refine xP_s rfl rfl rfl ?_
                  refine xP_s rfl rfl rfl ?_
                  refine xP_s rfl rfl rfl ?_
                  refine xP_s rfl rfl rfl ?_
                  refine xP_s rfl rfl rfl ?_
                  refine xP_if (fun hc => ?_) (fun hc => ?_)
                  · refine xP_s rfl rfl rfl ?_
                    refine xP_get rfl h18 rfl ?_
                    refine xP_s rfl rfl rfl ?_
                    refine xP_cv rfl rfl rfl rfl rfl hn.obj (p_add hn (by decide) (by decide) hx (by rw [List.length_append]; omega) (fun A1 q1 q2 => ?_))
                    have go1 := go (i + 2) x r hx (by omega) hd2 (by omega) (by rw [List.length_cons, List.length_cons]; omega) A1 q1 q2 e (nI c) (nI c2) (nI x)
                    rw [← nI_add i 2] at go1
                    refine xP_s rfl rfl rfl ?_
                    refine xP_s rfl rfl rfl ?_
                    refine xP_s rfl rfl rfl ?_
                    refine xP_s rfl rfl rfl ?_
                    refine xP_if (fun hc => ?_) (fun hc => ?_)
                    · repeat' first
                        | exact go1
                        | refine xP_s rfl rfl rfl ?_
                    · refine xP_s rfl rfl rfl ?_
                      refine xP_s rfl rfl rfl ?_
                      refine xP_s rfl rfl rfl ?_
                      refine xP_if (fun hc => ?_) (fun hc => ?_)
                      · have := xc_t hc
                        dsimp only at this
                        omega
                      · repeat' first
                          | exact go1
                          | refine xP_s rfl rfl rfl ?_
                  · exact absurd (xc_f hc) (nI_neg1 (by omega))
          · have n39 := xc_f hc
            dsimp only at n39
            refine xP_s rfl rfl rfl ?_
            refine xP_s rfl rfl rfl ?_
            refine xP_s rfl rfl rfl ?_
            refine xP_if (fun hc => ?_) (fun hc => ?_)
            · have d39 := xc_t hc
              dsimp only at d39
              rw [h39, o1, ← List.head?_eq_getElem?] at d39
              cases r with
              | nil => cases d39
              | cons c2 r =>
                obtain ⟨hd2, hlt2⟩ := drop_s hd1
                rw [List.length_cons] at hn0 hr
                have ec2 : c2 = 39 := Option.some.inj d39
                have e : qt (n + 1) (c :: c2 :: r) = (qt n r).map (fun q => (c :: q.1, q.2)) := by
                  have ec : c = 39 := by omega
                  rw [ec, ec2]
                  conv => lhs; unfold qt
                  rw [if_pos rfl, if_pos (show (39 :: r).head? = some 39 from rfl)]
                  rfl
                rw [oc_0]
                refine xP_s rfl rfl rfl ?_
                refine xP_s rfl rfl rfl ?_
                refine xP_s rfl rfl rfl ?_
                refine xP_if (fun hc => ?_) (fun hc => ?_)
                · refine xP_s rfl rfl rfl ?_
                  refine xP_s rfl rfl rfl ?_
                  refine xP_s rfl rfl rfl ?_
                  refine xP_s rfl rfl rfl ?_
                  refine xP_s rfl rfl rfl ?_
                  refine xP_if (fun hc => ?_) (fun hc => ?_)
                  · refine xP_s rfl rfl rfl ?_
                    refine xP_get rfl h18 rfl ?_
                    refine xP_s rfl rfl rfl ?_
                    refine xP_cv rfl rfl rfl rfl rfl hn.obj (p_add hn (by decide) (by decide) hc128 (by rw [List.length_append]; omega) (fun A1 q1 q2 => ?_))
                    have go1 := go (i + 2) c r hc128 (by omega) hd2 (by omega) (by rw [List.length_cons, List.length_cons]; omega) A1 q1 q2 e (nI c) (nI c2) (nI c)
                    rw [← nI_add i 2] at go1
                    refine xP_s rfl rfl rfl ?_
                    refine xP_s rfl rfl rfl ?_
                    refine xP_s rfl rfl rfl ?_
                    refine xP_s rfl rfl rfl ?_
                    refine xP_if (fun hc => ?_) (fun hc => ?_)
                    · repeat' first
                        | exact go1
                        | refine xP_s rfl rfl rfl ?_
                    · have := xc_f hc
                      dsimp only at this
                      omega
                  · exact absurd (xc_f hc) (nI_neg1 (by omega))
                · have := xc_f hc
                  dsimp only at this
                  omega
            · have d39 := xc_f hc
              dsimp only at d39
              rw [h39, o1, ← List.head?_eq_getElem?] at d39
              have e : qt (n + 1) (c :: r) = some ([], r) := by
                conv => lhs; unfold qt
                rw [if_pos (by omega), if_neg d39]
              have er : t.length - r.length = i + 1 := (drop_len hd1 (by omega)).symm
              refine xP_s rfl rfl rfl ?_
              refine xP_s rfl rfl rfl ?_
              refine xP_s rfl rfl rfl ?_
              refine xP_s rfl rfl rfl ?_
              refine xP_s rfl rfl rfl ?_
              rw [nI_1]
              refine xP_cv rfl rfl rfl rfl rfl h18 (p_addName ht hn hu (fun hz => ?_) (fun hz A' z1 z2 => ?_))
              · repeat' first
                  | refine xP_s rfl rfl rfl ?_
                  | refine xP_ret rfl rfl rfl ?_
                exact k0 A w (Or.inr ⟨_, e, by simpa using hz⟩) ht hn (xSame.refl _ _)
              · repeat' first
                  | refine xP_s rfl rfl rfl ?_
                  | refine xP_ret rfl rfl rfl ?_
                refine k1 A' _ e (by simpa using hz) ?_ ?_ (z2.wide (by decide))
                · simp only [List.append_nil, er]
                  exact z1
                · simp only [List.append_nil]
                  exact hn.same z2 (by decide) (by decide)
        · exact absurd (xc_f hc) (nI_neg1 (by omega))
