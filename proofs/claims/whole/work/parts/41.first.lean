-- Parser: a first part
theorem dgr_le {b : Bool} : ∀ {s : List Nat} {a : Nat} {q : Nat × List Nat}, dgr b s a = some q → a ≤ 2147483647 → q.1 ≤ 2147483647
  | [], a, q, h, ha => by
    cases h
    exact ha
  | c :: r, a, q, h, ha => by
    unfold dgr at h
    split at h
    · cases h
      exact ha
    · split at h
      · cases h
      · exact dgr_le h (by omega)
theorem lexN_le {c : Nat} {r : List Nat} {q : Nat × List Nat} (hr : ∀ x ∈ r, x ≤ 126) (h : lexN c r = some q) : q.1 ≤ 2147483647 := by
  unfold lexN at h
  split at h
  · cases r with
    | nil => cases h
    | cons c2 r2 =>
      rw [List.tail_cons] at h
      cases r2 with
      | nil => cases h
      | cons x r3 =>
        dsimp only at h
        split at h
        · cases h
        · cases h
          have := hr x (by simp)
          dsimp only
          omega
  · split at h
    · exact dgr_le h (by omega)
    · exact dgr_le h (by omega)
theorem lexT_val {s : List Nat} (hs : ∀ x ∈ s, x ≤ 126) (h : (lexT s).1 = 3) : (lexT s).2.1 ≤ 2147483647 := by
  cases s with
  | nil => exact absurd h (by decide)
  | cons c r =>
    generalize hq : lexT (c :: r) = q at h ⊢
    rw [lexT_cons] at hq
    repeat' split at hq
    all_goals subst hq
    all_goals first
      | (exfalso; revert h; simp [wrg]; done)
      | skip
    rename_i q hx
    exact lexN_le (fun x hx => hs x (List.mem_cons_of_mem _ hx)) hx
theorem nx_val {s : List Nat} (hs : ∀ c ∈ s, 32 ≤ c ∧ c ≤ 126) (h : (nx s).1 = 3) : (nx s).2.1 < 2 ^ 31 := by
  obtain ⟨s', h1, h2⟩ := nx_lay (s := s) (by omega)
  rw [h2] at h ⊢
  have := lexT_val (fun x hx => (hs x ((lay_sfx h1).mem x hx)).2) h
  omega
theorem nI_neg {n : Nat} (h : n < 2 ^ 31) : (-(nI n)).toInt = -(n : Int) := by
  rw [Int32.toInt_neg, nI_toInt h]
  rw [Int.bmod_eq_of_le] <;> omega
section PW
variable {sc : xSc} {d g : Nat} {t nm : List Nat} {sl : List xSl} {u p v : Nat} {G : xG} {P : xO → xH → Prop}
/-- the token's rows at a, and where it goes on -/
theorem xWd.len {A : List xC} {n a pr : Nat} {F : xF} (h : xWd A t nm sl u p v G n F a pr) : n ≤ 840 := h.2.2.2.2.1.1
set_option maxHeartbeats 4000000 in
set_option maxRecDepth 100000 in
theorem p_name {e lv n m a pr : Nat} {A : List xC} {F : xF} {s : List Nat} {vs : List (List Nat)} {most : Int} (hd : 4 * e ≤ d) (IH : ∀ dd, 4 * e + 10 ≤ dd → xTmC sc dd g t nm sl u p v G e (lv + 1)) (hsl : ∀ e ∈ sl, ¬ e.1 = 0 ∧ 1 ≤ e.2.1 ∧ e.2.1 ≤ 1200) (hch : ∀ c ∈ t, 32 ≤ c ∧ c ≤ 126) (hw : xWd A t nm sl u p v G n F a pr) (hta : xTA t nm G u m a s vs) (hsx : sfx t s) (hk : (nx s).1 = 1) (hpf : pfx sl most s = none) (hbud : n + 2 * s.length ≤ 840)
    (kb : ∀ A', noR (fst1 sl (tmF sl e) most (s, vs)) → xBd A A' t nm sl u p v G n F (e + 1) → P (.inl (some (.int (-1)))) (A', g))
    (ko : ∀ A' F' a' m' pr' L D st', fst1 sl (tmF sl e) most (s, vs) = some (L, D, st', 0) → D ≤ 14 → xWd A' t nm sl u p v G (n + L.length) F' a' pr' → xTA t nm G u m' a' st'.1 st'.2 → xTr F' nm D n (n + L.length) L → F'.2.2.2.2.2 (n + L.length - 1) = nI D → F'.2.2.2.2.1 (n + L.length - 1) = -1 → xA0 F F' n → xSame A A' pL → P (.inl (some (.int (nI (n + L.length - 1))))) (A', g)) : xM1 sc (d + 12) 50 [.ref 25, .int (nI lv)] (A, g) P := by
  obtain ⟨hs, hn, ho, ht, hp, h25, hpr⟩ := id hw
  unfold xPa at h25
  have hl := hs.len
  have hu := ht.1
  have hpn := hp.1
  obtain ⟨q1, q2, _⟩ := TA_E hta
  have hss : ∀ c ∈ s, 32 ≤ c ∧ c ≤ 126 := fun c hc => hch c (hsx.mem c hc)
  have tk := nx_tk2 q2
  have tkl := tk.len
  have hsx1 : sfx t (nx s).2.2.2 := hsx.trans (nx_sfx' q2)
  obtain ⟨zz, n1, n2, n3⟩ := TA_name hta hk
  have hvs : vsx vs (nx s) = vs := by unfold vsx; rw [if_neg (by omega)]
  obtain ⟨m1, h1⟩ := TA_next hta (by omega)
  rw [hvs] at h1
  have eq0 : fst1 sl (tmF sl e) most (s, vs) = (if isMin s (nx s) = true then (if (nx (nx s).2.2.2).1 = 3 then some ([(1, -((nx (nx s).2.2.2).2.1 : Int), [], 0)], 1, ((nx (nx s).2.2.2).2.2.2, vs), 0) else none)
    else if isCal (nx s) = true then (match args (tmF sl e) 6 ((nx s).2.2.2.tail, vs) with
      | none => none
      | some (As, k, DA, st') => some ((3, 0, (nx s).2.2.1, k) :: As, DA + 1, st', 0))
    else some ([(2, 0, (nx s).2.2.1, 0)], 1, ((nx s).2.2.2, vs), 0)) := by
    unfold fst1
    rw [if_neg (by dsimp only; omega), if_neg (by dsimp only; omega), if_neg (by dsimp only; omega), if_pos hk, hpf]
    rfl
  unfold xM1
  refine xP_s rfl rfl rfl ?_
  refine xP_get rfl h25 rfl ?_
  refine xP_s rfl rfl rfl ?_
  refine xP_s rfl rfl rfl ?_
  refine xP_get rfl h25 rfl ?_
  refine xP_s rfl rfl rfl ?_
  refine xP_cv rfl rfl rfl rfl rfl ht.2.1 (p_isMinusOfInteger ht hs (by omega) (TA_min hta hl hsx hch) ?_)
  cases hmin : isMin s (nx s)
  · rw [if_neg (by rw [hmin]; decide)] at eq0
    refine xP_s rfl rfl rfl ?_
    refine xP_s rfl rfl rfl ?_
    refine xP_get rfl h25 rfl ?_
    refine xP_s rfl rfl rfl ?_
    refine xP_cv rfl rfl rfl rfl rfl ht.2.1 (p_isCall ht (by omega) (TA_call hta hl hsx hch) ?_)
    cases hcal : isCal (nx s)
    · rw [if_neg (by rw [hcal]; decide)] at eq0
      have hw1 := hw.setA (a + 1) pr hpr
      have s1 := xSame.set (A := A) 25 (.inr (3, [.ref 18, .ref 7, .ref 11, .int (nI (a + 1)), .int (nI pr)]))
      refine xP_s rfl rfl rfl ?_
      refine xP_s rfl rfl rfl ?_
      refine xP_s rfl rfl rfl ?_
      refine xP_get rfl h25 rfl ?_
      refine xP_s rfl rfl rfl ?_
      refine xP_s rfl rfl rfl ?_
      refine xP_put rfl h25 (Nat.le_of_ble_eq_true rfl) rfl ?_
      rw [show nI a + 1 = nI (a + 1) from nI_1 a]
      obtain ⟨hs', hn', ho', ht', hp', h25', _⟩ := id hw1
      unfold xPa at h25'
      refine xP_s rfl rfl rfl ?_
      refine xP_get rfl h25' rfl ?_
      refine xP_s rfl rfl rfl ?_
      refine xP_get rfl h25' rfl ?_
      refine xP_s rfl rfl rfl ?_
      refine xP_cv rfl rfl rfl rfl rfl ht'.2.1 (p_tvalue ht' (by omega) ?_)
      rw [if_pos q1, n1]
      refine xP_s rfl rfl rfl ?_
      refine xP_get rfl h25' rfl ?_
      refine xP_s rfl rfl rfl ?_
      refine xP_cv rfl rfl rfl rfl rfl ht'.2.1 (p_tsize ht' (by omega) ?_)
      rw [if_pos q1, n2]
      refine xP_cv rfl rfl rfl rfl rfl hp'.2.1 (p_addAtom hp' (fun hz => ?_) (fun hz A2 x1 x2 => ?_))
      · omega
      · repeat' first
          | refine xP_s rfl rfl rfl ?_
          | refine xP_ret rfl rfl rfl ?_
        exact ko A2 _ (a + 1) m1 pr _ 1 _ eq0 (by omega) (hw1.setP x1 x2) h1 (tr_leaf (p := (2, 0, (nx s).2.2.1, 0)) rfl (by simp) ⟨fun _ => rfl, fun h => by simp at h, fun h => by simp at h, fun _ => rfl⟩ (fun h => by simp at h) (fun _ => ⟨zz, rfl, rfl, n3⟩)) pk_us pk_us (xA0_add F n _ _ _ _ _ (Nat.le_refl _)) ((s1.trans x2).wide (by decide))
    · rw [if_pos hcal] at eq0
      have hc40 : (nx s).2.2.2.head? = some 40 := by
        simp [isCal] at hcal
        exact hcal.2
      obtain ⟨r2, hr2⟩ : ∃ r2, (nx s).2.2.2 = 40 :: r2 := by
        cases hr : (nx s).2.2.2 with
        | nil =>
          rw [hr] at hc40
          cases hc40
        | cons c r =>
          rw [hr] at hc40
          exact ⟨r, by rw [Option.some.inj hc40]⟩
      have hnx : nx (nx s).2.2.2 = (5, 40, [], r2) := by
        rw [hr2, nx_stay (by decide) (by decide) (by decide)]
        rfl
      obtain ⟨m2, h2⟩ := TA_next h1 (by rw [hnx]; simp)
      have hvs2 : vsx vs (nx (nx s).2.2.2) = vs := by unfold vsx; rw [hnx]; rfl
      rw [hvs2, hnx] at h2
      dsimp only at h2
      have htl : (nx s).2.2.2.tail = r2 := by rw [hr2]; rfl
      rw [htl] at eq0
      have hl2 : (nx s).2.2.2.length = r2.length + 1 := by rw [hr2]; rfl
      have hsx2 : sfx t r2 := hsx1.trans ⟨[40], hr2⟩
      have hw1 := hw.setA (a + 2) pr hpr
      have s1 := xSame.set (A := A) 25 (.inr (3, [.ref 18, .ref 7, .ref 11, .int (nI (a + 2)), .int (nI pr)]))
      refine xP_s rfl rfl rfl ?_
      refine xP_s rfl rfl rfl ?_
      refine xP_s rfl rfl rfl ?_
      refine xP_get rfl h25 rfl ?_
      refine xP_s rfl rfl rfl ?_
      refine xP_s rfl rfl rfl ?_
      refine xP_put rfl h25 (Nat.le_of_ble_eq_true rfl) rfl ?_
      rw [show nI a + 2 = nI (a + 2) from nI_add a 2]
      obtain ⟨hs', hn', ho', ht', hp', h25', _⟩ := id hw1
      unfold xPa at h25'
      refine xP_s rfl rfl rfl ?_
      refine xP_get rfl h25' rfl ?_
      refine xP_s rfl rfl rfl ?_
      refine xP_get rfl h25' rfl ?_
      refine xP_s rfl rfl rfl ?_
      refine xP_cv rfl rfl rfl rfl rfl ht'.2.1 (p_tvalue ht' (by omega) ?_)
      rw [if_pos q1, n1]
      refine xP_s rfl rfl rfl ?_
      refine xP_get rfl h25' rfl ?_
      refine xP_s rfl rfl rfl ?_
      refine xP_cv rfl rfl rfl rfl rfl ht'.2.1 (p_tsize ht' (by omega) ?_)
      rw [if_pos q1, n2]
      refine xP_s rfl rfl rfl ?_
      refine xP_s rfl rfl rfl ?_
      refine xP_cv rfl rfl rfl rfl rfl h25' (p_arguments (st := (r2, vs)) hd IH hsl hch hw1 h2 hsx2 (by dsimp only; omega) (fun A2 z1 z2 => ?_) (fun A2 F2 a2 m3 pr2 x r z1 z2 z3 z4 z5 z6 z7 => ?_))
      · obtain ⟨n', F', a', pr', y1, y2, y3, y4, y5⟩ := z2
        have yp := y1.2.2.2.2.1
        refine xP_cv rfl rfl rfl rfl rfl yp.2.1 (p_addCompound (c := 0) (m := 0) yp (by decide) ⟨rfl, rfl⟩ (fun _ => ?_) (fun _ hz => absurd hz (by omega)))
        repeat' first
          | refine xP_s rfl rfl rfl ?_
          | refine xP_ret rfl rfl rfl ?_
        refine kb A2 ?_ ⟨n', F', a', pr', y1, y2, y3, y4, (s1.trans y5).wide (by decide)⟩
        rw [eq0]
        rcases z1 with z1 | ⟨⟨As, k', DA, st'⟩, z1, z3⟩
        · rw [z1]
          exact Or.inl rfl
        · rw [z1]
          exact Or.inr ⟨_, rfl, by dsimp only at z3 ⊢; omega⟩
      · obtain ⟨As, k', DA, st'⟩ := r
        dsimp only at z2 z3 z4 z5
        have zp := z3.2.2.2.2.1
        have aI := args_I (tmF_I (fun e he => ⟨(hsl e he).1, (hsl e he).2.2⟩) e) 6 _ _ z1
        obtain ⟨i1, i2, i3, i4⟩ := aI
        dsimp only at i1 i2 i3 i4
        have i1l := i1.len
        have hua := (TA_E z4).1
        rw [z1] at eq0
        dsimp only at eq0
        refine xP_cv rfl rfl rfl rfl rfl zp.2.1 (p_addCompound (c := k') (m := DA) zp i3 (z5.cd (Nat.le_refl _)) (fun hz => ?_) (fun c1 c2 c3 A3 x1 x2 => ?_))
        · repeat' first
            | refine xP_s rfl rfl rfl ?_
            | refine xP_ret rfl rfl rfl ?_
          refine kb A2 (Or.inr ⟨_, eq0, by dsimp only; omega⟩) ⟨_, F2, a2, pr2, z3, by omega, z6, by omega, (s1.trans z7).wide (by decide)⟩
        · repeat' first
            | refine xP_s rfl rfl rfl ?_
            | refine xP_ret rfl rfl rfl ?_
          have hlo : n < n + As.length := by
            obtain ⟨kk, rfl⟩ : ∃ kk, k' = kk + 1 := ⟨k' - 1, by omega⟩
            obtain ⟨a0, b0, _, _, _, _, w1, w2, w3, _⟩ := z5
            omega
          exact ko A3 _ a2 m3 pr2 _ (DA + 1) st' eq0 (by omega) (z3.setP x1 x2) z4 (tr_many (z5.ch (Nat.le_refl _)) ⟨i2, i3⟩ hlo n3) pk_us pk_us (z6.trans (xA0_add F2 _ _ _ _ _ _ (Nat.le_refl _)) (by omega)) (((s1.trans z7).trans x2).wide (by decide))
  · rw [if_pos hmin] at eq0
    have hm := (TA_min hta hl hsx hch).mp hmin
    have k1 := TA_kind h1
    have hk3 : (nx (nx s).2.2.2).1 = 3 := by omega
    rw [if_pos hk3] at eq0
    obtain ⟨p1, p2, _⟩ := TA_E h1
    have tk1 := nx_tk2 p2
    have tk1l := tk1.len
    have hv1 := TA_val h1 (Or.inr hk3)
    have hvl := nx_val (fun c hc => hch c (hsx1.mem c hc)) hk3
    obtain ⟨m2, h2⟩ := TA_next h1 (by omega)
    have hvs2 : vsx vs (nx (nx s).2.2.2) = vs := by unfold vsx; rw [if_neg (by omega)]
    rw [hvs2] at h2
    have hw1 := hw.setA (a + 2) pr hpr
    have s1 := xSame.set (A := A) 25 (.inr (3, [.ref 18, .ref 7, .ref 11, .int (nI (a + 2)), .int (nI pr)]))
    refine xP_s rfl rfl rfl ?_
    refine xP_s rfl rfl rfl ?_
    refine xP_s rfl rfl rfl ?_
    refine xP_get rfl h25 rfl ?_
    refine xP_s rfl rfl rfl ?_
    refine xP_s rfl rfl rfl ?_
    refine xP_put rfl h25 (Nat.le_of_ble_eq_true rfl) rfl ?_
    rw [show nI a + 2 = nI (a + 2) from nI_add a 2]
    obtain ⟨hs', hn', ho', ht', hp', h25', _⟩ := id hw1
    unfold xPa at h25'
    refine xP_s rfl rfl rfl ?_
    refine xP_get rfl h25' rfl ?_
    refine xP_s rfl rfl rfl ?_
    refine xP_get rfl h25' rfl ?_
    refine xP_s rfl rfl rfl ?_
    refine xP_s rfl rfl rfl ?_
    refine xP_s rfl rfl rfl ?_
    rw [nI_1]
    refine xP_cv rfl rfl rfl rfl rfl ht'.2.1 (p_tvalue ht' (by omega) ?_)
    rw [if_pos p1, hv1]
    refine xP_s rfl rfl rfl ?_
    refine xP_cv rfl rfl rfl rfl rfl hp'.2.1 (p_addInteger hp' (fun hz => ?_) (fun hz A2 x1 x2 => ?_))
    · omega
    · repeat' first
        | refine xP_s rfl rfl rfl ?_
        | refine xP_ret rfl rfl rfl ?_
      exact ko A2 _ (a + 2) m2 pr _ 1 _ eq0 (by omega) (hw1.setP x1 x2) h2 (tr_leaf (p := (1, -((nx (nx s).2.2.2).2.1 : Int), [], 0)) (x3 := 0) rfl (by simp) ⟨fun _ => rfl, fun h => by simp at h, fun _ => rfl, fun h => by simp at h⟩ (fun _ => nI_neg hvl) (fun h => by simp at h)) pk_us pk_us (xA0_add F n _ _ _ _ _ (Nat.le_refl _)) ((s1.trans x2).wide (by decide))
end PW
