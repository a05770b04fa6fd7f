-- what is written, read again: names
theorem esc_eO {c x : Nat} (h : eO c = some x) : esc x = some c := by
  unfold eO at h
  split at h
  next e => cases h; rw [e]; rfl
  · split at h
    next e => cases h; rw [e]; rfl
    · split at h
      next e =>
        cases h
        rcases e with rfl | rfl <;> rfl
      · cases h
theorem eO_no {c : Nat} (h : eO c = none) : ¬ c = 39 ∧ ¬ c = 92 ∧ ¬ c = 10 ∧ ¬ c = 9 := by
  unfold eO at h
  split at h
  · cases h
  · split at h
    · cases h
    · split at h
      · cases h
      · omega
theorem qt_ec {z : List Nat} (hz : ¬ z.head? = some 39) : ∀ (l : List Nat) (n : Nat), (l.flatMap ecs).length < n → qt n (l.flatMap ecs ++ 39 :: z) = some (l, z)
  | [], n, h => by
    cases n with
    | zero => exact absurd h (by simp)
    | succ n =>
      rw [List.flatMap_nil, List.nil_append]
      unfold qt
      rw [if_pos rfl, if_neg hz]
  | c :: l, n, h => by
    rw [List.flatMap_cons] at h ⊢
    cases he : eO c with
    | some x =>
      have e : ecs c = [92, x] := by unfold ecs; rw [he]
      rw [e] at h ⊢
      simp only [List.length_append, List.length_cons, List.length_nil] at h
      cases n with
      | zero => omega
      | succ n =>
        simp only [List.cons_append, List.nil_append]
        unfold qt
        rw [if_neg (by decide), if_pos rfl]
        dsimp only
        rw [esc_eO he]
        dsimp only
        rw [qt_ec hz l n (by omega)]
        rfl
    | none =>
      have e : ecs c = [c] := by unfold ecs; rw [he]
      obtain ⟨h1, h2, _⟩ := eO_no he
      rw [e] at h ⊢
      simp only [List.length_append, List.length_cons, List.length_nil] at h
      cases n with
      | zero => omega
      | succ n =>
        rw [List.cons_append, List.nil_append, List.cons_append]
        unfold qt
        rw [if_neg h1, if_neg h2, qt_ec hz l n (by omega)]
        rfl
theorem ecs_gd {c : Nat} (h : gdC c) : gds (ecs c) := by
  intro x hx
  unfold ecs at hx
  cases he : eO c with
  | some y =>
    rw [he] at hx
    unfold eO at he
    unfold gdC at h
    rcases List.mem_cons.mp hx with q | q
    · omega
    · rw [List.mem_singleton] at q
      subst q
      split at he
      · cases he; omega
      · split at he
        · cases he; omega
        · split at he
          · cases he; omega
          · cases he
  | none =>
    rw [he] at hx
    obtain ⟨_, _, h3, h4⟩ := eO_no he
    rw [List.mem_singleton] at hx
    unfold gdC at h
    omega
theorem oc_h0 {c : Nat} {l : List Nat} (h : c ≤ 126) : (oc (c :: l) 0).toInt = (c : Int) := nI_toInt (by omega)
theorem oc_h1 {b c : Nat} {l : List Nat} (h : c ≤ 126) : (oc (b :: c :: l) 1).toInt = (c : Int) := nI_toInt (by omega)
/-- a name as it is written: its first character, all of them, and its token -/
def NW (al : List Nat → Prop) (o : List Nat) : Prop := (∃ c r, o = c :: r ∧ ¬ c = 93 ∧ ¬ c = 125 ∧ ¬ c = 32) ∧ gds o ∧ ∀ z, stp z → (o ++ z).length ≤ 120 → TN al (o ++ z) z
theorem gds_of {f : Nat → Bool} (h9 : f 9 = false) (h10 : f 10 = false) {l : List Nat} (hl : ∀ c ∈ l, gdC c) (h : l.all f = true) : gds l := by
  intro c hc
  obtain ⟨h1, h2⟩ := hl c hc
  have hf := List.all_eq_true.mp h c hc
  rcases h1 with q | q | q
  · rw [q, h9] at hf
    cases hf
  · rw [q, h10] at hf
    cases hf
  · exact ⟨q, h2⟩
theorem nmW_NW {al : List Nat → Prop} {l : List Nat} (hl : okN l) (ha : al l) : NW al (nmW l) := by
  obtain ⟨hlen, hch⟩ := hl
  unfold nmW
  by_cases hp : pln l = true
  · rw [if_pos hp]
    unfold pln at hp
    rw [decide_eq_true_eq] at hp
    rcases hp with ⟨h1, h2⟩ | ⟨h1, h2⟩ | ⟨h1, h1', h2⟩ | ⟨h1, h2, h3, h4⟩
    · match l, h1, h2, hch, ha with
      | [c], _, h2, hch, ha =>
        have hc := (hch c List.mem_cons_self).2
        rw [oc_h0 hc] at h2
        have h3 : c = 33 ∨ c = 59 := by omega
        refine ⟨⟨c, [], rfl, by omega, by omega, by omega⟩, fun x hx => by rw [List.mem_singleton] at hx; omega, fun z hz _ => ?_⟩
        refine TN.tok (k := 1) (v := 0) (w := [c]) ?_ (by decide) (by decide) (fun _ => ha)
        rw [List.singleton_append, nx_st2 (by omega) (by omega) (by omega)]
        rcases h3 with rfl | rfl <;> rfl
    · match l, h1, h2, hch, ha with
      | [c, b], _, h2, hch, ha =>
        have hc := (hch c List.mem_cons_self).2
        have hb := (hch b (by simp)).2
        rw [oc_h0 hc, oc_h1 hb] at h2
        have h3 : (c = 91 ∧ b = 93) ∨ (c = 123 ∧ b = 125) := by omega
        refine ⟨⟨c, [b], rfl, by omega, by omega, by omega⟩, fun x hx => by simp only [List.mem_cons, List.not_mem_nil, or_false] at hx; omega, fun z hz _ => ?_⟩
        refine TN.tok (k := 1) (v := 0) (w := [c, b]) ?_ (by decide) (by decide) (fun _ => ha)
        rw [List.cons_append, List.singleton_append, nx_st2 (by omega) (by omega) (by omega)]
        rcases h3 with ⟨rfl, rfl⟩ | ⟨rfl, rfl⟩ <;> rfl
    · match l, h1, h1', h2, hch, hlen, ha with
      | [], h1, _, _, _, _, _ => exact absurd h1 (by decide)
      | c :: r, h1, h1', h2, hch, hlen, ha =>
        have hc := (hch c List.mem_cons_self).2
        rw [oc_h0 hc] at h1 h1'
        refine ⟨⟨c, r, rfl, by omega, by omega, by omega⟩, gds_of (by decide) (by decide) hch h2, fun z hz _ => ?_⟩
        obtain ⟨t1, t2⟩ := hz.wh stp_wd _ (List.all_eq_true.mp h2)
        refine TN.tok (k := 1) (v := 0) (w := c :: r) ?_ (by decide) (by decide) (fun _ => ha)
        rw [List.cons_append] at t1 t2 ⊢
        rw [nx_st2 (by omega) (by omega) (by omega), lexT_cons, if_pos (by simp [isSm]; omega), t1, t2, if_pos hlen]
    · match l, h1, h2, h3, h4, hch, hlen, ha with
      | [], _, h2, _, _, _, _, _ => exact absurd h2 (by decide)
      | c :: r, h1, h2, h3, h4, hch, hlen, ha =>
        have hc := (hch c List.mem_cons_self).2
        have hsg := List.all_eq_true.mp h4 c List.mem_cons_self
        have hcs : ∀ c, c < 127 → isSg c = true → ¬ c = 93 ∧ ¬ c = 125 ∧ ¬ c = 32 ∧ ¬ c = 37 ∧ isSm c = false ∧ isLg c = false ∧ ¬ c = 95 ∧ isDg c = false := by decide
        obtain ⟨q1, q2, q3, q4, q5, q6, q7, q8⟩ := hcs c (by omega) hsg
        refine ⟨⟨c, r, rfl, q1, q2, q3⟩, gds_of (by decide) (by decide) hch h4, fun z hz _ => ?_⟩
        obtain ⟨t1, t2⟩ := hz.wh stp_sg _ (List.all_eq_true.mp h4)
        have hcom : ¬ (c = 47 ∧ (r ++ z).head? = some 42) := by
          intro ⟨g1, g2⟩
          cases r with
          | nil => exact hz.hd (by decide) g2
          | cons b r =>
            rw [List.cons_append] at g2
            cases g2
            refine h3 (Or.inr ⟨?_, ?_⟩)
            · rw [oc_h0 hc]
              omega
            · rw [oc_h1 (by decide)]
              rfl
        refine TN.tok (k := 1) (v := 0) (w := c :: r) ?_ (by decide) (by decide) (fun _ => ha)
        rw [List.cons_append] at t1 t2 ⊢
        rw [nx_st2 q3 q4 hcom, lexT_cons, if_neg (by simp [q5]), if_neg (by simp [q6, q7]), if_neg (by simp [q8]), if_pos hsg, t1, t2, if_neg ?_, if_pos hlen]
        intro ⟨g1, _⟩
        cases g1
        exact h3 (Or.inl ⟨rfl, rfl⟩)
  · rw [if_neg hp]
    refine ⟨⟨39, _, rfl, by decide, by decide, by decide⟩, ?_, fun z hz hlz => ?_⟩
    · intro x hx
      rcases List.mem_cons.mp hx with q | q
      · omega
      · rcases List.mem_append.mp q with q | q
        · obtain ⟨c, hc1, hc2⟩ := List.mem_flatMap.mp q
          exact ecs_gd (hch c hc1) x hc2
        · rw [List.mem_singleton] at q
          omega
    · refine TN.tok (k := 1) (v := 0) (w := l) ?_ (by decide) (by decide) (fun _ => ha)
      have e : 39 :: (l.flatMap ecs ++ [39]) ++ z = 39 :: (l.flatMap ecs ++ 39 :: z) := by simp
      rw [e] at hlz ⊢
      rw [List.length_cons, List.length_append, List.length_cons] at hlz
      rw [nx_st2 (by decide) (by decide) (by simp), lexT_cons, if_neg (by decide), if_neg (by decide), if_neg (by decide), if_neg (by decide), if_pos rfl, qt_ec (hz.hd (by decide)) l 120 (by omega)]
      dsimp only
      rw [if_pos hlen]
theorem int_NW {al : List Nat → Prop} {v : Int} (ha : al [45]) (hv : -2147483647 ≤ v ∧ v ≤ 2147483647) : NW al (intW v) := by
  have hn : v.natAbs ≤ 2147483647 := by omega
  obtain ⟨d, r, e, h1, h2, h3⟩ := ten_hd v.natAbs hn
  have hg : gds (ten v.natAbs) := fun c hc => by
    have := ten_dg _ c hc
    omega
  unfold intW
  by_cases h : v < 0
  · rw [if_pos h]
    refine ⟨⟨45, _, rfl, by decide, by decide, by decide⟩, ?_, fun z hz _ => ?_⟩
    · intro x hx
      rcases List.mem_cons.mp hx with q | q
      · omega
      · exact hg x q
    · exact TN.min ha hz hn
  · rw [if_neg h, List.nil_append]
    refine ⟨⟨d, r, e, by omega, by omega, by omega⟩, hg, fun z hz _ => TN.num hz hn⟩
theorem var_NW {al : List Nat → Prop} {v : Int} (hv : 0 ≤ v ∧ v ≤ 120) (ha : al (95 :: ten v.natAbs)) : NW al (95 :: intW v) := by
  have e : intW v = ten v.natAbs := by
    unfold intW
    rw [if_neg (by omega), List.nil_append]
  rw [e]
  refine ⟨⟨95, _, rfl, by decide, by decide, by decide⟩, ?_, fun z hz _ => TN.var hz ha⟩
  intro x hx
  rcases List.mem_cons.mp hx with q | q
  · omega
  · have := ten_dg _ x q
    omega
/-- numbers as written are short -/
theorem lgF_small : ∀ (f k m n : Nat), n < 10 ^ (m + 1) → k ≤ m → lgF f k n ≤ m
  | 0, k, m, n, h, hk => by
    rw [lgF]
    exact hk
  | f + 1, k, m, n, h, hk => by
    rw [lgF]
    split
    next hc =>
      refine lgF_small f (k + 1) m n h ?_
      rcases Nat.lt_or_ge m (k + 1) with z | z
      · exfalso
        have : 10 ^ (m + 1) ≤ 10 ^ (k + 1) := Nat.pow_le_pow_right (by decide) (by omega)
        omega
      · exact z
    · exact hk
theorem ten_sml {n m : Nat} (h : n < 10 ^ (m + 1)) : (ten n).length ≤ m + 1 := by
  unfold ten
  rw [dgU_len]
  have := lgF_small 10 0 m n h (by omega)
  omega
theorem cst_int {v : Int} (h : -2147483647 ≤ v ∧ v ≤ 2147483647) : (intW v).length ≤ cst (1, v, [], 0) := by
  have hc : cst (1, v, [], 0) = if 0 ≤ v ∧ v ≤ 126 then 3 else if 0 ≤ v then 10 else 11 := rfl
  rw [hc]
  unfold intW
  rw [List.length_append]
  have h10 := ten_sml (n := v.natAbs) (m := 9) (by omega)
  by_cases h0 : v < 0
  · rw [if_pos h0, if_neg (by omega), if_neg (by omega), List.length_singleton]
    omega
  · rw [if_neg h0, List.length_nil]
    by_cases h1 : v ≤ 126
    · have := ten_sml (n := v.natAbs) (m := 2) (by omega)
      rw [if_pos (by omega)]
      omega
    · rw [if_neg (by omega), if_pos (by omega)]
      omega
theorem cst_var {v : Int} (h : 0 ≤ v ∧ v ≤ 120) : (95 :: intW v).length ≤ 4 := by
  unfold intW
  have := ten_sml (n := v.natAbs) (m := 2) (by omega)
  rw [if_neg (by omega), List.nil_append, List.length_cons]
  omega
