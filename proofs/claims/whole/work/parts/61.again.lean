-- what is written, read again: tokens of its pieces
/-- n tokens from s on, none of them an end, names as allowed, s' behind them -/
def tkR (al : List Nat → Prop) : Nat → List Nat → List Nat → Prop
  | 0, s, s' => s = s'
  | n + 1, s, s' => (nx s).1 < 6 ∧ ¬ (nx s).1 = 0 ∧ ((nx s).1 = 1 ∨ (nx s).1 = 2 → al (nx s).2.2.1) ∧ tkR al n (nx s).2.2.2 s'
def TN (al : List Nat → Prop) (s s' : List Nat) : Prop := ∃ n, tkR al (n + 1) s s'
theorem tkR.trans {al : List Nat → Prop} : ∀ {n m : Nat} {s s' s2 : List Nat}, tkR al n s s' → tkR al m s' s2 → tkR al (n + m) s s2
  | 0, m, s, s', s2, h, h' => by
    rw [Nat.zero_add, show s = s' from h]
    exact h'
  | n + 1, m, s, s', s2, h, h' => by
    rw [show n + 1 + m = (n + m) + 1 by omega]
    exact ⟨h.1, h.2.1, h.2.2.1, h.2.2.2.trans h'⟩
theorem TN.trans {al : List Nat → Prop} {s s' s2 : List Nat} (h : TN al s s') (h' : TN al s' s2) : TN al s s2 := by
  obtain ⟨n, h⟩ := h
  obtain ⟨m, h'⟩ := h'
  refine ⟨n + 1 + m, ?_⟩
  have := h.trans h'
  rwa [show n + 1 + (m + 1) = n + 1 + m + 1 by omega] at this
theorem TN.one {al : List Nat → Prop} {s : List Nat} (h1 : (nx s).1 < 6) (h2 : ¬ (nx s).1 = 0) (h3 : (nx s).1 = 1 ∨ (nx s).1 = 2 → al (nx s).2.2.1) : TN al s (nx s).2.2.2 := ⟨0, h1, h2, h3, rfl⟩
theorem TN.tok {al : List Nat → Prop} {s s' w : List Nat} {k v : Nat} (e : nx s = (k, v, w, s')) (h1 : k < 6) (h2 : ¬ k = 0) (h3 : k = 1 ∨ k = 2 → al w) : TN al s s' := by
  have := TN.one (al := al) (s := s) (by rw [e]; exact h1) (by rw [e]; exact h2) (by rw [e]; exact h3)
  rwa [e] at this
theorem lay_fuel : ∀ (n m : Nat) (s : List Nat), s.length ≤ n → s.length ≤ m → lay n s = lay m s
  | 0, m, s, h, h' => by
    have : s = [] := List.length_eq_zero_iff.mp (by omega)
    rw [this, lay_nil, lay_nil]
  | n + 1, 0, s, h, h' => by
    have : s = [] := List.length_eq_zero_iff.mp (by omega)
    rw [this, lay_nil, lay_nil]
  | n + 1, m + 1, [], h, h' => by rw [lay_nil, lay_nil]
  | n + 1, m + 1, c :: r, h, h' => by
    rw [List.length_cons] at h h'
    unfold lay
    rw [lay_fuel n m r (by omega) (by omega), lay_nil, lay_nil]
    cases hz : incom r.tail with
    | none => rfl
    | some z =>
      have := incom_len hz
      have ht : r.tail.length ≤ r.length := by simp
      dsimp only
      rw [lay_fuel n m z (by omega) (by omega)]
theorem nx_sp {y : List Nat} (h : y.length ≤ 120) : nx (32 :: y) = nx y := by
  unfold nx
  have : lay 121 (32 :: y) = lay 121 y := by
    have e : lay 121 (32 :: y) = lay 120 y := by
      conv => lhs; unfold lay
      rw [if_pos rfl]
    rw [e]
    exact lay_fuel 120 121 y h (by omega)
  rw [this]
theorem TN.sp {al : List Nat → Prop} {y z : List Nat} (hl : y.length ≤ 120) (h : TN al y z) : TN al (32 :: y) z := by
  obtain ⟨n, h1, h2, h3, h4⟩ := h
  refine ⟨n, ?_⟩
  unfold tkR
  rw [nx_sp hl]
  exact ⟨h1, h2, h3, h4⟩
theorem nx_st2 {c : Nat} {r : List Nat} (h1 : ¬ c = 32) (h2 : ¬ c = 37) (h3 : ¬ (c = 47 ∧ r.head? = some 42)) : nx (c :: r) = lexT (c :: r) := by
  unfold nx
  have : lay 121 (c :: r) = some (c :: r) := by
    unfold lay
    rw [if_neg h1, if_neg h2, if_neg h3]
  rw [this]
/-- what may stand behind a name, a number or a variable -/
def stp (z : List Nat) : Prop := z = [] ∨ ∃ c r, z = c :: r ∧ (c = 32 ∨ c = 40 ∨ c = 41 ∨ c = 44 ∨ c = 93 ∨ c = 124 ∨ c = 125)
theorem stp.c {c : Nat} {r : List Nat} (h : c = 32 ∨ c = 40 ∨ c = 41 ∨ c = 44 ∨ c = 93 ∨ c = 124 ∨ c = 125) : stp (c :: r) := Or.inr ⟨c, r, rfl, h⟩
theorem stp.hd {z : List Nat} (h : stp z) {x : Nat} (hx : ¬ (x = 32 ∨ x = 40 ∨ x = 41 ∨ x = 44 ∨ x = 93 ∨ x = 124 ∨ x = 125)) : ¬ z.head? = some x := by
  rcases h with h | ⟨c, r, e, hc⟩
  · rw [h]
    simp
  · rw [e]
    intro q
    cases q
    exact hx hc
theorem stp.wh {z : List Nat} (h : stp z) {f : Nat → Bool} (hf : ∀ c, c = 32 ∨ c = 40 ∨ c = 41 ∨ c = 44 ∨ c = 93 ∨ c = 124 ∨ c = 125 → f c = false) : ∀ (l : List Nat), (∀ c ∈ l, f c = true) → (l ++ z).takeWhile f = l ∧ (l ++ z).dropWhile f = z
  | [], _ => by
    rcases h with h | ⟨c, r, e, hc⟩
    · rw [h]
      exact ⟨rfl, rfl⟩
    · rw [e, List.nil_append, List.takeWhile_cons, List.dropWhile_cons, hf c hc]
      exact ⟨rfl, rfl⟩
  | x :: l, hl => by
    obtain ⟨h1, h2⟩ := stp.wh h hf l (fun c hc => hl c (List.mem_cons_of_mem _ hc))
    rw [List.cons_append, List.takeWhile_cons, List.dropWhile_cons, hl x List.mem_cons_self, h1, h2]
    exact ⟨rfl, rfl⟩
theorem stp_wd : ∀ c, c = 32 ∨ c = 40 ∨ c = 41 ∨ c = 44 ∨ c = 93 ∨ c = 124 ∨ c = 125 → isWd c = false := by
  intro c h
  rcases h with rfl | rfl | rfl | rfl | rfl | rfl | rfl <;> rfl
theorem stp_sg : ∀ c, c = 32 ∨ c = 40 ∨ c = 41 ∨ c = 44 ∨ c = 93 ∨ c = 124 ∨ c = 125 → isSg c = false := by
  intro c h
  rcases h with rfl | rfl | rfl | rfl | rfl | rfl | rfl <;> decide
theorem stp_dg : ∀ c, c = 32 ∨ c = 40 ∨ c = 41 ∨ c = 44 ∨ c = 93 ∨ c = 124 ∨ c = 125 → dg false c = none := by
  intro c h
  rcases h with rfl | rfl | rfl | rfl | rfl | rfl | rfl <;> rfl
/-- a mark -/
theorem TN.mk {al : List Nat → Prop} {c : Nat} {y : List Nat} (hc : isPn c = true ∧ c < 126) (h1 : c = 91 → ¬ y.head? = some 93) (h2 : c = 123 → ¬ y.head? = some 125) : TN al (c :: y) y := by
  have hx : c = 40 ∨ c = 41 ∨ c = 91 ∨ c = 93 ∨ c = 123 ∨ c = 125 ∨ c = 44 ∨ c = 124 := by
    have hq : ∀ c, c < 126 → isPn c = true → c = 40 ∨ c = 41 ∨ c = 91 ∨ c = 93 ∨ c = 123 ∨ c = 125 ∨ c = 44 ∨ c = 124 := by decide
    exact hq c hc.2 hc.1
  refine TN.tok (k := 5) (v := c) (w := []) ?_ (by decide) (by decide) (fun h => by omega)
  rcases hx with rfl | rfl | rfl | rfl | rfl | rfl | rfl | rfl
  · rfl
  · rfl
  · rw [nx_st2 (by decide) (by decide) (by simp), lexT_cons]
    rw [if_neg (by decide), if_neg (by decide), if_neg (by decide), if_neg (by decide), if_neg (by decide), if_neg (by decide), if_neg (by decide), if_neg (by have := h1 rfl; simp [this]), if_pos (by decide)]
  · rfl
  · rw [nx_st2 (by decide) (by decide) (by simp), lexT_cons]
    rw [if_neg (by decide), if_neg (by decide), if_neg (by decide), if_neg (by decide), if_neg (by decide), if_neg (by decide), if_neg (by decide), if_neg (by have := h2 rfl; simp [this]), if_pos (by decide)]
  · rfl
  · rfl
  · rfl
/-- digits -/
theorem dgr_U {z : List Nat} (hz : stp z) : ∀ (k n a : Nat), a * 10 ^ (k + 1) + n % 10 ^ (k + 1) ≤ 2147483647 → dgr false (dgU k n ++ z) a = some (a * 10 ^ (k + 1) + n % 10 ^ (k + 1), z)
  | 0, n, a, h => by
    have hd : dg false (48 + n % 10) = some (n % 10) := by
      unfold dg
      rw [if_pos (by simp [isDg]; omega)]
      congr 1
      omega
    have hn : dgr false z (a * 10 + n % 10) = some (a * 10 + n % 10, z) := by
      rcases hz with e | ⟨c, r, e, hc⟩
      · rw [e]
        rfl
      · rw [e]
        unfold dgr
        rw [stp_dg c hc]
    rw [dgU, List.singleton_append, dgr, hd]
    dsimp only
    rw [show bas false = 10 from rfl, if_neg (by simpa using h), hn]
  | k + 1, n, a, h => by
    have hd : dg false (48 + n / 10 ^ (k + 1) % 10) = some (n / 10 ^ (k + 1) % 10) := by
      unfold dg
      rw [if_pos (by simp [isDg]; omega)]
      congr 1
      omega
    have hp : 0 < 10 ^ (k + 1) := Nat.pow_pos (by decide)
    have e1 : n % 10 ^ (k + 1 + 1) = n % 10 ^ (k + 1) + 10 ^ (k + 1) * (n / 10 ^ (k + 1) % 10) := Nat.mod_pow_succ
    have e2 : (a * 10 + n / 10 ^ (k + 1) % 10) * 10 ^ (k + 1) = a * 10 ^ (k + 1 + 1) + 10 ^ (k + 1) * (n / 10 ^ (k + 1) % 10) := by
      rw [Nat.add_mul, Nat.pow_succ 10 (k + 1), Nat.mul_assoc, Nat.mul_comm 10 (10 ^ (k + 1)), Nat.mul_comm (n / 10 ^ (k + 1) % 10)]
    have e3 : (a * 10 + n / 10 ^ (k + 1) % 10) * 10 ^ (k + 1) + n % 10 ^ (k + 1) = a * 10 ^ (k + 1 + 1) + n % 10 ^ (k + 1 + 1) := by
      rw [e2, e1]
      omega
    have hle : a * 10 + n / 10 ^ (k + 1) % 10 ≤ (a * 10 + n / 10 ^ (k + 1) % 10) * 10 ^ (k + 1) := Nat.le_mul_of_pos_right _ hp
    rw [dgU, List.cons_append, dgr, hd]
    dsimp only
    rw [show bas false = 10 from rfl, if_neg (by omega), dgr_U hz k n _ (by omega), e3]
theorem lgF_hi : ∀ (f k n : Nat), n < 10 ^ (k + f + 1) → n < 10 ^ (lgF f k n + 1)
  | 0, k, n, h => by
    rw [lgF]
    exact h
  | f + 1, k, n, h => by
    rw [lgF]
    split
    · exact lgF_hi f (k + 1) n (by rwa [show k + 1 + f + 1 = k + (f + 1) + 1 by omega])
    · omega
theorem lgF_lo : ∀ (f k n : Nat), (k = 0 ∨ 10 ^ k ≤ n) → lgF f k n = 0 ∨ 10 ^ (lgF f k n) ≤ n
  | 0, k, n, h => by
    rw [lgF]
    exact h
  | f + 1, k, n, h => by
    rw [lgF]
    split
    next hc => exact lgF_lo f (k + 1) n (Or.inr hc)
    · exact h
theorem ten_dgr {n : Nat} {z : List Nat} (hz : stp z) (h : n ≤ 2147483647) : dgr false (ten n ++ z) 0 = some (n, z) := by
  have hlt := lgF_hi 10 0 n (by omega)
  have e := dgr_U hz (lgF 10 0 n) n 0 (by rw [Nat.mod_eq_of_lt hlt]; omega)
  rw [Nat.mod_eq_of_lt hlt, Nat.zero_mul, Nat.zero_add] at e
  exact e
theorem dgU_hd (k n : Nat) : ∃ d r, dgU k n = d :: r ∧ 48 ≤ d ∧ d ≤ 57 ∧ d = 48 + n / 10 ^ k % 10 ∧ (k = 0 → r = []) := by
  cases k with
  | zero => exact ⟨48 + n % 10, [], rfl, by omega, by omega, by simp, fun _ => rfl⟩
  | succ k => exact ⟨_, _, rfl, by omega, by omega, rfl, fun h => by omega⟩
theorem ten_hd (n : Nat) (h : n ≤ 2147483647) : ∃ d r, ten n = d :: r ∧ 48 ≤ d ∧ d ≤ 57 ∧ (d = 48 → r = []) := by
  obtain ⟨d, r, e, h1, h2, h3, h4⟩ := dgU_hd (lgF 10 0 n) n
  refine ⟨d, r, e, h1, h2, fun h5 => ?_⟩
  have hlt := lgF_hi 10 0 n (by omega)
  rcases lgF_lo 10 0 n (Or.inl rfl) with z | z
  · exact h4 z
  · exfalso
    have hp : 0 < 10 ^ (lgF 10 0 n) := Nat.pow_pos (by decide)
    have q1 : 1 ≤ n / 10 ^ (lgF 10 0 n) := (Nat.one_le_div_iff hp).mpr z
    have q2 : n / 10 ^ (lgF 10 0 n) < 10 := Nat.div_lt_of_lt_mul (by rw [Nat.mul_comm, ← Nat.pow_succ']; exact hlt)
    omega
theorem dgU_dg : ∀ (k n c : Nat), c ∈ dgU k n → 48 ≤ c ∧ c ≤ 57
  | 0, n, c, h => by
    rw [dgU, List.mem_singleton] at h
    omega
  | k + 1, n, c, h => by
    rw [dgU] at h
    rcases List.mem_cons.mp h with q | q
    · omega
    · exact dgU_dg k n c q
theorem ten_dg (n : Nat) : ∀ c ∈ ten n, 48 ≤ c ∧ c ≤ 57 := fun c h => dgU_dg _ _ c h
theorem ten_len (n : Nat) : 1 ≤ (ten n).length ∧ (ten n).length ≤ 11 := by
  unfold ten
  rw [dgU_len]
  have := lgF_le 10 0 n
  omega
theorem isDg_of {c : Nat} (h : 48 ≤ c ∧ c ≤ 57) : isDg c = true := by
  simp [isDg, h]
theorem isWd_dg {c : Nat} (h : 48 ≤ c ∧ c ≤ 57) : isWd c = true := by
  simp [isWd, isDg_of h]
/-- a number that is written -/
theorem TN.num {al : List Nat → Prop} {n : Nat} {z : List Nat} (hz : stp z) (h : n ≤ 2147483647) : TN al (ten n ++ z) z := by
  obtain ⟨d, r, e, h1, h2, h3⟩ := ten_hd n h
  have hd := ten_dgr hz h
  refine TN.tok (k := 3) (v := n) (w := []) ?_ (by decide) (by decide) (fun h => by omega)
  rw [e, List.cons_append] at hd ⊢
  rw [nx_st2 (by omega) (by omega) (by omega), lexT_cons]
  have hsm : ¬ isSm d = true := by simp [isSm]; omega
  have hlg : ¬ (isLg d = true ∨ d = 95) := by simp [isLg]; omega
  rw [if_neg hsm, if_neg hlg, if_pos (isDg_of ⟨h1, h2⟩)]
  have hx : lexN d (r ++ z) = some (n, z) := by
    unfold lexN
    have hq : ∀ x, ¬ (x = 32 ∨ x = 40 ∨ x = 41 ∨ x = 44 ∨ x = 93 ∨ x = 124 ∨ x = 125) → ¬ (d = 48 ∧ (r ++ z).head? = some x) := by
      intro x hx ⟨q1, q2⟩
      rw [h3 q1, List.nil_append] at q2
      exact hz.hd hx q2
    rw [if_neg (hq 39 (by decide)), if_neg (fun q => hq 120 (by decide) ⟨q.1, q.2.1⟩)]
    exact hd
  rw [hx]
/-- a variable that is written -/
theorem TN.var {al : List Nat → Prop} {n : Nat} {z : List Nat} (hz : stp z) (ha : al (95 :: ten n)) : TN al (95 :: ten n ++ z) z := by
  have hw : ∀ c ∈ 95 :: ten n, isWd c = true := by
    intro c hc
    rcases List.mem_cons.mp hc with q | q
    · rw [q]
      decide
    · exact isWd_dg (ten_dg n c q)
  obtain ⟨t1, t2⟩ := hz.wh stp_wd _ hw
  refine TN.tok (k := 2) (v := 0) (w := 95 :: ten n) ?_ (by decide) (by decide) (fun _ => ha)
  rw [List.cons_append] at t1 t2 ⊢
  rw [nx_st2 (by decide) (by decide) (by simp), lexT_cons, if_neg (by decide), if_pos (Or.inr rfl), t1, t2, if_pos]
  rw [List.length_cons]
  have := ten_len n
  omega
theorem TN.min {al : List Nat → Prop} {n : Nat} {z : List Nat} (ha : al [45]) (hz : stp z) (h : n ≤ 2147483647) : TN al (45 :: (ten n ++ z)) z := by
  obtain ⟨d, r, e, h1, h2, h3⟩ := ten_hd n h
  refine TN.trans (s' := ten n ++ z) (TN.tok (k := 1) (v := 0) (w := [45]) ?_ (by decide) (by decide) (fun _ => ha)) (TN.num hz h)
  rw [e, List.cons_append, nx_st2 (by decide) (by decide) (by simp), lexT_cons]
  have hs : isSg d = false := by
    have : ∀ d, d < 58 → 48 ≤ d → isSg d = false := by decide
    exact this d (by omega) h1
  have t1 : (45 :: d :: (r ++ z)).takeWhile isSg = [45] := by
    rw [List.takeWhile_cons, if_pos (by decide), List.takeWhile_cons, hs]
    rfl
  have t2 : (45 :: d :: (r ++ z)).dropWhile isSg = d :: (r ++ z) := by
    rw [List.dropWhile_cons, if_pos (by decide), List.dropWhile_cons, hs]
    rfl
  rw [if_neg (by decide), if_neg (by decide), if_neg (by decide), if_pos (by decide), t1, t2, if_neg (by simp), if_pos (by simp)]
