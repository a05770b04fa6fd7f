-- TermReader: terms that are kept; write, alike, look, count
def tlen (Ts : List (List xIt × Nat)) : Nat := (Ts.map fun q => q.1.length).sum
/-- the terms stand one behind another -/
def xTms (F : xF) (nm : List Nat) : Nat → List (List xIt × Nat) → Nat → Prop
  | lo, [], hi => hi = lo
  | lo, q :: Ts, hi => xTr F nm q.2 lo (lo + q.1.length) q.1 ∧ 1 ≤ q.1.length ∧ F.2.2.2.2.2 (lo + q.1.length - 1) = nI q.2 ∧ 1 ≤ q.2 ∧ q.2 ≤ 14 ∧ xTms F nm (lo + q.1.length) Ts hi
theorem xTms.at {F : xF} {nm : List Nat} : ∀ {Ts : List (List xIt × Nat)} {lo hi i : Nat} {q : List xIt × Nat}, xTms F nm lo Ts hi → Ts[i]? = some q → xTr F nm q.2 (lo + tlen (Ts.take i)) (lo + tlen (Ts.take i) + q.1.length) q.1 ∧ 1 ≤ q.1.length ∧ F.2.2.2.2.2 (lo + tlen (Ts.take i) + q.1.length - 1) = nI q.2 ∧ 1 ≤ q.2 ∧ q.2 ≤ 14 ∧ lo + tlen (Ts.take i) + q.1.length ≤ hi
  | [], lo, hi, i, q, h, hi' => by simp at hi'
  | p :: Ts, lo, hi, i, q, h, hi' => by
    obtain ⟨h1, h2, h3, h4, h5, h6⟩ := h
    have hle : ∀ {Ts : List (List xIt × Nat)} {lo hi : Nat}, xTms F nm lo Ts hi → lo ≤ hi := by
      intro Ts
      induction Ts with
      | nil => exact fun h => Nat.le_of_eq (show _ from h).symm
      | cons p Ts ih =>
        intro lo hi h
        obtain ⟨_, _, _, _, _, h6⟩ := h
        have := ih h6
        omega
    cases i with
    | zero =>
      simp at hi'
      subst hi'
      have := hle h6
      simp only [List.take_zero, tlen, List.map_nil, List.sum_nil, Nat.add_zero]
      exact ⟨h1, h2, h3, h4, h5, this⟩
    | succ i =>
      have hi2 : Ts[i]? = some q := by simpa using hi'
      have := h6.at hi2
      have e : lo + tlen ((p :: Ts).take (i + 1)) = lo + p.1.length + tlen (Ts.take i) := by
        simp [tlen, Nat.add_assoc]
      rw [e]
      exact this
theorem xTms.frame {F F' : xF} {nm r : List Nat} : ∀ {Ts : List (List xIt × Nat)} {lo hi : Nat}, xTms F nm lo Ts hi → xA0 F F' hi → xTms F' (nm ++ r) lo Ts hi
  | [], lo, hi, h, _ => h
  | p :: Ts, lo, hi, h, hg => by
    obtain ⟨h1, h2, h3, h4, h5, h6⟩ := h
    have hle : ∀ {Ts : List (List xIt × Nat)} {lo hi : Nat}, xTms F nm lo Ts hi → lo ≤ hi := by
      intro Ts
      induction Ts with
      | nil => exact fun h => Nat.le_of_eq (show _ from h).symm
      | cons p Ts ih =>
        intro lo hi h
        obtain ⟨_, _, _, _, _, h6⟩ := h
        have := ih h6
        omega
    have hl := hle h6
    exact ⟨h1.frame (hg.ag hl), h2, (hg _ (by omega)).2.2.2.2.2.trans h3, h4, h5, h6.frame hg⟩
theorem xTms.snoc {F : xF} {nm : List Nat} {q : List xIt × Nat} : ∀ {Ts : List (List xIt × Nat)} {lo hi : Nat}, xTms F nm lo Ts hi → xTr F nm q.2 hi (hi + q.1.length) q.1 → 1 ≤ q.1.length → F.2.2.2.2.2 (hi + q.1.length - 1) = nI q.2 → 1 ≤ q.2 → q.2 ≤ 14 → xTms F nm lo (Ts ++ [q]) (hi + q.1.length)
  | [], lo, hi, h, h1, h2, h3, h4, h5 => by
    have e : hi = lo := h
    subst e
    exact ⟨h1, h2, h3, h4, h5, rfl⟩
  | p :: Ts, lo, hi, h, h1, h2, h3, h4, h5 => by
    obtain ⟨g1, g2, g3, g4, g5, g6⟩ := h
    exact ⟨g1, g2, g3, g4, g5, g6.snoc h1 h2 h3 h4 h5⟩
theorem xTms.len {F : xF} {nm : List Nat} : ∀ {Ts : List (List xIt × Nat)} {lo hi : Nat}, xTms F nm lo Ts hi → hi = lo + tlen Ts
  | [], lo, hi, h => by
    have e : hi = lo := h
    simp [tlen, e]
  | p :: Ts, lo, hi, h => by
    obtain ⟨_, _, _, _, _, g6⟩ := h
    have := g6.len
    simp [tlen] at this ⊢
    omega
/-- the roots -/
def xRt (A : List xC) (Ts : List (List xIt × Nat)) : Prop := ∃ fr : Nat → Int32, A[27]? = some (.inl (.int, 40, .inl fr)) ∧ ∀ i q, Ts[i]? = some q → fr i = nI (tlen (Ts.take i) + q.1.length - 1)
section TT
variable {sc : xSc} {d g : Nat} {A : List xC} {nm : List Nat} {sl : List xSl} {n : Nat} {F : xF} {Ts : List (List xIt × Nat)} {P : xO → xH → Prop}
/-- a term's number, or none -/
theorem is_term {x : Int32} (hx : 0 ≤ x.toInt ∧ x.toInt < Ts.length) : ∃ i q, x = nI i ∧ i = x.toInt.toNat ∧ Ts[i]? = some q := by
  refine ⟨x.toInt.toNat, Ts[x.toInt.toNat]'(by omega), ?_, rfl, List.getElem?_eq_getElem (by omega)⟩
  have := x.toInt_lt
  exact Int32.toInt_inj.mp (by rw [nI_toInt (by omega)]; omega)
set_option maxRecDepth 100000 in
theorem p_write {x : Int32} {o : List Nat} (h0 : xTo A Ts.length) (h40 : Ts.length ≤ 40) (hrt : xRt A Ts) (hw : xWw A nm sl n F) (ht : xTms F nm 0 Ts n) (ho : xRw A 3 1200 o)
    (kb : ¬ (0 ≤ x.toInt ∧ x.toInt < Ts.length) → P (.inr 2) (A, g + 1))
    (hr : ∀ q ∈ Ts, (wrt sl 14 1200 q.1).1.length ≤ 1200)
    (ko : ∀ q, 0 ≤ x.toInt → Ts[x.toInt.toNat]? = some q → ∀ A', xRw A' 3 1200 (wrt sl 14 1200 q.1).1 → xSame A A' [3, 4] → P (.inl (some (.int (nI (wrt sl 14 1200 q.1).1.length)))) (A', g)) : xM1 sc (d + 124) 4 [.ref 0, .int x] (A, g) P := by
  have h0' := h0
  unfold xTo at h0'
  obtain ⟨b, hb⟩ : ∃ b : Bool, b = true ↔ 0 ≤ x.toInt ∧ x.toInt < Ts.length := ⟨decide (0 ≤ x.toInt ∧ x.toInt < Ts.length), decide_eq_true_iff⟩
  unfold xM1
  refine xP_s rfl rfl rfl ?_
  refine xP_s rfl rfl rfl ?_
  refine xP_cv rfl rfl rfl rfl rfl h0' (p_isTerm h0 h40 hb ?_)
  cases b
  · have kk := kb (fun h => absurd (hb.mpr h) (by decide))
    refine xP_s rfl rfl rfl ?_
    exact xP_throw (d := d + 116) rfl rfl kk
  · have hx := hb.mp rfl
    obtain ⟨i, q, e1, e2, e3⟩ := is_term hx
    obtain ⟨fr, f1, f2⟩ := hrt
    obtain ⟨t1, t2, t3, t4, t5, t6⟩ := ht.at e3
    rw [Nat.zero_add] at t1 t6
    have hI : (nI i).toInt = (i : Int) := nI_toInt (by omega)
    have h26 := hw.1
    unfold xWo at h26
    have wh := fun {P' : xO → xH → Prop} => p_wwhole (sc := sc) (g := g) (d := d) (P := P') t1 t6 t5 hw ho (hr q (List.mem_of_getElem? e3))
    refine xP_s rfl rfl rfl ?_
    refine xP_s rfl rfl rfl ?_
    refine xP_get rfl h0' rfl ?_
    refine xP_s rfl rfl rfl ?_
    refine xP_get rfl h0' rfl ?_
    refine xP_s rfl rfl rfl ?_
    refine xP_ial rfl f1 (by decide) (xib_of (by omega) (by omega)) ?_
    rw [e1, nI_clamp (by omega), f2 i q e3]
    refine xP_cv rfl rfl rfl rfl rfl h26 (wh (fun A2 w1 w2 => ?_))
    have h0b : xTo A2 Ts.length := (w2.2 0 (by decide)).trans h0
    unfold xTo at h0b
    refine xP_s rfl rfl rfl ?_
    refine xP_get rfl h0b rfl ?_
    refine xP_cv rfl rfl rfl rfl rfl w1.obj (p_length w1 ?_)
    repeat' first
      | refine xP_s rfl rfl rfl ?_
      | refine xP_ret rfl rfl rfl ?_
    exact ko q hx.1 (by rw [← e2]; exact e3) A2 w1 w2
set_option maxRecDepth 100000 in
theorem p_alike {x y : Int32} (h0 : xTo A Ts.length) (h40 : Ts.length ≤ 40) (hrt : xRt A Ts) (hn : xRw A 5 4926 nm) (hp : xPt A n F) (ht : xTms F nm 0 Ts n)
    (kb : ¬ ((0 ≤ x.toInt ∧ x.toInt < Ts.length) ∧ (0 ≤ y.toInt ∧ y.toInt < Ts.length)) → P (.inr 2) (A, g + 1))
    (ko : ∀ q r, 0 ≤ x.toInt → 0 ≤ y.toInt → Ts[x.toInt.toNat]? = some q → Ts[y.toInt.toNat]? = some r → P (.inl (some (.int (xb (decide (q.1 = r.1)))))) (A, g)) : xM1 sc (d + 20) 7 [.ref 0, .int x, .int y] (A, g) P := by
  have h0' := h0
  unfold xTo at h0'
  obtain ⟨b, hb⟩ : ∃ b : Bool, b = true ↔ 0 ≤ x.toInt ∧ x.toInt < Ts.length := ⟨decide (0 ≤ x.toInt ∧ x.toInt < Ts.length), decide_eq_true_iff⟩
  obtain ⟨c, hc⟩ : ∃ c : Bool, c = true ↔ 0 ≤ y.toInt ∧ y.toInt < Ts.length := ⟨decide (0 ≤ y.toInt ∧ y.toInt < Ts.length), decide_eq_true_iff⟩
  unfold xM1
  refine xP_s rfl rfl rfl ?_
  refine xP_s rfl rfl rfl ?_
  refine xP_cv rfl rfl rfl rfl rfl h0' (p_isTerm h0 h40 hb ?_)
  cases b
  · have kk := kb (fun h => absurd (hb.mpr h.1) (by decide))
    refine xP_s rfl rfl rfl ?_
    exact xP_throw (d := d + 12) rfl rfl kk
  · have hx := hb.mp rfl
    refine xP_s rfl rfl rfl ?_
    refine xP_s rfl rfl rfl ?_
    refine xP_s rfl rfl rfl ?_
    refine xP_cv rfl rfl rfl rfl rfl h0' (p_isTerm h0 h40 hc ?_)
    cases c
    · have kk := kb (fun h => absurd (hc.mpr h.2) (by decide))
      refine xP_s rfl rfl rfl ?_
      exact xP_throw (d := d + 12) rfl rfl kk
    · have hy := hc.mp rfl
      obtain ⟨i, q, e1, e2, e3⟩ := is_term hx
      obtain ⟨j, r, u1, u2, u3⟩ := is_term hy
      obtain ⟨fr, f1, f2⟩ := hrt
      obtain ⟨t1, t2, t3, t4, t5, t6⟩ := ht.at e3
      obtain ⟨s1, s2, s3, s4, s5, s6⟩ := ht.at u3
      rw [Nat.zero_add] at t1 t6 s1 s6
      have hI : (nI i).toInt = (i : Int) := nI_toInt (by omega)
      have hJ : (nI j).toInt = (j : Int) := nI_toInt (by omega)
      have sm := fun {P' : xO → xH → Prop} => p_same (sc := sc) (d := d + 2) (g := g) hp hn 14 0 _ _ _ _ q.1 r.1 P' (by omega) t6 s6 (t1.le t5) (s1.le s5)
      refine xP_s rfl rfl rfl ?_
      refine xP_s rfl rfl rfl ?_
      refine xP_get rfl h0' rfl ?_
      refine xP_s rfl rfl rfl ?_
      refine xP_get rfl h0' rfl ?_
      refine xP_s rfl rfl rfl ?_
      refine xP_ial rfl f1 (by decide) (xib_of (by omega) (by omega)) ?_
      refine xP_s rfl rfl rfl ?_
      refine xP_get rfl h0' rfl ?_
      refine xP_s rfl rfl rfl ?_
      refine xP_ial rfl f1 (by decide) (xib_of (by omega) (by omega)) ?_
      rw [e1, u1, nI_clamp (by omega), nI_clamp (by omega), f2 i q e3, f2 j r u3]
      refine xP_s rfl rfl rfl ?_
      refine xP_cv rfl rfl rfl rfl rfl hp.2.1 (sm ?_)
      have kk := ko q r hx.1 hy.1 (by rw [← e2]; exact e3) (by rw [← u2]; exact u3)
      cases hd : decide (q.1 = r.1)
      · rw [hd] at kk
        repeat' first
          | refine xP_s rfl rfl rfl ?_
          | refine xP_ret rfl rfl rfl ?_
        exact kk
      · rw [hd] at kk
        repeat' first
          | refine xP_s rfl rfl rfl ?_
          | refine xP_ret rfl rfl rfl ?_
        exact kk
set_option maxRecDepth 100000 in
theorem p_count {x : Int32} {t : List Nat} (h0 : xTo A Ts.length) (hs : xRw A 1 120 t) (hp : xPt A n F) (ho : xOp A sl)
    (kb : ¬ (0 ≤ x.toInt ∧ x.toInt ≤ 3) → P (.inr 0) (A, g + 1))
    (k0 : x.toInt = 0 → P (.inl (some (.int (nI t.length)))) (A, g)) (k1 : x.toInt = 1 → P (.inl (some (.int (nI Ts.length)))) (A, g)) (k2 : x.toInt = 2 → P (.inl (some (.int (nI n)))) (A, g)) (k3 : x.toInt = 3 → P (.inl (some (.int (nI sl.length - 1)))) (A, g)) : xM1 sc (d + 8) 9 [.ref 0, .int x] (A, g) P := by
  unfold xTo at h0
  unfold xM1
  refine xP_s rfl rfl rfl ?_
  refine xP_s rfl rfl rfl ?_
  refine xP_sw (fun q hq hx => ?_) (fun hx => ?_)
  · simp only [List.mem_cons, List.not_mem_nil, or_false] at hq
    rcases hq with rfl | rfl | rfl | rfl
    · have kk := k0 (by rw [hx]; rfl)
      repeat' first
        | refine xP_s rfl rfl rfl ?_
        | refine xP_get rfl h0 rfl ?_
        | refine xP_cv rfl rfl rfl rfl rfl hs.obj (p_length hs ?_)
        | refine xP_ret rfl rfl rfl ?_
      exact kk
    · have kk := k1 (by rw [hx]; rfl)
      repeat' first
        | refine xP_s rfl rfl rfl ?_
        | refine xP_get rfl h0 rfl ?_
        | refine xP_ret rfl rfl rfl ?_
      exact kk
    · have kk := k2 (by rw [hx]; rfl)
      repeat' first
        | refine xP_s rfl rfl rfl ?_
        | refine xP_get rfl h0 rfl ?_
        | refine xP_cv rfl rfl rfl rfl rfl hp.2.1 (p_partsUsed hp ?_)
        | refine xP_ret rfl rfl rfl ?_
      exact kk
    · have kk := k3 (by rw [hx]; rfl)
      repeat' first
        | refine xP_s rfl rfl rfl ?_
        | refine xP_get rfl h0 rfl ?_
        | refine xP_cv rfl rfl rfl rfl rfl ho.obj (p_told ho ?_)
        | refine xP_ret rfl rfl rfl ?_
      exact kk
  · simp only [List.mem_cons, List.not_mem_nil, or_false, forall_eq_or_imp, forall_eq] at hx
    have hne : ∀ a : Int32, ¬ x = a → ¬ x.toInt = a.toInt := fun a h q => h (Int32.toInt_inj.mp q)
    have e0 : ¬ x.toInt = 0 := hne 0 hx.1
    have e1 : ¬ x.toInt = 1 := hne 1 hx.2.1
    have e2 : ¬ x.toInt = 2 := hne 2 hx.2.2.1
    have e3 : ¬ x.toInt = 3 := hne 3 hx.2.2.2
    exact xP_throw rfl rfl (kb (by omega))
end TT
