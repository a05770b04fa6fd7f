-- Parser: what a term's reader promises; operators and their arguments
abbrev pL : List Nat := [11, 12, 13, 14, 15, 16, 17, 25]
/-- a term stands behind the parts that were there -/
def xGd (A A' : List xC) (t nm : List Nat) (sl : List xSl) (u p v : Nat) (G : xG) (n : Nat) (F F' : xF) (a' m' : Nat) (r : xRs) : Prop := xWd A' t nm sl u p v G (n + r.1.length) F' a' r.2.2.2 ∧ xTA t nm G u m' a' r.2.2.1.1 r.2.2.1.2 ∧ xTr F' nm r.2.1 n (n + r.1.length) r.1 ∧ F'.2.2.2.2.2 (n + r.1.length - 1) = nI r.2.1 ∧ F'.2.2.2.2.1 (n + r.1.length - 1) = -1 ∧ xA0 F F' n ∧ xSame A A' pL
/-- nothing stands there, but nothing is lost -/
def xBd (A A' : List xC) (t nm : List Nat) (sl : List xSl) (u p v : Nat) (G : xG) (n : Nat) (F : xF) (e : Nat) : Prop := ∃ n' F' a' pr', xWd A' t nm sl u p v G n' F' a' pr' ∧ n ≤ n' ∧ xA0 F F' n ∧ a' ≤ 120 + 3 * e ∧ xSame A A' pL
def noR (o : Option xRs) : Prop := o = none ∨ ∃ r, o = some r ∧ 14 < r.2.1
def xTmC (sc : xSc) (dd g : Nat) (t nm : List Nat) (sl : List xSl) (u p v : Nat) (G : xG) (e lv : Nat) : Prop :=
  ∀ (A : List xC) (n : Nat) (F : xF) (a pr m : Nat) (s : List Nat) (vs : List (List Nat)) (x : Int32) (most : Int) (P : xO → xH → Prop),
    x.toInt = most → 0 ≤ most → most ≤ 1200 → xWd A t nm sl u p v G n F a pr → xTA t nm G u m a s vs → sfx t s → n + 2 * s.length ≤ 840 →
    (∀ A', noR (tmF sl e most (s, vs)) → xBd A A' t nm sl u p v G n F e → P (.inl (some (.int (-1)))) (A', g)) →
    (∀ A' F' a' m' r, tmF sl e most (s, vs) = some r → r.2.1 ≤ 14 → xGd A A' t nm sl u p v G n F F' a' m' r → P (.inl (some (.int (nI (n + r.1.length - 1))))) (A', g)) →
    xM1 sc dd 40 [.ref 25, .int x, .int (nI lv)] (A, g) P
def nm0 (nm : List Nat) : Prop := nmAt nm 0 [46] ∧ nmAt nm 1 [91, 93] ∧ nmAt nm 3 [123, 125] ∧ nmAt nm 5 [44]
section PC
variable {sc : xSc} {d g : Nat} {A : List xC} {t nm : List Nat} {sl : List xSl} {u p v : Nat} {G : xG} {n : Nat} {F : xF} {a pr : Nat} {m : Nat} {s : List Nat} {vs : List (List Nat)} {P : xO → xH → Prop}
/-- where a name begins, and how long it is -/
theorem TA_name (h : xTA t nm G u m a s vs) (hk : (nx s).1 = 1) : ∃ z, G.2.2.2.1 a = nI z ∧ G.2.2.2.2.1 a = nI (nx s).2.2.1.length ∧ nmAt nm z (nx s).2.2.1 := by
  obtain ⟨_, _, s', _, _, h5⟩ := TA_E h
  obtain ⟨z, z1, z2, z3, _⟩ := h5.2.2.2.1 hk
  exact ⟨z, z1, z2, z3⟩
set_option maxRecDepth 100000 in
theorem p_named {i l1 l2 r1 r2 Dl Dr : Nat} {L R : List xIt} (hw : xWd A t nm sl u p v G n F a pr) (h0 : nm0 nm) (hta : xTA t nm G u m i s vs) (hk : (nx s).1 = 1 ∨ (nx s).1 = 5)
    (hl : xTr F nm Dl l1 l2 L) (hr : xTr F nm Dr r1 r2 R) (hlr : l2 ≤ r1) (hrn : r2 = n) (hDl : F.2.2.2.2.2 (l2 - 1) = nI Dl) (hDl2 : 0 < Dl ∧ Dl ≤ 14) (hDr : F.2.2.2.2.2 (r2 - 1) = nI Dr) (hDr2 : 0 < Dr ∧ Dr ≤ 14) (hn8 : n < 840)
    (k0 : 14 < max Dl Dr + 1 → ∀ A' F', xWd A' t nm sl u p v G n F' a pr → xA0 F F' l1 → xSame A A' pL → P (.inl (some (.int (-1)))) (A', g))
    (k1 : max Dl Dr + 1 ≤ 14 → ∀ A' F', xWd A' t nm sl u p v G (n + 1) F' a pr → xTr F' nm (max Dl Dr + 1) l1 (n + 1) ((3, 0, nmOf (nx s), 2) :: (L ++ R)) → F'.2.2.2.2.2 n = nI (max Dl Dr + 1) → F'.2.2.2.2.1 n = -1 → xA0 F F' l1 → xSame A A' pL → P (.inl (some (.int (nI n)))) (A', g)) : xM1 sc (d + 11) 46 [.ref 25, .int (nI i), .int (nI (l2 - 1)), .int (nI (r2 - 1))] (A, g) P := by
  obtain ⟨hs, hn, ho, ht, hp, h25, hpr⟩ := id hw
  unfold xPa at h25
  obtain ⟨q1, q2, _⟩ := TA_E hta
  have hu := ht.1
  have g1 := hl.root
  have g2 := hr.root
  have h1 : (1 : Int32).toInt = 1 := rfl
  have hkd := TA_kind hta
  have fin : ∀ z w, nmAt nm z w → nmOf (nx s) = w → ∀ (P' : xO → xH → Prop), (∀ v A', P (.inl (some (.int v))) (A', g) → P' (.inl (some (.int v))) (A', g)) → xM1 sc (d + 10) 79 [.ref 11, .int (nI z), .int (nI w.length), .int (nI (l2 - 1)), .int (nI (r2 - 1))] (A, g) P' := by
    intro z w hz hw' P' hP
    refine p_addPair hp (by omega) (by omega) (by omega) hDl hDl2 hDr hDr2 (fun hc A' z1 z2 => hP _ _ ?_) (fun hc hd A' z1 z2 => hP _ _ ?_)
    · exact k0 (by omega) A' _ (hw.setP z1 z2) (xA0_lk F (by omega) (by omega)) (z2.wide (by decide))
    · rw [hw'] at k1
      refine k1 (by omega) A' _ (hw.setP z1 z2) (tr_pair hl hr (Or.inl hlr) (Nat.le_refl _) (by omega) (by omega) (by omega) hz) pk_us pk_us ?_ (z2.wide (by decide))
      exact (xA0_lk F (by omega) (by omega)).trans (xA0_add _ n _ _ _ _ _ (Nat.le_refl _)) (by omega)
  unfold xM1
  refine xP_s rfl rfl rfl ?_
  refine xP_get rfl h25 rfl ?_
  refine xP_s rfl rfl rfl ?_
  refine xP_cv rfl rfl rfl rfl rfl ht.2.1 (p_tkind ht (by omega) ?_)
  rw [if_pos q1]
  refine xP_s rfl rfl rfl ?_
  refine xP_s rfl rfl rfl ?_
  refine xP_if (fun hc => ?_) (fun hc => ?_)
  · have z := xc_t hc
    dsimp only at z
    refine xP_s rfl rfl rfl ?_
    refine xP_get rfl h25 rfl ?_
    refine xP_s rfl rfl rfl ?_
    refine xP_s rfl rfl rfl ?_
    refine xP_s rfl rfl rfl ?_
    refine xP_s rfl rfl rfl ?_
    refine xP_cv rfl rfl rfl rfl rfl hp.2.1 (fin 5 [44] h0.2.2.2 (by unfold nmOf; rw [if_neg (by omega)]) _ (fun y A' hy => ?_))
    repeat' first
      | refine xP_s rfl rfl rfl ?_
      | refine xP_ret rfl rfl rfl ?_
    exact hy
  · have z := xc_f hc
    dsimp only at z
    have hk1 : (nx s).1 = 1 := by omega
    obtain ⟨zz, z1, z2, z3⟩ := TA_name hta hk1
    refine xP_s rfl rfl rfl ?_
    refine xP_get rfl h25 rfl ?_
    refine xP_s rfl rfl rfl ?_
    refine xP_get rfl h25 rfl ?_
    refine xP_s rfl rfl rfl ?_
    refine xP_cv rfl rfl rfl rfl rfl ht.2.1 (p_tvalue ht (by omega) ?_)
    rw [if_pos q1, z1]
    refine xP_s rfl rfl rfl ?_
    refine xP_get rfl h25 rfl ?_
    refine xP_s rfl rfl rfl ?_
    refine xP_cv rfl rfl rfl rfl rfl ht.2.1 (p_tsize ht (by omega) ?_)
    rw [if_pos q1, z2]
    refine xP_s rfl rfl rfl ?_
    refine xP_s rfl rfl rfl ?_
    refine xP_cv rfl rfl rfl rfl rfl hp.2.1 (fin zz (nx s).2.2.1 z3 (by unfold nmOf; rw [if_pos hk1]) _ (fun y A' hy => ?_))
    repeat' first
      | refine xP_s rfl rfl rfl ?_
      | refine xP_ret rfl rfl rfl ?_
    exact hy
-- the same where one argument is wanting
set_option maxRecDepth 100000 in
theorem p_named0 {i : Nat} {ol : Option Nat} (hw : xWd A t nm sl u p v G n F a pr) (hta : xTA t nm G u m i s vs) (hol : ∀ j, ol = some j → j < n)
    (k : P (.inl (some (.int (-1)))) (A, g)) : xM1 sc (d + 11) 46 [.ref 25, .int (nI i), .int (sI ol), .int (-1)] (A, g) P := by
  obtain ⟨hs, hn, ho, ht, hp, h25, hpr⟩ := id hw
  unfold xPa at h25
  obtain ⟨q1, q2, _⟩ := TA_E hta
  have hu := ht.1
  unfold xM1
  refine xP_s rfl rfl rfl ?_
  refine xP_get rfl h25 rfl ?_
  refine xP_s rfl rfl rfl ?_
  refine xP_cv rfl rfl rfl rfl rfl ht.2.1 (p_tkind ht (by omega) ?_)
  rw [if_pos q1]
  refine xP_s rfl rfl rfl ?_
  refine xP_s rfl rfl rfl ?_
  refine xP_if (fun hc => ?_) (fun hc => ?_)
  · refine xP_s rfl rfl rfl ?_
    refine xP_get rfl h25 rfl ?_
    refine xP_s rfl rfl rfl ?_
    refine xP_s rfl rfl rfl ?_
    refine xP_s rfl rfl rfl ?_
    refine xP_s rfl rfl rfl ?_
    refine xP_cv rfl rfl rfl rfl rfl hp.2.1 (p_addPair0 (or := none) hp hol (Or.inr rfl) ?_)
    repeat' first
      | refine xP_s rfl rfl rfl ?_
      | refine xP_ret rfl rfl rfl ?_
    exact k
  · refine xP_s rfl rfl rfl ?_
    refine xP_get rfl h25 rfl ?_
    refine xP_s rfl rfl rfl ?_
    refine xP_get rfl h25 rfl ?_
    refine xP_s rfl rfl rfl ?_
    refine xP_cv rfl rfl rfl rfl rfl ht.2.1 (p_tvalue ht (by omega) ?_)
    refine xP_s rfl rfl rfl ?_
    refine xP_get rfl h25 rfl ?_
    refine xP_s rfl rfl rfl ?_
    refine xP_cv rfl rfl rfl rfl rfl ht.2.1 (p_tsize ht (by omega) ?_)
    refine xP_s rfl rfl rfl ?_
    refine xP_s rfl rfl rfl ?_
    refine xP_cv rfl rfl rfl rfl rfl hp.2.1 (p_addPair0 (or := none) hp hol (Or.inr rfl) ?_)
    repeat' first
      | refine xP_s rfl rfl rfl ?_
      | refine xP_ret rfl rfl rfl ?_
    exact k
set_option maxRecDepth 100000 in
theorem p_infixed {e lv j D l1 : Nat} {en : xSl} {L : List xIt} (hd : 4 * e ≤ d) (IH : ∀ dd, 4 * e + 10 ≤ dd → xTmC sc dd g t nm sl u p v G e (lv + 1)) (hw : xWd A t nm sl u p v G n F a pr) (h0 : nm0 nm) (hsl : ∀ e ∈ sl, ¬ e.1 = 0 ∧ 1 ≤ e.2.1 ∧ e.2.1 ≤ 1200) (hta : xTA t nm G u m a s vs) (hsx : sfx t s) (hq : (nx s).1 = 1 ∨ (nx s).1 = 5) (hen : sl[j]? = some en)
    (hl : xTr F nm D l1 n L) (hD : F.2.2.2.2.2 (n - 1) = nI D) (hD2 : 0 < D ∧ D ≤ 14) (hbud : n + 2 * s.length ≤ 840)
    (k0 : ∀ A', (noR (tmF sl e (oRight (some en)) ((nx s).2.2.2, vs)) ∨ ∃ r, tmF sl e (oRight (some en)) ((nx s).2.2.2, vs) = some r ∧ r.2.1 ≤ 14 ∧ 14 < max D r.2.1 + 1) → xBd A A' t nm sl u p v G l1 F e → P (.inl (some (.int (-1)))) (A', g))
    (k1 : ∀ A' F' a' m' r, tmF sl e (oRight (some en)) ((nx s).2.2.2, vs) = some r → max D r.2.1 + 1 ≤ 14 → xWd A' t nm sl u p v G (n + r.1.length + 1) F' a' r.2.2.2 → xTA t nm G u m' a' r.2.2.1.1 r.2.2.1.2 → xTr F' nm (max D r.2.1 + 1) l1 (n + r.1.length + 1) ((3, 0, nmOf (nx s), 2) :: (L ++ r.1)) → F'.2.2.2.2.2 (n + r.1.length) = nI (max D r.2.1 + 1) → F'.2.2.2.2.1 (n + r.1.length) = -1 → xA0 F F' l1 → xSame A A' pL → P (.inl (some (.int (nI (n + r.1.length))))) (A', g)) : xM1 sc (d + 12) 45 [.ref 25, .int (nI (n - 1)), .int (nI j), .int (nI lv)] (A, g) P := by
  obtain ⟨hs, hn, ho, ht, hp, h25, hpr⟩ := id hw
  unfold xPa at h25
  obtain ⟨q1, q2, _⟩ := TA_E hta
  have hu := ht.1
  have g1 := hl.root
  have hj : j < sl.length := (List.getElem?_eq_some_iff.mp hen).1
  have hsE : slE sl (some j) = some en := hen
  have hmem := hsl en (List.mem_of_getElem? hen)
  obtain ⟨m1, h1⟩ := TA_next hta (by omega)
  have hvs : vsx vs (nx s) = vs := by unfold vsx; rw [if_neg (by omega)]
  rw [hvs] at h1
  have hw1 := hw.setA (a + 1) pr hpr
  have s1 := xSame.set (A := A) 25 (.inr (3, [.ref 18, .ref 7, .ref 11, .int (nI (a + 1)), .int (nI pr)]))
  have tk := nx_tk2 q2
  have hlen := tk.len
  have hor : 0 ≤ oRight (some en) ∧ oRight (some en) ≤ 1200 := by
    unfold oRight
    dsimp only [slP]
    split <;> omega
  unfold xM1
  refine xP_s rfl rfl rfl ?_
  refine xP_get rfl h25 rfl ?_
  refine xP_s rfl rfl rfl ?_
  refine xP_s rfl rfl rfl ?_
  refine xP_s rfl rfl rfl ?_
  refine xP_get rfl h25 rfl ?_
  refine xP_s rfl rfl rfl ?_
  refine xP_s rfl rfl rfl ?_
  refine xP_put rfl h25 (Nat.le_of_ble_eq_true rfl) rfl ?_
  rw [show nI a + 1 = nI (a + 1) from nI_1 a]
  obtain ⟨hs', hn', ho', ht', hp', h25', _⟩ := id hw1
  unfold xPa at h25'
  refine xP_s rfl rfl rfl ?_
  refine xP_s rfl rfl rfl ?_
  refine xP_get rfl h25' rfl ?_
  refine xP_s rfl rfl rfl ?_
  refine xP_cv rfl rfl rfl rfl rfl ho'.obj (p_rightMost (o := some j) ho' (fun i h => Option.some.inj h ▸ hj) (fun x hx => ?_))
  rw [hsE] at hx
  refine xP_s rfl rfl rfl ?_
  refine xP_s rfl rfl rfl ?_
  refine xP_s rfl rfl rfl ?_
  rw [nI_1]
  refine xP_cv rfl rfl rfl rfl rfl h25' (IH (d + 11) (by omega) _ n F (a + 1) pr m1 _ vs x _ _ hx hor.1 hor.2 hw1 h1 (hsx.trans (nx_sfx' q2)) (by omega) (fun A2 z1 z2 => ?_) (fun A2 F2 a2 m2 r z1 z2 z3 => ?_))
  · obtain ⟨n', F', a', pr', y1, y2, y3, y4, y5⟩ := z2
    obtain ⟨ys, yn, yo, yt, yp, y25, ypr⟩ := id y1
    unfold xPa at y25
    refine xP_s rfl rfl rfl ?_
    refine xP_s rfl rfl rfl ?_
    refine xP_s rfl rfl rfl ?_
    refine xP_s rfl rfl rfl ?_
    refine xP_s rfl rfl rfl ?_
    refine xP_cv rfl rfl rfl rfl rfl y25 (p_named0 (ol := some (n - 1)) y1 hta (fun i h => by have := Option.some.inj h; omega) ?_)
    repeat' first
      | refine xP_s rfl rfl rfl ?_
      | refine xP_ret rfl rfl rfl ?_
    exact k0 A2 (Or.inl z1) ⟨n', F', a', pr', y1, by omega, fun j hj => y3 j (by omega), y4, (s1.trans y5).wide (by decide)⟩
  · obtain ⟨y1, y2, y3, y4, y5, y6, y7⟩ := z3
    obtain ⟨ys, yn, yo, yt, yp, y25, ypr⟩ := id y1
    unfold xPa at y25
    have rI := tmF_I (fun e he => ⟨(hsl e he).1, (hsl e he).2.2⟩) e _ _ _ z1
    obtain ⟨i1, i2, i3, i4⟩ := rI
    have i1l := i1.len
    have hua := (TA_E y2).1
    refine xP_s rfl rfl rfl ?_
    refine xP_s rfl rfl rfl ?_
    refine xP_s rfl rfl rfl ?_
    refine xP_s rfl rfl rfl ?_
    refine xP_s rfl rfl rfl ?_
    refine xP_cv rfl rfl rfl rfl rfl y25 (p_named (l1 := l1) (l2 := n) (r1 := n) (r2 := n + r.1.length) (Dl := D) (Dr := r.2.1) y1 h0 hta hq (hl.same0 y6 (Nat.le_refl _)) y3 (Nat.le_refl _) rfl (by rw [(y6 (n - 1) (by omega)).2.2.2.2.2]; exact hD) hD2 y4 ⟨by omega, z2⟩ (by dsimp only at i1l; omega) (fun hc A3 F3 x1 x2 x3 => ?_) (fun hc A3 F3 x1 x2 x3 x4 x5 x6 => ?_))
    · repeat' first
        | refine xP_s rfl rfl rfl ?_
        | refine xP_ret rfl rfl rfl ?_
      refine k0 A3 (Or.inr ⟨r, z1, z2, hc⟩) ⟨_, F3, a2, _, x1, by omega, ?_, by omega, ((s1.trans y7).trans x3).wide (by decide)⟩
      exact xA0.trans (fun j hj => y6 j (by omega)) x2 (Nat.le_refl _)
    · repeat' first
        | refine xP_s rfl rfl rfl ?_
        | refine xP_ret rfl rfl rfl ?_
      refine k1 A3 F3 a2 m2 r z1 hc x1 y2 x2 x3 x4 ?_ (((s1.trans y7).trans x6).wide (by decide))
      exact xA0.trans (fun j hj => y6 j (by omega)) x5 (Nat.le_refl _)
set_option maxRecDepth 100000 in
theorem p_postfixed {D l1 : Nat} {L : List xIt} (hw : xWd A t nm sl u p v G n F a pr) (hta : xTA t nm G u m a s vs) (hq : (nx s).1 = 1)
    (hl : xTr F nm D l1 n L) (hD : F.2.2.2.2.2 (n - 1) = nI D) (hD2 : 0 < D ∧ D ≤ 14) (hX : F.2.2.2.2.1 (n - 1) = -1) (hn8 : n < 840)
    (k0 : 14 < D + 1 → ∀ A', xWd A' t nm sl u p v G n F (a + 1) pr → xSame A A' pL → P (.inl (some (.int (-1)))) (A', g))
    (k1 : D + 1 ≤ 14 → ∀ A' F', xWd A' t nm sl u p v G (n + 1) F' (a + 1) pr → xTr F' nm (D + 1) l1 (n + 1) ((3, 0, (nx s).2.2.1, 1) :: L) → F'.2.2.2.2.2 n = nI (D + 1) → F'.2.2.2.2.1 n = -1 → xA0 F F' l1 → xSame A A' pL → P (.inl (some (.int (nI n)))) (A', g)) : xM1 sc (d + 12) 47 [.ref 25, .int (nI (n - 1))] (A, g) P := by
  obtain ⟨hs, hn, ho, ht, hp, h25, hpr⟩ := id hw
  unfold xPa at h25
  obtain ⟨q1, q2, _⟩ := TA_E hta
  have hu := ht.1
  have g1 := hl.root
  have hw1 := hw.setA (a + 1) pr hpr
  have s1 := xSame.set (A := A) 25 (.inr (3, [.ref 18, .ref 7, .ref 11, .int (nI (a + 1)), .int (nI pr)]))
  obtain ⟨zz, z1, z2, z3⟩ := TA_name hta hq
  unfold xM1
  refine xP_s rfl rfl rfl ?_
  refine xP_get rfl h25 rfl ?_
  refine xP_s rfl rfl rfl ?_
  refine xP_s rfl rfl rfl ?_
  refine xP_s rfl rfl rfl ?_
  refine xP_get rfl h25 rfl ?_
  refine xP_s rfl rfl rfl ?_
  refine xP_s rfl rfl rfl ?_
  refine xP_put rfl h25 (Nat.le_of_ble_eq_true rfl) rfl ?_
  rw [show nI a + 1 = nI (a + 1) from nI_1 a]
  obtain ⟨hs', hn', ho', ht', hp', h25', _⟩ := id hw1
  unfold xPa at h25'
  refine xP_s rfl rfl rfl ?_
  refine xP_get rfl h25' rfl ?_
  refine xP_s rfl rfl rfl ?_
  refine xP_get rfl h25' rfl ?_
  refine xP_s rfl rfl rfl ?_
  refine xP_cv rfl rfl rfl rfl rfl ht'.2.1 (p_tvalue ht' (by omega) ?_)
  rw [if_pos q1, z1]
  refine xP_s rfl rfl rfl ?_
  refine xP_get rfl h25' rfl ?_
  refine xP_s rfl rfl rfl ?_
  refine xP_cv rfl rfl rfl rfl rfl ht'.2.1 (p_tsize ht' (by omega) ?_)
  rw [if_pos q1, z2]
  refine xP_s rfl rfl rfl ?_
  refine xP_cv rfl rfl rfl rfl rfl hp'.2.1 (p_addCompound (c := 1) (m := D) hp' (by decide) ⟨n - 1, D, 0, by omega, rfl, hD, hD2.2, by omega, hX, rfl⟩ (fun hc => ?_) (fun c1 c2 c3 A2 x1 x2 => ?_))
  · repeat' first
      | refine xP_s rfl rfl rfl ?_
      | refine xP_ret rfl rfl rfl ?_
    exact k0 (by omega) _ hw1 (s1.wide (by decide))
  · repeat' first
      | refine xP_s rfl rfl rfl ?_
      | refine xP_ret rfl rfl rfl ?_
    refine k1 (by omega) A2 _ (hw1.setP x1 x2) (tr_one hl hX z3) pk_us pk_us (xA0_add F n _ _ _ _ _ (by omega)) ((s1.trans x2).wide (by decide))
set_option maxRecDepth 100000 in
theorem p_prefixed {e lv : Nat} {en : xSl} {most : Int} (hd : 4 * e ≤ d) (IH : ∀ dd, 4 * e + 10 ≤ dd → xTmC sc dd g t nm sl u p v G e (lv + 1)) (hw : xWd A t nm sl u p v G n F a pr) (hsl : ∀ e ∈ sl, ¬ e.1 = 0 ∧ 1 ≤ e.2.1 ∧ e.2.1 ≤ 1200) (hta : xTA t nm G u m a s vs) (hsx : sfx t s) (hpf : pfx sl most s = some en) (hbud : n + 2 * s.length ≤ 840)
    (k0 : ∀ A', (noR (tmF sl e (oRight (some en)) ((nx s).2.2.2, vs)) ∨ ∃ r, tmF sl e (oRight (some en)) ((nx s).2.2.2, vs) = some r ∧ 14 < r.2.1 + 1) → xBd A A' t nm sl u p v G n F e → P (.inl (some (.int (-1)))) (A', g))
    (k1 : ∀ A' F' a' m' r, tmF sl e (oRight (some en)) ((nx s).2.2.2, vs) = some r → r.2.1 + 1 ≤ 14 → xWd A' t nm sl u p v G (n + r.1.length + 1) F' a' en.2.1 → xTA t nm G u m' a' r.2.2.1.1 r.2.2.1.2 → xTr F' nm (r.2.1 + 1) n (n + r.1.length + 1) ((3, 0, (nx s).2.2.1, 1) :: r.1) → F'.2.2.2.2.2 (n + r.1.length) = nI (r.2.1 + 1) → F'.2.2.2.2.1 (n + r.1.length) = -1 → xA0 F F' n → xSame A A' pL → P (.inl (some (.int (nI (n + r.1.length))))) (A', g)) : xM1 sc (d + 13) 43 [.ref 25, .int (nI lv)] (A, g) P := by
  obtain ⟨hs, hn, ho, ht, hp, h25, hpr⟩ := id hw
  unfold xPa at h25
  obtain ⟨q1, q2, _⟩ := TA_E hta
  have hu := ht.1
  obtain ⟨hk1, j, hf, hen⟩ : (nx s).1 = 1 ∧ ∃ j, fnd true (tK (nx s)) sl 0 = some j ∧ sl[j]? = some en := by
    unfold pfx at hpf
    split at hpf
    next hh =>
      refine ⟨hh.1, ?_⟩
      unfold opP at hpf
      cases hf : fnd true (tK (nx s)) sl 0 with
      | none =>
        rw [hf] at hpf
        cases hpf
      | some j =>
        have hj := (fnd_lt ho hf).1
        rw [hf, show slE sl (some j) = some (sl[j]'hj) from List.getElem?_eq_getElem hj] at hpf
        dsimp only at hpf
        split at hpf
        · cases hpf
          exact ⟨j, rfl, List.getElem?_eq_getElem hj⟩
        · cases hpf
    next => cases hpf
  have hj : j < sl.length := (List.getElem?_eq_some_iff.mp hen).1
  have hsE : slE sl (some j) = some en := hen
  have hmem := hsl en (List.mem_of_getElem? hen)
  obtain ⟨m1, h1⟩ := TA_next hta (by omega)
  have hvs : vsx vs (nx s) = vs := by unfold vsx; rw [if_neg (by omega)]
  rw [hvs] at h1
  have hw1 := hw.setA (a + 1) pr hpr
  have s1 := xSame.set (A := A) 25 (.inr (3, [.ref 18, .ref 7, .ref 11, .int (nI (a + 1)), .int (nI pr)]))
  have tk := nx_tk2 q2
  have hlen := tk.len
  have hor : 0 ≤ oRight (some en) ∧ oRight (some en) ≤ 1200 := by
    unfold oRight
    dsimp only [slP]
    split <;> omega
  obtain ⟨zz, n1, n2, n3⟩ := TA_name hta hk1
  unfold xM1
  refine xP_s rfl rfl rfl ?_
  refine xP_get rfl h25 rfl ?_
  refine xP_s rfl rfl rfl ?_
  refine xP_s rfl rfl rfl ?_
  refine xP_get rfl h25 rfl ?_
  refine xP_s rfl rfl rfl ?_
  refine xP_get rfl h25 rfl ?_
  refine xP_s rfl rfl rfl ?_
  refine xP_cv rfl rfl rfl rfl rfl ht.2.1 (p_tkey ht (by omega) ?_)
  rw [if_pos q1, TA_key hta]
  refine xP_cv rfl rfl rfl rfl rfl ho.obj (p_prefix ho ?_)
  rw [hf]
  refine xP_s rfl rfl rfl ?_
  refine xP_s rfl rfl rfl ?_
  refine xP_s rfl rfl rfl ?_
  refine xP_get rfl h25 rfl ?_
  refine xP_s rfl rfl rfl ?_
  refine xP_s rfl rfl rfl ?_
  refine xP_put rfl h25 (Nat.le_of_ble_eq_true rfl) rfl ?_
  rw [show nI a + 1 = nI (a + 1) from nI_1 a]
  obtain ⟨hs', hn', ho', ht', hp', h25', _⟩ := id hw1
  unfold xPa at h25'
  refine xP_s rfl rfl rfl ?_
  refine xP_s rfl rfl rfl ?_
  refine xP_get rfl h25' rfl ?_
  refine xP_s rfl rfl rfl ?_
  refine xP_cv rfl rfl rfl rfl rfl ho'.obj (p_rightMost (o := some j) ho' (fun i h => Option.some.inj h ▸ hj) (fun x hx => ?_))
  rw [hsE] at hx
  refine xP_s rfl rfl rfl ?_
  refine xP_s rfl rfl rfl ?_
  refine xP_s rfl rfl rfl ?_
  rw [nI_1]
  have tail : ∀ A2 n2' F2 a2 pr2 y, xWd A2 t nm sl u p v G n2' F2 a2 pr2 → xWd (A2.set 25 (.inr (3, [.ref 18, .ref 7, .ref 11, .int (nI a2), .int (nI en.2.1)]))) t nm sl u p v G n2' F2 a2 en.2.1 → (∀ (P' : xO → xH → Prop), (∀ v A', P (.inl (some (.int v))) (A', g) → P' (.inl (some (.int v))) (A', g)) → xM1 sc (d + 12) 78 [.ref 11, .int (nI zz), .int (nI (nx s).2.2.1.length), .int y] (A2.set 25 (.inr (3, [.ref 18, .ref 7, .ref 11, .int (nI a2), .int (nI en.2.1)])), g) P') → xP sc (d + 13) 43 46 [(0, .ref 25), (1, .int (nI lv)), (2, .int (nI a)), (3, .int (sI (some j)))] [.int y] (A2, g) P := by
    intro A2 n2' F2 a2 pr2 y hw2 hw3 hfin
    obtain ⟨ys, yn, yo, yt, yp, y25, ypr⟩ := id hw2
    unfold xPa at y25
    obtain ⟨zs, zn, zo, zt, zp, z25, zpr⟩ := id hw3
    unfold xPa at z25
    refine xP_s rfl rfl rfl ?_
    refine xP_s rfl rfl rfl ?_
    refine xP_s rfl rfl rfl ?_
    refine xP_get rfl y25 rfl ?_
    refine xP_s rfl rfl rfl ?_
    refine xP_cv rfl rfl rfl rfl rfl yo.obj (p_priority (o := some j) yo (fun i h => Option.some.inj h ▸ hj) ?_)
    rw [hsE]
    refine xP_put rfl y25 (Nat.le_of_ble_eq_true rfl) rfl ?_
    refine xP_s rfl rfl rfl ?_
    refine xP_get rfl z25 rfl ?_
    refine xP_s rfl rfl rfl ?_
    refine xP_get rfl z25 rfl ?_
    refine xP_s rfl rfl rfl ?_
    refine xP_cv rfl rfl rfl rfl rfl zt.2.1 (p_tvalue zt (by omega) ?_)
    rw [if_pos q1, n1]
    refine xP_s rfl rfl rfl ?_
    refine xP_get rfl z25 rfl ?_
    refine xP_s rfl rfl rfl ?_
    refine xP_cv rfl rfl rfl rfl rfl zt.2.1 (p_tsize zt (by omega) ?_)
    rw [if_pos q1, n2]
    refine xP_s rfl rfl rfl ?_
    refine xP_cv rfl rfl rfl rfl rfl zp.2.1 (hfin _ (fun v A' hv => ?_))
    repeat' first
      | refine xP_s rfl rfl rfl ?_
      | refine xP_ret rfl rfl rfl ?_
    exact hv
  refine xP_cv rfl rfl rfl rfl rfl h25' (IH (d + 12) (by omega) _ n F (a + 1) pr m1 _ vs x _ _ hx hor.1 hor.2 hw1 h1 (hsx.trans (nx_sfx' q2)) (by omega) (fun A2 z1 z2 => ?_) (fun A2 F2 a2 m2 r z1 z2 z3 => ?_))
  · obtain ⟨n', F', a', pr', y1, y2, y3, y4, y5⟩ := z2
    have hw3 := y1.setA a' en.2.1 hmem.2.2
    have s3 := xSame.set (A := A2) 25 (.inr (3, [.ref 18, .ref 7, .ref 11, .int (nI a'), .int (nI en.2.1)]))
    have go := tail A2 n' F' a' pr' (-1) y1 hw3 (fun P' hP => p_addCompound (c := 0) (m := 0) hw3.2.2.2.2.1 (by decide) ⟨rfl, rfl⟩ (fun _ => hP _ _ (k0 _ (Or.inl z1) ⟨n', F', a', _, hw3, y2, y3, y4, ((s1.trans y5).trans s3).wide (by decide)⟩)) (fun _ h0 => absurd h0 (by omega)))
    exact go
  · obtain ⟨y1, y2, y3, y4, y5, y6, y7⟩ := z3
    have rI := tmF_I (fun e he => ⟨(hsl e he).1, (hsl e he).2.2⟩) e _ _ _ z1
    obtain ⟨i1, i2, i3, i4⟩ := rI
    have i1l := i1.len
    dsimp only at i1l
    have hua := (TA_E y2).1
    have hw3 := y1.setA a2 en.2.1 hmem.2.2
    have s3 := xSame.set (A := A2) 25 (.inr (3, [.ref 18, .ref 7, .ref 11, .int (nI a2), .int (nI en.2.1)]))
    have go := tail A2 _ F2 a2 _ (nI (n + r.1.length - 1)) y1 hw3 (fun P' hP => p_addCompound (c := 1) (m := r.2.1) hw3.2.2.2.2.1 (by decide) ⟨n + r.1.length - 1, r.2.1, 0, by omega, rfl, y4, z2, by omega, y5, rfl⟩ (fun hc => hP _ _ (k0 _ (Or.inr ⟨r, z1, by omega⟩) ⟨_, F2, a2, _, hw3, by omega, y6, by omega, ((s1.trans y7).trans s3).wide (by decide)⟩)) (fun c1 c2 c3 A3 x1 x2 => hP _ _ (k1 A3 _ a2 m2 r z1 (by omega) (hw3.setP x1 x2) y2 (tr_one y3 y5 n3) pk_us pk_us (y6.trans (xA0_add F2 _ _ _ _ _ _ (Nat.le_refl _)) (by omega)) (((s1.trans y7).trans (s3.trans x2)).wide (by decide)))))
    exact go
end PC
