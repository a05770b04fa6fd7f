-- the reference: canBegin, variable, string
theorem lexT_pn {s : List Nat} (h : (lexT s).1 = 5) : isPn (lexT s).2.1 = true := by
  cases s with
  | nil => exact absurd h (by decide)
  | cons c r =>
    generalize hq : lexT (c :: r) = q at h ⊢
    rw [lexT_cons] at hq
    repeat' split at hq
    all_goals subst hq
    all_goals first
      | (exfalso; revert h; simp [wrg]; done)
      | assumption
theorem nx_pn {s : List Nat} (h : (nx s).1 = 5) : isPn (nx s).2.1 = true := by
  obtain ⟨s', _, h2⟩ := nx_lay (s := s) (by omega)
  rw [h2] at h ⊢
  exact lexT_pn h
theorem pn_8 {c : Nat} (h : isPn c = true) : c = 40 ∨ c = 41 ∨ c = 44 ∨ c = 91 ∨ c = 93 ∨ c = 123 ∨ c = 124 ∨ c = 125 := by
  simpa [isPn, pnL] using h
def zV (v : Nat → Int32) (a : Nat → Nat → Int32) (N vs : List (List Nat)) : Prop := v 35 = nI vs.length ∧ vs.length ≤ 130 ∧ ∀ (i : Nat) (w : List Nat), vs[i]? = some w → (w = [95] → a 48 i = -1) ∧ (¬ w = [95] → ∃ j, N[j]? = some w ∧ a 48 i = nI j)
theorem zV.same {v v' : Nat → Int32} {a a' : Nat → Nat → Int32} {N vs : List (List Nat)} {l m : List Nat} (h : zV v a N vs) (hv : vS v v' l) (ha : aS a a' m) (h1 : 35 ∉ l) (h2 : 48 ∉ m) : zV v' a' N vs := by
  unfold zV at h ⊢
  rw [hv 35 h1, ha 48 h2]
  exact h
theorem zV.mono {v : Nat → Int32} {a : Nat → Nat → Int32} {N N' vs : List (List Nat)} (h : zV v a N vs) (hN : ∀ (j : Nat) u, N[j]? = some u → N'[j]? = some u) : zV v a N' vs := ⟨h.1, h.2.1, fun i w hw => ⟨(h.2.2 i w hw).1, fun q => by
  obtain ⟨j, g1, g2⟩ := (h.2.2 i w hw).2 q
  exact ⟨j, hN j _ g1, g2⟩⟩⟩
section NE
variable {sc : xSc} {d g : Nat} {A B C : List xC} {v : Nat → Int32} {a : Nat → Nat → Int32} {o : Nat → Int64} {P : xO → xH → Prop} {N vs : List (List Nat)} {w t : List Nat} {Q : List xIt} {F : List xFr}
set_option maxRecDepth 100000 in
theorem q_canBegin {q : xTok} (hB : B.length = 28) (hk : zK t v a q) (hpn : q.1 = 5 → isPn q.2.1 = true) (k : P (.inl (some (.int (xb (bgn q))))) (mH B C v a o, g)) : xM1 sc d 170 [.ref 28] (mH B C v a o, g) P := by
  obtain ⟨h1, h2, _, _, h5⟩ := hk
  obtain ⟨q1, q2, q3, q4⟩ := q
  dsimp only at h1 h2 h5 hpn k
  unfold xM1
  have e8 : q1 = 0 ∨ q1 = 1 ∨ q1 = 2 ∨ q1 = 3 ∨ q1 = 4 ∨ q1 = 5 ∨ q1 = 6 ∨ q1 = 7 := by omega
  rcases e8 with e | e | e | e | e | e | e | e
  · subst e
    have e0 : v 20 = 0 := h2
    have kk : P (.inl (some (.int 0))) (mH B C v a o, g) := k
    refine xP_s rfl rfl rfl ?_
    refine xP_zg rfl hB rfl e0 ?_
    repeat' first
      | refine xP_s rfl rfl rfl ?_
      | refine xP_ret rfl rfl rfl ?_
    exact kk
  · subst e
    have e0 : v 20 = 4 := h2
    have kk : P (.inl (some (.int 1))) (mH B C v a o, g) := k
    refine xP_s rfl rfl rfl ?_
    refine xP_zg rfl hB rfl e0 ?_
    refine xP_s rfl rfl rfl ?_
    refine xP_s rfl rfl rfl ?_
    refine xP_zg rfl hB rfl e0 ?_
    refine xP_s rfl rfl rfl ?_
    refine xP_s rfl rfl rfl ?_
    refine xP_s rfl rfl rfl ?_
    refine xP_zg rfl hB rfl e0 ?_
    refine xP_s rfl rfl rfl ?_
    refine xP_s rfl rfl rfl ?_
    refine xP_s rfl rfl rfl ?_
    refine xP_zg rfl hB rfl e0 ?_
    repeat' first
      | refine xP_s rfl rfl rfl ?_
      | refine xP_ret rfl rfl rfl ?_
    exact kk
  · subst e
    have e0 : v 20 = 2 := h2
    have kk : P (.inl (some (.int 1))) (mH B C v a o, g) := k
    refine xP_s rfl rfl rfl ?_
    refine xP_zg rfl hB rfl e0 ?_
    refine xP_s rfl rfl rfl ?_
    refine xP_s rfl rfl rfl ?_
    refine xP_zg rfl hB rfl e0 ?_
    refine xP_s rfl rfl rfl ?_
    refine xP_s rfl rfl rfl ?_
    refine xP_s rfl rfl rfl ?_
    refine xP_zg rfl hB rfl e0 ?_
    refine xP_s rfl rfl rfl ?_
    refine xP_s rfl rfl rfl ?_
    refine xP_s rfl rfl rfl ?_
    refine xP_zg rfl hB rfl e0 ?_
    repeat' first
      | refine xP_s rfl rfl rfl ?_
      | refine xP_ret rfl rfl rfl ?_
    exact kk
  · subst e
    have e0 : v 20 = 1 := h2
    have kk : P (.inl (some (.int 1))) (mH B C v a o, g) := k
    refine xP_s rfl rfl rfl ?_
    refine xP_zg rfl hB rfl e0 ?_
    refine xP_s rfl rfl rfl ?_
    refine xP_s rfl rfl rfl ?_
    refine xP_zg rfl hB rfl e0 ?_
    refine xP_s rfl rfl rfl ?_
    refine xP_s rfl rfl rfl ?_
    refine xP_s rfl rfl rfl ?_
    refine xP_zg rfl hB rfl e0 ?_
    refine xP_s rfl rfl rfl ?_
    refine xP_s rfl rfl rfl ?_
    refine xP_s rfl rfl rfl ?_
    refine xP_zg rfl hB rfl e0 ?_
    repeat' first
      | refine xP_s rfl rfl rfl ?_
      | refine xP_ret rfl rfl rfl ?_
    exact kk
  · subst e
    have e0 : v 20 = 3 := h2
    have kk : P (.inl (some (.int 1))) (mH B C v a o, g) := k
    refine xP_s rfl rfl rfl ?_
    refine xP_zg rfl hB rfl e0 ?_
    refine xP_s rfl rfl rfl ?_
    refine xP_s rfl rfl rfl ?_
    refine xP_zg rfl hB rfl e0 ?_
    refine xP_s rfl rfl rfl ?_
    refine xP_s rfl rfl rfl ?_
    refine xP_s rfl rfl rfl ?_
    refine xP_zg rfl hB rfl e0 ?_
    refine xP_s rfl rfl rfl ?_
    refine xP_s rfl rfl rfl ?_
    refine xP_s rfl rfl rfl ?_
    refine xP_zg rfl hB rfl e0 ?_
    repeat' first
      | refine xP_s rfl rfl rfl ?_
      | refine xP_ret rfl rfl rfl ?_
    exact kk
  · subst e
    have e0 : v 20 = 5 := h2
    have e3 := h5 (Or.inr rfl)
    have kk := k
    refine xP_s rfl rfl rfl ?_
    refine xP_zg rfl hB rfl e0 ?_
    refine xP_s rfl rfl rfl ?_
    refine xP_s rfl rfl rfl ?_
    refine xP_zg rfl hB rfl e0 ?_
    refine xP_s rfl rfl rfl ?_
    refine xP_s rfl rfl rfl ?_
    refine xP_s rfl rfl rfl ?_
    refine xP_zg rfl hB rfl e0 ?_
    refine xP_s rfl rfl rfl ?_
    refine xP_s rfl rfl rfl ?_
    refine xP_s rfl rfl rfl ?_
    refine xP_zg rfl hB rfl e0 ?_
    rcases pn_8 (hpn rfl) with e | e | e | e | e | e | e | e
    all_goals
      subst e
      repeat' first
        | refine xP_s rfl rfl rfl ?_
        | refine xP_zg rfl hB rfl e3 ?_
        | refine xP_ret rfl rfl rfl ?_
      exact kk
  · subst e
    have e0 : v 20 = 6 := h2
    have kk : P (.inl (some (.int 0))) (mH B C v a o, g) := k
    refine xP_s rfl rfl rfl ?_
    refine xP_zg rfl hB rfl e0 ?_
    refine xP_s rfl rfl rfl ?_
    refine xP_s rfl rfl rfl ?_
    refine xP_zg rfl hB rfl e0 ?_
    repeat' first
      | refine xP_s rfl rfl rfl ?_
      | refine xP_ret rfl rfl rfl ?_
    exact kk
  · subst e
    have e0 : v 20 = 7 := h2
    have kk : P (.inl (some (.int 0))) (mH B C v a o, g) := k
    refine xP_s rfl rfl rfl ?_
    refine xP_zg rfl hB rfl e0 ?_
    refine xP_s rfl rfl rfl ?_
    refine xP_s rfl rfl rfl ?_
    refine xP_zg rfl hB rfl e0 ?_
    refine xP_s rfl rfl rfl ?_
    refine xP_s rfl rfl rfl ?_
    refine xP_s rfl rfl rfl ?_
    refine xP_zg rfl hB rfl e0 ?_
    repeat' first
      | refine xP_s rfl rfl rfl ?_
      | refine xP_ret rfl rfl rfl ?_
    exact kk
theorem vix_n {w : List Nat} : ∀ (l : List (List Nat)) (i : Nat), (∀ u ∈ l, ¬ u = w) → vix w l i = none
  | [], i, h => rfl
  | u :: r, i, h => by
    unfold vix
    rw [if_neg (h u List.mem_cons_self)]
    exact vix_n r (i + 1) (fun x hx => h x (List.mem_cons_of_mem u hx))
theorem vix_f {w : List Nat} : ∀ (l : List (List Nat)) (i j : Nat), l[j]? = some w → (∀ m, m < j → ¬ l[m]? = some w) → vix w l i = some (i + j)
  | [], i, j, h, hn => by simp at h
  | u :: r, i, 0, h, hn => by
    simp at h
    unfold vix
    rw [if_pos h]
    rfl
  | u :: r, i, j + 1, h, hn => by
    rw [List.getElem?_cons_succ] at h
    unfold vix
    rw [if_neg (fun q => hn 0 (by omega) (by rw [q]; rfl)), vix_f r (i + 1) j h (fun m hm => by
      have := hn (m + 1) (by omega)
      rwa [List.getElem?_cons_succ] at this)]
    congr 1
    omega
-- behind the search: a new variable
set_option maxRecDepth 100000 in
theorem q_varNew {al : Bool} {j : Nat} {x3 : Int32} (hB : B.length = 28) (hv : zV v a N vs) (hj : N[j]? = some w) (hal : al = decide (w = [95])) (hvl : vs.length < 130)
    (k : ∀ v' a', zV v' a' N (vs ++ [w]) → vS v v' [35] → aS a a' [48] → P (.inl (some (.int (nI vs.length)))) (mH B C v' a' o, g)) :
    xP sc d 171 62 [(0, .ref 28), (1, .int (xb al)), (2, .int (nI j)), (3, .int x3)] [] (mH B C v a o, g) P := by
  obtain ⟨h1, h2, h3⟩ := hv
  have e1 : nI (vs.length + 1) - 1 = nI vs.length := nI_subN (a := vs.length + 1) (b := 1) (by omega)
  have fin : ∀ y : Int32, (w = [95] → y = -1) → (¬ w = [95] → y = nI j) → xP sc d 171 79 [(0, .ref 28), (1, .int (xb al)), (2, .int (nI j)), (3, .int x3)] [.int y, .int (nI vs.length), .ref 48] (mH B C v a o, g) P := by
    intro y y1 y2
    have kk := k (upd v 35 (nI (vs.length + 1))) (uA a 48 (upd (a 48) vs.length y)) ⟨by rw [upd_s, List.length_append]; rfl, by rw [List.length_append, List.length_singleton]; omega, fun i u hu => by
      rw [uA_s]
      rcases ap_c hu with ⟨z1, z2⟩ | ⟨z1, z2⟩
      · rw [upd_n (by omega)]
        exact h3 i u z2
      · rw [z1, z2, upd_s]
        exact ⟨y1, fun q => ⟨j, hj, y2 q⟩⟩⟩ (vS.u _ _ _) (aS.u _ _ _)
    rw [← e1] at kk
    refine xP_zs (n := 130) rfl hB rfl rfl hvl ?_
    refine xP_s rfl rfl rfl ?_
    refine xP_s rfl rfl rfl ?_
    refine xP_zg rfl hB rfl h1 ?_
    refine xP_s rfl rfl rfl ?_
    refine xP_s rfl rfl rfl ?_
    rw [nI_p1]
    refine xP_zp rfl hB rfl rfl ?_
    refine xP_s rfl rfl rfl ?_
    refine xP_zg rfl hB rfl upd_s ?_
    repeat' first
      | refine xP_s rfl rfl rfl ?_
      | refine xP_ret rfl rfl rfl ?_
    exact kk
  refine xP_s rfl rfl rfl ?_
  refine xP_get rfl (mH_28 hB) rfl ?_
  refine xP_s rfl rfl rfl ?_
  refine xP_zg rfl hB rfl h1 ?_
  refine xP_s rfl rfl rfl ?_
  refine xP_s rfl rfl rfl ?_
  rw [xb_eq0]
  refine xP_if (fun hc => ?_) (fun hc => ?_)
  · have hn : ¬ w = [95] := by
      rw [hal] at hc
      simpa using hc
    refine xP_s rfl rfl rfl ?_
    exact fin _ (fun q => absurd q hn) (fun _ => rfl)
  · have hn : w = [95] := by
      rw [hal] at hc
      simpa using hc
    refine xP_s rfl rfl rfl ?_
    refine xP_s rfl rfl rfl ?_
    exact fin _ (fun _ => rfl) (fun q => absurd hn q)
set_option maxRecDepth 100000 in
theorem q_varLoop {j : Nat} (hB : B.length = 28) (hv : zV v a N vs) (hN : N.length ≤ 1500) (hnd : ∀ (i j : Nat) (u : List Nat), N[i]? = some u → N[j]? = some u → i = j) (hj : N[j]? = some w) (hw : ¬ w = [95]) (hvl : vs.length < 130)
    (k0 : ∀ v' a', zV v' a' N (vnx vs w) → vS v v' [35] → aS a a' [48] → P (.inl (some (.int (nI (vno vs w))))) (mH B C v' a' o, g)) :
    ∀ m i, i + m = vs.length → (∀ m, m < i → ¬ vs[m]? = some w) → xP sc d 171 32 [(0, .ref 28), (1, .int 0), (2, .int (nI j)), (3, .int (nI i))] [] (mH B C v a o, g) P
  | 0, i, hm, hno => by
    have hI := toI i (by omega)
    have hL := toI vs.length (by omega)
    have e := vix_n (w := w) vs 0 (fun u hu q => by
      obtain ⟨m, hm2⟩ := List.mem_iff_getElem?.mp hu
      exact hno m (by have := (List.getElem?_eq_some_iff.mp hm2).1; omega) (by rw [hm2, q]))
    have e1 : vno vs w = vs.length := by
      unfold vno
      rw [if_neg hw, e]
    have e2 : vnx vs w = vs ++ [w] := by
      unfold vnx
      rw [if_neg hw, e]
    rw [e1, e2] at k0
    have go := q_varNew (sc := sc) (d := d) (C := C) (o := o) (g := g) (P := P) (al := false) (x3 := nI i) hB hv hj (by simp [hw]) hvl k0
    refine xP_s rfl rfl rfl ?_
    refine xP_s rfl rfl rfl ?_
    refine xP_zg rfl hB rfl hv.1 ?_
    refine xP_s rfl rfl rfl ?_
    refine xP_if (fun hc => ?_) (fun hc => ?_)
    · exact go
    · have z := xc_f hc
      dsimp only at z
      omega
  | m + 1, i, hm, hno => by
    have hI := toI i (by omega)
    have hL := toI vs.length (by omega)
    have hjl := (List.getElem?_eq_some_iff.mp hj).1
    have hJ := toI j (by omega)
    obtain ⟨u, hu⟩ : ∃ u, vs[i]? = some u := ⟨vs[i]'(by omega), List.getElem?_eq_getElem (by omega)⟩
    obtain ⟨m1, m2⟩ := hv.2.2 i u hu
    have cm : a 48 i = nI j ↔ u = w := by
      constructor
      · intro q
        by_cases h95 : u = [95]
        · have := m1 h95
          rw [q] at this
          have := congrArg Int32.toInt this
          rw [hJ] at this
          have h1 : (-1 : Int32).toInt = -1 := rfl
          omega
        · obtain ⟨j', g1, g2⟩ := m2 h95
          rw [q] at g2
          have hjl' := (List.getElem?_eq_some_iff.mp g1).1
          have hJ' := toI j' (by omega)
          have := congrArg Int32.toInt g2
          have ej : j = j' := by omega
          rw [← ej, hj] at g1
          exact (Option.some.inj g1).symm
      · intro q
        obtain ⟨j', g1, g2⟩ := m2 (by rw [q]; exact hw)
        rw [q] at g1
        rw [g2, hnd j' j w g1 hj]
    refine xP_s rfl rfl rfl ?_
    refine xP_s rfl rfl rfl ?_
    refine xP_zg rfl hB rfl hv.1 ?_
    refine xP_s rfl rfl rfl ?_
    refine xP_if (fun hc => ?_) (fun hc => ?_)
    · have z := xc_t hc
      dsimp only at z
      omega
    · refine xP_s rfl rfl rfl ?_
      refine xP_s rfl rfl rfl ?_
      refine xP_s rfl rfl rfl ?_
      refine xP_get rfl (mH_28 hB) rfl ?_
      refine xP_s rfl rfl rfl ?_
      refine xP_zl (n := 130) rfl hB rfl rfl (by omega) rfl ?_
      refine xP_s rfl rfl rfl ?_
      refine xP_s rfl rfl rfl ?_
      refine xP_if (fun hc2 => ?_) (fun hc2 => ?_)
      · have z := xc_t hc2
        dsimp only at z
        have hne : ¬ u = w := fun q => z (by rw [cm.mpr q])
        have go := q_varLoop hB hv hN hnd hj hw hvl k0 m (i + 1) (by omega) (fun x hx => by
          rcases Nat.lt_or_ge x i with y | y
          · exact hno x y
          · rw [show x = i by omega, hu]
            intro q
            exact hne (Option.some.inj q))
        rw [← nI_p1 i] at go
        refine xP_s rfl rfl rfl ?_
        refine xP_s rfl rfl rfl ?_
        exact go
      · have z := xc_f hc2
        dsimp only at z
        have he : u = w := cm.mp (Int32.toInt_inj.mp (by
          rcases Int.lt_trichotomy (a 48 i).toInt (nI j).toInt with y | y | y
          · omega
          · exact y
          · omega))
        rw [he] at hu
        have e := vix_f (w := w) vs 0 i hu hno
        rw [Nat.zero_add] at e
        have e1 : vno vs w = i := by
          unfold vno
          rw [if_neg hw, e]
        have e2 : vnx vs w = vs := by
          unfold vnx
          rw [if_neg hw, e]
        rw [e1, e2] at k0
        have kk := k0 v a hv (vS.refl _ _) (aS.refl _ _)
        repeat' first
          | refine xP_s rfl rfl rfl ?_
          | refine xP_ret rfl rfl rfl ?_
        exact kk
set_option maxHeartbeats 4000000 in
set_option maxRecDepth 100000 in
theorem q_variable (hB : B.length = 28) (hh : zH v a w) (hn : zN v a N) (hv : zV v a N vs) (hvl : vs.length < 130) (hroom : ¬ w ∈ N → N.length < 1500 ∧ ltN N + w.length ≤ 4600)
    (k : ∀ v' a', zN v' a' (nmA N w) → zV v' a' (nmA N w) (vnx vs w) → vS v v' [9, 12, 35] → aS a a' [35, 36, 37, 48] → P (.inl (some (.int (nI (vno vs w))))) (mH B C v' a' o, g)) : xM1 sc (d + 1) 171 [.ref 28] (mH B C v a o, g) P := by
  have hwl := hh.2.1
  have hL := toI w.length (by omega)
  have c1 : (1 : Int32).toInt = 1 := rfl
  have c95 : (95 : Int32).toInt = 95 := rfl
  have fin : ∀ al : Bool, al = decide (w = [95]) → xP sc (d + 1) 171 24 [(0, .ref 28)] [.int (xb al)] (mH B C v a o, g) P := by
    intro al hal
    refine xP_s rfl rfl rfl ?_
    refine xP_s rfl rfl rfl ?_
    refine xP_cv rfl rfl rfl rfl rfl (mH_28 hB) (q_intern hB hh hn hroom (fun v1 a1 j y1 y2 y3 y4 y5 => ?_))
    have hv1 : zV v1 a1 (nmA N w) vs := (hv.mono (fun j u h => nmA_ext h)).same y4 y5 (by decide) (by decide)
    refine xP_s rfl rfl rfl ?_
    refine xP_s rfl rfl rfl ?_
    refine xP_s rfl rfl rfl ?_
    cases al with
    | true =>
      have ew : w = [95] := by simpa using hal.symm
      have e1 : vno vs w = vs.length := by
        unfold vno
        rw [if_pos ew]
      have e2 : vnx vs w = vs ++ [w] := by
        unfold vnx
        rw [if_pos ew]
      rw [e1, e2] at k
      have go := q_varNew (sc := sc) (d := d + 1) (C := C) (o := o) (g := g) (P := P) (al := true) (x3 := 0) hB hv1 y1 hal hvl (fun v2 a2 z1 z2 z3 => k v2 a2 (y2.same z2 z3 (by decide) (by decide) (by decide) (by decide) (by decide)) z1 ((y4.wide (by decide)).trans (z2.wide (by decide))) ((y5.wide (by decide)).trans (z3.wide (by decide))))
      refine xP_s rfl rfl rfl ?_
      refine xP_s rfl rfl rfl ?_
      refine xP_zg rfl hB rfl hv1.1 ?_
      refine xP_s rfl rfl rfl ?_
      refine xP_if (fun hc => ?_) (fun hc => ?_)
      · exact go
      · refine xP_s rfl rfl rfl ?_
        refine xP_s rfl rfl rfl ?_
        exact go
    | false =>
      have ew : ¬ w = [95] := by simpa using hal.symm
      have go := q_varLoop (sc := sc) (d := d + 1) (C := C) (o := o) (g := g) (P := P) hB hv1 y2.2.2.1 y2.2.2.2.2.1 y1 ew hvl (fun v2 a2 z1 z2 z3 => k v2 a2 (y2.same z2 z3 (by decide) (by decide) (by decide) (by decide) (by decide)) z1 ((y4.wide (by decide)).trans (z2.wide (by decide))) ((y5.wide (by decide)).trans (z3.wide (by decide)))) vs.length 0 (by omega) (fun m hm => by omega)
      exact go
  unfold xM1
  refine xP_s rfl rfl rfl ?_
  refine xP_zg rfl hB rfl hh.1 ?_
  refine xP_s rfl rfl rfl ?_
  refine xP_s rfl rfl rfl ?_
  refine xP_if (fun hc => ?_) (fun hc => ?_)
  · have z := xc_t hc
    dsimp only at z
    have hne : ¬ w = [95] := fun q => by
      rw [q] at hL
      rw [q] at z
      exact z (hL.trans c1.symm)
    refine xP_s rfl rfl rfl ?_
    exact fin false (by simp [hne])
  · have z := xc_f hc
    dsimp only at z
    obtain ⟨c, hc0⟩ : ∃ c, w = [c] := by
      match w, hwl, hL, z with
      | [], _, hL, z =>
        rw [List.length_nil] at hL z
        omega
      | [c], _, _, _ => exact ⟨c, rfl⟩
      | _ :: _ :: r, _, hL, z =>
        rw [List.length_cons, List.length_cons] at hL z
        omega
    have hx := hh.2.2 0 c (by rw [hc0]; rfl)
    have hC := toI c (by omega)
    refine xP_s rfl rfl rfl ?_
    refine xP_get rfl (mH_28 hB) rfl ?_
    refine xP_s rfl rfl rfl ?_
    refine xP_zl (m := 0) (n := 130) rfl hB rfl rfl (by decide) hx.2 ?_
    refine xP_s rfl rfl rfl ?_
    refine xP_s rfl rfl rfl ?_
    refine xP_if (fun hc2 => ?_) (fun hc2 => ?_)
    · have z2 := xc_t hc2
      dsimp only at z2
      have hne : ¬ w = [95] := fun q => by
        rw [hc0] at q
        cases q
        exact z2 rfl
      refine xP_s rfl rfl rfl ?_
      exact fin false (by simp [hne])
    · have z2 := xc_f hc2
      dsimp only at z2
      have he : w = [95] := by rw [hc0, show c = 95 by omega]
      refine xP_s rfl rfl rfl ?_
      refine xP_s rfl rfl rfl ?_
      exact fin true (by simp [he])
-- characters put aside
set_option maxRecDepth 100000 in
theorem q_strPut (hB : B.length = 28) (hwl : w.length ≤ 130) : ∀ (m k : Nat) (a : Nat → Nat → Int32), (∀ j c : Nat, w[j]? = some c → c < 128 ∧ a 42 j = nI c) → k + m = w.length → (∀ j c : Nat, j < k → w[j]? = some c → a 51 j = nI c) →
    (∀ a', aS a a' [51] → (∀ j c : Nat, w[j]? = some c → a' 51 j = nI c) → xP sc d 172 30 [(0, .ref 28), (1, .int (nI w.length)), (2, .int (nI w.length))] [] (mH B C v a' o, g) P) →
    xP sc d 172 7 [(0, .ref 28), (1, .int (nI w.length)), (2, .int (nI k))] [] (mH B C v a o, g) P
  | 0, k, a, hw, hm, he, kk => by
    have hK := toI k (by omega)
    have hL := toI w.length (by omega)
    have ek : k = w.length := by omega
    refine xP_s rfl rfl rfl ?_
    refine xP_s rfl rfl rfl ?_
    refine xP_s rfl rfl rfl ?_
    refine xP_if (fun hq => ?_) (fun hq => ?_)
    · rw [ek]
      exact kk a (aS.refl _ _) (fun j c hj => he j c (by rw [ek]; exact (List.getElem?_eq_some_iff.mp hj).1) hj)
    · have z := xc_f hq
      dsimp only at z
      omega
  | m + 1, k, a, hw, hm, he, kk => by
    have hK := toI k (by omega)
    have hL := toI w.length (by omega)
    obtain ⟨c, hc⟩ : ∃ c, w[k]? = some c := ⟨w[k]'(by omega), List.getElem?_eq_getElem (by omega)⟩
    have go := q_strPut hB hwl m (k + 1) (uA a 51 (upd (a 51) k (nI c))) (fun j c hj => by rw [uA_n (by decide)]; exact hw j c hj) (by omega) (fun j c' hj hc' => by
      rw [uA_s]
      rcases Nat.lt_or_ge j k with y | y
      · rw [upd_n (by omega)]
        exact he j c' y hc'
      · have ej : j = k := by omega
        rw [ej, upd_s]
        rw [ej, hc] at hc'
        cases hc'
        rfl) (fun a' q1 q3 => kk a' ((aS.u _ _ _).trans q1) q3)
    rw [← nI_p1 k] at go
    refine xP_s rfl rfl rfl ?_
    refine xP_s rfl rfl rfl ?_
    refine xP_s rfl rfl rfl ?_
    refine xP_if (fun hq => ?_) (fun hq => ?_)
    · have z := xc_t hq
      dsimp only at z
      omega
    · refine xP_s rfl rfl rfl ?_
      refine xP_get rfl (mH_28 hB) rfl ?_
      refine xP_s rfl rfl rfl ?_
      refine xP_s rfl rfl rfl ?_
      refine xP_get rfl (mH_28 hB) rfl ?_
      refine xP_s rfl rfl rfl ?_
      refine xP_zl (n := 130) rfl hB rfl rfl (by omega) (hw k c hc).2 ?_
      refine xP_zs (n := 2600) rfl hB rfl rfl (by omega) ?_
      refine xP_s rfl rfl rfl ?_
      refine xP_s rfl rfl rfl ?_
      exact go
-- the elements of a string
set_option maxRecDepth 100000 in
theorem q_strAdd {j : Nat} (hB : B.length = 28) (hN : N.length ≤ 1500) (hj : N[j]? = some [46]) : ∀ (u : List Nat) (k : Nat) (v : Nat → Int32) (a : Nat → Nat → Int32) (Q : List xIt), w.drop k = u → k ≤ w.length → w.length ≤ 130 → (∀ j c : Nat, w[j]? = some c → c < 128 ∧ a 51 j = nI c) → zQ v a N Q → Q.length + 2 * u.length < 1000 →
    (∀ v' a' E, E ++ [nilP] = strL u → zQ v' a' N (Q ++ E) → vS v v' [16] → aS a a' [39, 40, 41] → xP sc (d + 1) 172 74 [(0, .ref 28), (1, .int (nI w.length)), (2, .int (nI j)), (3, .int (nI w.length))] [] (mH B C v' a' o, g) P) →
    xP sc (d + 1) 172 40 [(0, .ref 28), (1, .int (nI w.length)), (2, .int (nI j)), (3, .int (nI k))] [] (mH B C v a o, g) P
  | [], k, v, a, Q, hd, hk, hwl, hw, hq, hl, kk => by
    have hK := toI k (by omega)
    have hL := toI w.length (by omega)
    have ek : k = w.length := by
      have := congrArg List.length hd
      rw [List.length_drop, List.length_nil] at this
      omega
    refine xP_s rfl rfl rfl ?_
    refine xP_s rfl rfl rfl ?_
    refine xP_s rfl rfl rfl ?_
    refine xP_if (fun hc0 => ?_) (fun hc0 => ?_)
    · rw [ek]
      exact kk v a [] rfl (by rw [List.append_nil]; exact hq) (vS.refl _ _) (aS.refl _ _)
    · have z := xc_f hc0
      dsimp only at z
      omega
  | c :: u, k, v, a, Q, hd, hk, hwl, hw, hq, hl, kk => by
    obtain ⟨hd1, hk1⟩ := drop_c hd
    rw [List.length_cons] at hl
    have hK := toI k (by omega)
    have hL := toI w.length (by omega)
    have hjl := (List.getElem?_eq_some_iff.mp hj).1
    have hc : w[k]? = some c := by
      have := congrArg (fun l => l[0]?) hd
      simpa [List.getElem?_drop] using this
    obtain ⟨hc1, hc2⟩ := hw k c hc
    refine xP_s rfl rfl rfl ?_
    refine xP_s rfl rfl rfl ?_
    refine xP_s rfl rfl rfl ?_
    refine xP_if (fun hc0 => ?_) (fun hc0 => ?_)
    · have z := xc_t hc0
      dsimp only at z
      omega
    · refine xP_s rfl rfl rfl ?_
      refine xP_s rfl rfl rfl ?_
      refine xP_s rfl rfl rfl ?_
      refine xP_s rfl rfl rfl ?_
      refine xP_cv rfl rfl rfl rfl rfl (mH_28 hB) (q_add (p := dotP) hB hq (by omega) ⟨by decide, rfl, fun h => absurd h (by decide), fun _ => ⟨j, hj, rfl⟩, rfl, by decide⟩ (fun v1 a1 y1 y2 y3 => ?_))
      refine xP_s rfl rfl rfl ?_
      refine xP_s rfl rfl rfl ?_
      refine xP_s rfl rfl rfl ?_
      refine xP_s rfl rfl rfl ?_
      refine xP_get rfl (mH_28 hB) rfl ?_
      refine xP_s rfl rfl rfl ?_
      refine xP_zl (n := 2600) rfl hB rfl rfl (by omega) (show a1 51 k = nI c by rw [y3 51 (by decide)]; exact hc2) ?_
      refine xP_s rfl rfl rfl ?_
      refine xP_cv rfl rfl rfl rfl rfl (mH_28 hB) (q_add (p := (1, (c : Int), [], 0)) hB y1 (by rw [List.length_append, List.length_singleton]; omega) ⟨by simp, rfl, fun _ => toI c (by omega), fun h => absurd h (by simp), rfl, by simp⟩ (fun v2 a2 x1 x2 x3 => ?_))
      rw [List.append_assoc] at x1
      have go := q_strAdd hB hN hj u (k + 1) v2 a2 (Q ++ ([dotP] ++ [(1, (c : Int), [], 0)])) hd1 hk1 hwl (fun i c hi => by rw [x3 51 (by decide), y3 51 (by decide)]; exact hw i c hi) x1 (by rw [List.length_append]; show Q.length + 2 + 2 * u.length < 1000; omega) (fun v' a' E q1 q2 q3 q4 => kk v' a' (dotP :: (1, (c : Int), [], 0) :: E) (by rw [strL, ← q1]; rfl) (by rw [List.append_assoc] at q2; exact q2) ((y2.trans x2).trans q3) ((y3.trans x3).trans q4))
      rw [← nI_p1 k] at go
      have go := xP_more [(4, .int (nI Q.length)), (5, .int (nI (Q ++ [dotP]).length))] rfl go
      refine xP_s rfl rfl rfl ?_
      refine xP_s rfl rfl rfl ?_
      refine xP_s rfl rfl rfl ?_
      exact go
set_option maxHeartbeats 4000000 in
set_option maxRecDepth 100000 in
theorem q_string (hB : B.length = 28) (hh : zH v a w) (hn : zN v a N) (hq : zQ v a N Q) (hl : Q.length + 2 * w.length + 1 ≤ 1000) (hroom : N.length + 2 ≤ 1500 ∧ ltN N + 3 ≤ 4600)
    (k : ∀ v' a', zN v' a' (nmA (nmA N [46]) [91, 93]) → zQ v' a' (nmA (nmA N [46]) [91, 93]) (Q ++ strL w) → vS v v' [9, 12, 16, 25] → aS a a' [35, 36, 37, 39, 40, 41, 42, 51] → P (.inl none) (mH B C v' a' o, g)) : xM1 sc (d + 2) 172 [.ref 28] (mH B C v a o, g) P := by
  have hwl := hh.2.1
  have hL := toI w.length (by omega)
  have lp := q_strPut (sc := sc) (d := d + 2) (v := v) (C := C) (o := o) (g := g) (P := P) hB hwl w.length 0 a hh.2.2 (by omega) (fun j c hj => by omega) (fun a1 y1 y2 => by
    have hn1 : zN v a1 N := hn.same (vS.refl _ []) y1 (by decide) (by decide) (by decide) (by decide) (by decide)
    have hq1 : zQ v a1 N Q := hq.same (vS.refl _ []) y1 (by decide) (by decide) (by decide) (by decide)
    refine xP_s rfl rfl rfl ?_
    refine xP_s rfl rfl rfl ?_
    refine xP_s rfl rfl rfl ?_
    refine xP_cv rfl rfl rfl rfl rfl (mH_28 hB) (q_named1 (c := 46) hB hn1 (by decide) (fun _ => by omega) (fun v2 a2 j x1 x2 x3 x4 => ?_))
    have hq2 : zQ v2 a2 (nmA N [46]) Q := (hq1.mono (fun j u h => nmA_ext h)).same x3 x4 (by decide) (by decide) (by decide) (by decide)
    have fr2 : aS a a2 [35, 36, 37, 39, 40, 41, 42, 51] := (y1.wide (by decide)).trans (x4.wide (by decide))
    refine xP_s rfl rfl rfl ?_
    refine xP_s rfl rfl rfl ?_
    refine xP_s rfl rfl rfl ?_
    refine q_strAdd hB x2.2.2.1 x1 w 0 v2 a2 Q rfl (by omega) hwl (fun i c hi => ⟨(hh.2.2 i c hi).1, by rw [x4 51 (by decide)]; exact y2 i c hi⟩) hq2 (by omega) (fun v3 a3 E z1 z2 z3 z4 => ?_)
    have hn3 : zN v3 a3 (nmA N [46]) := x2.same z3 z4 (by decide) (by decide) (by decide) (by decide) (by decide)
    have e1 : (nmA N [46]).length ≤ N.length + 1 ∧ ltN (nmA N [46]) ≤ ltN N + 1 := by
      unfold nmA
      split
      · omega
      · rw [List.length_append, ltN_app]
        exact ⟨Nat.le_refl _, Nat.le_refl _⟩
    have eE : E.length + 1 = 2 * w.length + 1 := by
      have := congrArg List.length z1
      rwa [List.length_append, strL_len, List.length_singleton] at this
    refine xP_s rfl rfl rfl ?_
    refine xP_s rfl rfl rfl ?_
    refine xP_s rfl rfl rfl ?_
    refine xP_s rfl rfl rfl ?_
    refine xP_s rfl rfl rfl ?_
    refine xP_cv rfl rfl rfl rfl rfl (mH_28 hB) (q_named2 (c := 91) (e := 93) hB hn3 (by decide) (by decide) (by decide) (fun _ => by omega) (fun v4 a4 i w1 w2 w3 w4 => ?_))
    have hq4 : zQ v4 a4 (nmA (nmA N [46]) [91, 93]) (Q ++ E) := (z2.mono (fun j u h => nmA_ext h)).same w3 w4 (by decide) (by decide) (by decide) (by decide)
    refine xP_s rfl rfl rfl ?_
    refine xP_cv rfl rfl rfl rfl rfl (mH_28 hB) (q_add (p := nilP) hB hq4 (by rw [List.length_append]; omega) ⟨by decide, rfl, fun h => absurd h (by decide), fun _ => ⟨i, w1, rfl⟩, rfl, by decide⟩ (fun v5 a5 u1 u2 u3 => ?_))
    rw [List.append_assoc, z1] at u1
    have kk := k v5 a5 (w2.same u2 u3 (by decide) (by decide) (by decide) (by decide) (by decide)) u1 (((x3.wide (by decide)).trans (z3.wide (by decide))).trans ((w3.wide (by decide)).trans (u2.wide (by decide)))) ((fr2.trans (z4.wide (by decide))).trans ((w4.wide (by decide)).trans (u3.wide (by decide))))
    repeat' first
      | refine xP_s rfl rfl rfl ?_
      | refine xP_ret rfl rfl rfl ?_
    exact kk)
  unfold xM1
  refine xP_s rfl rfl rfl ?_
  refine xP_zg rfl hB rfl hh.1 ?_
  refine xP_s rfl rfl rfl ?_
  refine xP_s rfl rfl rfl ?_
  refine xP_s rfl rfl rfl ?_
  exact lp
end NE
