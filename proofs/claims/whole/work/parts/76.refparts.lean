-- the reference: parts, frames
theorem nmA_ext {N : List (List Nat)} {w u : List Nat} {j : Nat} (h : N[j]? = some u) : (nmA N w)[j]? = some u := by
  unfold nmA
  split
  · exact h
  · rw [List.getElem?_append_left (List.getElem?_eq_some_iff.mp h).1]
    exact h
/-- one part as the reference keeps it -/
def zP (N : List (List Nat)) (x y z : Int32) (p : xIt) : Prop := p.1 ≤ 3 ∧ x = nI p.1 ∧ (p.1 < 2 → y.toInt = p.2.1) ∧ (2 ≤ p.1 → ∃ j, N[j]? = some p.2.2.1 ∧ y = nI j) ∧ z = nI p.2.2.2 ∧ p.2.2.2 ≤ 7
theorem zP.mono {N N' : List (List Nat)} {x y z : Int32} {p : xIt} (h : zP N x y z p) (hN : ∀ (j : Nat) u, N[j]? = some u → N'[j]? = some u) : zP N' x y z p := by
  obtain ⟨h1, h2, h3, h4, h5, h6⟩ := h
  exact ⟨h1, h2, h3, fun q => by
    obtain ⟨j, g1, g2⟩ := h4 q
    exact ⟨j, hN j _ g1, g2⟩, h5, h6⟩
def zQ (v : Nat → Int32) (a : Nat → Nat → Int32) (N : List (List Nat)) (Q : List xIt) : Prop := v 16 = nI Q.length ∧ Q.length ≤ 1000 ∧ ∀ (i : Nat) (p : xIt), Q[i]? = some p → zP N (a 39 i) (a 40 i) (a 41 i) p
theorem zQ.same {v v' : Nat → Int32} {a a' : Nat → Nat → Int32} {N : List (List Nat)} {Q : List xIt} {l m : List Nat} (h : zQ v a N Q) (hv : vS v v' l) (ha : aS a a' m) (h1 : 16 ∉ l) (h2 : 39 ∉ m) (h3 : 40 ∉ m) (h4 : 41 ∉ m) : zQ v' a' N Q := by
  unfold zQ at h ⊢
  rw [hv 16 h1, ha 39 h2, ha 40 h3, ha 41 h4]
  exact h
theorem zQ.mono {v : Nat → Int32} {a : Nat → Nat → Int32} {N N' : List (List Nat)} {Q : List xIt} (h : zQ v a N Q) (hN : ∀ (j : Nat) u, N[j]? = some u → N'[j]? = some u) : zQ v a N' Q := ⟨h.1, h.2.1, fun i p hp => (h.2.2 i p hp).mono hN⟩
abbrev xFr : Type := Int × Nat × Int × Nat × Nat
/-- the frames, the innermost last -/
def zF (v : Nat → Int32) (a : Nat → Nat → Int32) (F : List xFr) : Prop := v 29 = nI F.length ∧ F.length ≤ 11 ∧ ∀ (i : Nat) (f : xFr), F[i]? = some f → (a 43 i).toInt = f.1 ∧ a 44 i = nI f.2.1 ∧ (a 45 i).toInt = f.2.2.1 ∧ a 46 i = nI f.2.2.2.1 ∧ a 47 i = nI f.2.2.2.2 ∧ f.2.1 ≤ 1000 ∧ f.2.2.2.1 ≤ 7 ∧ f.2.2.2.2 ≤ 2000
theorem zF.same {v v' : Nat → Int32} {a a' : Nat → Nat → Int32} {F : List xFr} {l m : List Nat} (h : zF v a F) (hv : vS v v' l) (ha : aS a a' m) (h1 : 29 ∉ l) (h2 : 43 ∉ m) (h3 : 44 ∉ m) (h4 : 45 ∉ m) (h5 : 46 ∉ m) (h6 : 47 ∉ m) : zF v' a' F := by
  unfold zF at h ⊢
  rw [hv 29 h1, ha 43 h2, ha 44 h3, ha 45 h4, ha 46 h5, ha 47 h6]
  exact h
theorem ap_c {α : Type} {l : List α} {x y : α} {i : Nat} (h : (l ++ [x])[i]? = some y) : (i < l.length ∧ l[i]? = some y) ∨ (i = l.length ∧ y = x) := by
  rcases Nat.lt_or_ge i l.length with z | z
  · rw [List.getElem?_append_left z] at h
    exact Or.inl ⟨z, h⟩
  · have hi := (List.getElem?_eq_some_iff.mp h).1
    rw [List.length_append, List.length_singleton] at hi
    have e : i = l.length := by omega
    subst e
    simp at h
    exact Or.inr ⟨rfl, h.symm⟩
section ND
variable {sc : xSc} {d g : Nat} {A B C : List xC} {v : Nat → Int32} {a : Nat → Nat → Int32} {o : Nat → Int64} {P : xO → xH → Prop} {N : List (List Nat)} {w t : List Nat} {Q : List xIt} {F : List xFr}
theorem u3 {f g h : Nat → Int32} : uA (uA (uA a 39 f) 40 g) 41 h 39 = f ∧ uA (uA (uA a 39 f) 40 g) 41 h 40 = g ∧ uA (uA (uA a 39 f) 40 g) 41 h 41 = h := by
  refine ⟨?_, ?_, ?_⟩
  · rw [uA_n (by decide), uA_n (by decide), uA_s]
  · rw [uA_n (by decide), uA_s]
  · rw [uA_s]
theorem aS3 (f g h : Nat → Int32) : aS a (uA (uA (uA a 39 f) 40 g) 41 h) [39, 40, 41] := (((aS.u a 39 f).wide (by decide)).trans ((aS.u _ 40 g).wide (by decide))).trans ((aS.u _ 41 h).wide (by decide))
set_option maxRecDepth 100000 in
theorem q_add {x y z : Int32} {p : xIt} (hB : B.length = 28) (hq : zQ v a N Q) (hl : Q.length < 1000) (hp : zP N x y z p)
    (k : ∀ v' a', zQ v' a' N (Q ++ [p]) → vS v v' [16] → aS a a' [39, 40, 41] → P (.inl (some (.int (nI Q.length)))) (mH B C v' a' o, g)) : xM1 sc d 167 [.ref 28, .int x, .int y, .int z] (mH B C v a o, g) P := by
  obtain ⟨h1, h2, h3⟩ := hq
  have e1 : nI (Q.length + 1) - 1 = nI Q.length := nI_subN (a := Q.length + 1) (b := 1) (by omega)
  unfold xM1
  refine xP_s rfl rfl rfl ?_
  refine xP_get rfl (mH_28 hB) rfl ?_
  refine xP_s rfl rfl rfl ?_
  refine xP_zg rfl hB rfl h1 ?_
  refine xP_s rfl rfl rfl ?_
  refine xP_zs (n := 1000) rfl hB rfl rfl hl ?_
  refine xP_s rfl rfl rfl ?_
  refine xP_get rfl (mH_28 hB) rfl ?_
  refine xP_s rfl rfl rfl ?_
  refine xP_zg rfl hB rfl h1 ?_
  refine xP_s rfl rfl rfl ?_
  refine xP_zs (n := 1000) rfl hB rfl rfl hl ?_
  refine xP_s rfl rfl rfl ?_
  refine xP_get rfl (mH_28 hB) rfl ?_
  refine xP_s rfl rfl rfl ?_
  refine xP_zg rfl hB rfl h1 ?_
  refine xP_s rfl rfl rfl ?_
  refine xP_zs (n := 1000) rfl hB rfl rfl hl ?_
  refine xP_s rfl rfl rfl ?_
  refine xP_s rfl rfl rfl ?_
  refine xP_zg rfl hB rfl h1 ?_
  refine xP_s rfl rfl rfl ?_
  refine xP_s rfl rfl rfl ?_
  rw [nI_p1]
  refine xP_zp rfl hB rfl rfl ?_
  refine xP_s rfl rfl rfl ?_
  refine xP_zg rfl hB rfl upd_s ?_
  have kk := k (upd v 16 (nI (Q.length + 1))) (uA (uA (uA a 39 (upd (a 39) Q.length x)) 40 (upd (a 40) Q.length y)) 41 (upd (a 41) Q.length z)) ⟨by rw [upd_s, List.length_append]; rfl, by rw [List.length_append, List.length_singleton]; omega, fun i r hr => by
    rw [u3.1, u3.2.1, u3.2.2]
    rcases ap_c hr with ⟨y1, y2⟩ | ⟨y1, y2⟩
    · rw [upd_n (by omega), upd_n (by omega), upd_n (by omega)]
      exact h3 i r y2
    · rw [y1, y2, upd_s, upd_s, upd_s]
      exact hp⟩ (vS.u _ _ _) (aS3 _ _ _)
  rw [← e1] at kk
  have f1 : uA a 39 (upd (a 39) Q.length x) 40 = a 40 := uA_n (by decide)
  have f2 : uA (uA a 39 (upd (a 39) Q.length x)) 40 (upd (a 40) Q.length y) 41 = a 41 := by rw [uA_n (by decide), uA_n (by decide)]
  rw [f1, f2]
  repeat' first
    | refine xP_s rfl rfl rfl ?_
    | refine xP_ret rfl rfl rfl ?_
  exact kk
/-- rows moved up by one from f on, as far as k -/
def mvd (a a' : Nat → Nat → Int32) (n k : Nat) : Prop := ∀ j, (j = 39 ∨ j = 40 ∨ j = 41) → (∀ i, i ≤ k → a' j i = a j i) ∧ (∀ i, k < i → i ≤ n → a' j i = a j (i - 1))
theorem nIm1 {n : Nat} (h : 1 ≤ n) : nI n - 1 = nI (n - 1) := nI_subN (a := n) (b := 1) h
theorem nIm1' {n : Nat} (h : 1 ≤ n) : nI n + -1 = nI (n - 1) := by
  rw [← nIm1 h, Int32.sub_eq_add_neg]
set_option maxRecDepth 100000 in
theorem q_aheadLoop {f : Nat} {x2 x3 : Int32} (hB : B.length = 28) {n : Nat} (hn : n < 1000) : ∀ (m : Nat) (k : Nat) (a' : Nat → Nat → Int32), k = f + m → k ≤ n → mvd a a' n k → aS a a' [39, 40, 41] →
    (∀ a2, mvd a a2 n f → aS a a2 [39, 40, 41] → xP sc d 168 66 [(0, .ref 28), (1, .int (nI f)), (2, .int x2), (3, .int x3)] [] (mH B C v a2 o, g) P) →
    xP sc d 168 6 [(0, .ref 28), (1, .int (nI f)), (2, .int x2), (3, .int x3), (4, .int (nI k))] [] (mH B C v a' o, g) P
  | 0, k, a', hk, hkn, hm, ha, kk => by
    have hK := toI k (by omega)
    have hF := toI f (by omega)
    refine xP_s rfl rfl rfl ?_
    refine xP_s rfl rfl rfl ?_
    refine xP_s rfl rfl rfl ?_
    refine xP_if (fun hq => ?_) (fun hq => ?_)
    · have ek : k = f := by omega
      rw [ek] at hm
      exact xP_more [(4, .int (nI k))] rfl (kk a' hm ha)
    · have z := xc_f hq
      dsimp only at z
      omega
  | m + 1, k, a', hk, hkn, hm, ha, kk => by
    have hK := toI k (by omega)
    have hF := toI f (by omega)
    have ek := nIm1 (n := k) (by omega)
    have ek' := nIm1' (n := k) (by omega)
    have hm2 : mvd a (uA (uA (uA a' 39 (upd (a' 39) k (a' 39 (k - 1)))) 40 (upd (a' 40) k (a' 40 (k - 1)))) 41 (upd (a' 41) k (a' 41 (k - 1)))) n (k - 1) := by
      intro j hj
      have hmj := hm j hj
      have e : (uA (uA (uA a' 39 (upd (a' 39) k (a' 39 (k - 1)))) 40 (upd (a' 40) k (a' 40 (k - 1)))) 41 (upd (a' 41) k (a' 41 (k - 1)))) j = upd (a' j) k (a' j (k - 1)) := by
        rcases hj with rfl | rfl | rfl
        · exact u3.1
        · exact u3.2.1
        · exact u3.2.2
      rw [e]
      refine ⟨fun i hi => ?_, fun i hi hin => ?_⟩
      · rw [upd_n (by omega)]
        exact hmj.1 i (by omega)
      · rcases Nat.lt_or_ge k i with y | y
        · rw [upd_n (by omega)]
          exact hmj.2 i y hin
        · rw [show i = k by omega, upd_s]
          exact hmj.1 (k - 1) (by omega)
    have go := q_aheadLoop (x2 := x2) (x3 := x3) hB hn m (k - 1) _ (by omega) (by omega) hm2 (ha.trans (aS3 _ _ _)) kk
    rw [← ek'] at go
    have f1 : ∀ z, uA a' 39 z 40 = a' 40 := fun z => uA_n (by decide)
    have f2 : ∀ z y, uA (uA a' 39 z) 40 y 41 = a' 41 := fun z y => by rw [uA_n (by decide), uA_n (by decide)]
    refine xP_s rfl rfl rfl ?_
    refine xP_s rfl rfl rfl ?_
    refine xP_s rfl rfl rfl ?_
    refine xP_if (fun hq => ?_) (fun hq => ?_)
    · have z := xc_t hq
      dsimp only at z
      omega
    · refine xP_s rfl rfl rfl ?_
      refine xP_get rfl (mH_28 hB) rfl ?_
      refine xP_s rfl rfl rfl ?_
      refine xP_s rfl rfl rfl ?_
      refine xP_get rfl (mH_28 hB) rfl ?_
      refine xP_s rfl rfl rfl ?_
      refine xP_s rfl rfl rfl ?_
      refine xP_s rfl rfl rfl ?_
      rw [ek]
      refine xP_zl (n := 1000) rfl hB rfl rfl (by omega) rfl ?_
      refine xP_zs (n := 1000) rfl hB rfl rfl (by omega) ?_
      refine xP_s rfl rfl rfl ?_
      refine xP_get rfl (mH_28 hB) rfl ?_
      refine xP_s rfl rfl rfl ?_
      refine xP_s rfl rfl rfl ?_
      refine xP_get rfl (mH_28 hB) rfl ?_
      refine xP_s rfl rfl rfl ?_
      refine xP_s rfl rfl rfl ?_
      refine xP_s rfl rfl rfl ?_
      rw [ek]
      refine xP_zl (n := 1000) rfl hB rfl rfl (by omega) (congrFun (f1 _) (k - 1)) ?_
      refine xP_zs (n := 1000) rfl hB rfl rfl (by omega) ?_
      rw [f1]
      refine xP_s rfl rfl rfl ?_
      refine xP_get rfl (mH_28 hB) rfl ?_
      refine xP_s rfl rfl rfl ?_
      refine xP_s rfl rfl rfl ?_
      refine xP_get rfl (mH_28 hB) rfl ?_
      refine xP_s rfl rfl rfl ?_
      refine xP_s rfl rfl rfl ?_
      refine xP_s rfl rfl rfl ?_
      rw [ek]
      refine xP_zl (n := 1000) rfl hB rfl rfl (by omega) (congrFun (f2 _ _) (k - 1)) ?_
      refine xP_zs (n := 1000) rfl hB rfl rfl (by omega) ?_
      rw [f2]
      refine xP_s rfl rfl rfl ?_
      refine xP_s rfl rfl rfl ?_
      exact go
theorem ins_c {α : Type} {l : List α} {x y : α} {f i : Nat} (hf : f ≤ l.length) (h : (l.take f ++ x :: l.drop f)[i]? = some y) : (i < f ∧ l[i]? = some y) ∨ (i = f ∧ y = x) ∨ (f < i ∧ l[i - 1]? = some y) := by
  have e : (l.take f).length = f := by rw [List.length_take]; omega
  rcases Nat.lt_trichotomy i f with z | z | z
  · rw [List.getElem?_append_left (by omega), List.getElem?_take, if_pos z] at h
    exact Or.inl ⟨z, h⟩
  · rw [List.getElem?_append_right (by omega), e, z, Nat.sub_self] at h
    simp at h
    exact Or.inr (Or.inl ⟨z, h.symm⟩)
  · rw [List.getElem?_append_right (by omega), e, show i - f = (i - f - 1) + 1 by omega, List.getElem?_cons_succ, List.getElem?_drop, show f + (i - f - 1) = i - 1 by omega] at h
    exact Or.inr (Or.inr ⟨z, h⟩)
set_option maxRecDepth 100000 in
theorem q_ahead {f : Nat} {x2 x3 : Int32} {p : xIt} (hB : B.length = 28) (hq : zQ v a N Q) (hl : Q.length < 1000) (hf : f ≤ Q.length) (hp : zP N 3 x2 x3 p)
    (k : ∀ v' a', zQ v' a' N (Q.take f ++ p :: Q.drop f) → vS v v' [16] → aS a a' [39, 40, 41] → P (.inl none) (mH B C v' a' o, g)) : xM1 sc d 168 [.ref 28, .int (nI f), .int x2, .int x3] (mH B C v a o, g) P := by
  obtain ⟨h1, h2, h3⟩ := hq
  have lp := q_aheadLoop (sc := sc) (d := d) (v := v) (C := C) (o := o) (g := g) (P := P) (a := a) (f := f) (x2 := x2) (x3 := x3) hB hl (Q.length - f) Q.length a (by omega) (by omega) (fun j _ => ⟨fun i _ => rfl, fun i y1 y2 => by omega⟩) (aS.refl _ _) (fun a2 y1 y2 => by
    refine xP_s rfl rfl rfl ?_
    refine xP_get rfl (mH_28 hB) rfl ?_
    refine xP_s rfl rfl rfl ?_
    refine xP_s rfl rfl rfl ?_
    refine xP_zs (n := 1000) rfl hB rfl rfl (by omega) ?_
    refine xP_s rfl rfl rfl ?_
    refine xP_get rfl (mH_28 hB) rfl ?_
    refine xP_s rfl rfl rfl ?_
    refine xP_s rfl rfl rfl ?_
    refine xP_zs (n := 1000) rfl hB rfl rfl (by omega) ?_
    refine xP_s rfl rfl rfl ?_
    refine xP_get rfl (mH_28 hB) rfl ?_
    refine xP_s rfl rfl rfl ?_
    refine xP_s rfl rfl rfl ?_
    refine xP_zs (n := 1000) rfl hB rfl rfl (by omega) ?_
    have f1 : ∀ z, uA a2 39 z 40 = a2 40 := fun z => uA_n (by decide)
    have f2 : ∀ z y, uA (uA a2 39 z) 40 y 41 = a2 41 := fun z y => by rw [uA_n (by decide), uA_n (by decide)]
    rw [f1, f2]
    have kk := k (upd v 16 (nI (Q.length + 1))) (uA (uA (uA a2 39 (upd (a2 39) f 3)) 40 (upd (a2 40) f x2)) 41 (upd (a2 41) f x3)) ⟨by
        rw [upd_s, List.length_append, List.length_cons, List.length_take, List.length_drop, Nat.min_eq_left hf]
        congr 1
        omega, by
        rw [List.length_append, List.length_cons, List.length_take, List.length_drop, Nat.min_eq_left hf]
        omega, fun i r hr => by
        rw [u3.1, u3.2.1, u3.2.2]
        rcases ins_c hf hr with ⟨z1, z2⟩ | ⟨z1, z2⟩ | ⟨z1, z2⟩
        · rw [upd_n (by omega), upd_n (by omega), upd_n (by omega), (y1 39 (by simp)).1 i (by omega), (y1 40 (by simp)).1 i (by omega), (y1 41 (by simp)).1 i (by omega)]
          exact h3 i r z2
        · rw [z1, z2, upd_s, upd_s, upd_s]
          exact hp
        · have hi := (List.getElem?_eq_some_iff.mp z2).1
          rw [upd_n (by omega), upd_n (by omega), upd_n (by omega), (y1 39 (by simp)).2 i z1 (by omega), (y1 40 (by simp)).2 i z1 (by omega), (y1 41 (by simp)).2 i z1 (by omega)]
          exact h3 (i - 1) r z2⟩ (vS.u _ _ _) (y2.trans (aS3 _ _ _))
    refine xP_s rfl rfl rfl ?_
    refine xP_s rfl rfl rfl ?_
    refine xP_zg rfl hB rfl h1 ?_
    refine xP_s rfl rfl rfl ?_
    refine xP_s rfl rfl rfl ?_
    rw [nI_p1]
    refine xP_zp rfl hB rfl rfl ?_
    repeat' first
      | refine xP_s rfl rfl rfl ?_
      | refine xP_ret rfl rfl rfl ?_
    exact kk)
  unfold xM1
  refine xP_s rfl rfl rfl ?_
  refine xP_zg rfl hB rfl h1 ?_
  refine xP_s rfl rfl rfl ?_
  exact lp
theorem u5 {f1 f2 f3 f4 f5 : Nat → Int32} {j : Nat} : uA (uA (uA (uA (uA a 43 f1) 44 f2) 45 f3) 46 f4) 47 f5 j = if j = 47 then f5 else if j = 46 then f4 else if j = 45 then f3 else if j = 44 then f2 else if j = 43 then f1 else a j := by
  simp only [uA]
theorem aS5 (f1 f2 f3 f4 f5 : Nat → Int32) : aS a (uA (uA (uA (uA (uA a 43 f1) 44 f2) 45 f3) 46 f4) 47 f5) [43, 44, 45, 46, 47] := ((((aS.u a 43 f1).wide (by decide)).trans ((aS.u _ 44 f2).wide (by decide))).trans ((aS.u _ 45 f3).wide (by decide))).trans (((aS.u _ 46 f4).wide (by decide)).trans ((aS.u _ 47 f5).wide (by decide)))
set_option maxHeartbeats 4000000 in
set_option maxRecDepth 100000 in
theorem q_enter {x1 : Int32} {pu ow : Nat} (hB : B.length = 28) (hf : zF v a F) (hq : v 16 = nI Q.length) (hql : Q.length ≤ 1000) (hpu : pu ≤ 7) (how : ow ≤ 2000)
    (k1 : F.length ≤ 10 → ∀ v' a', zF v' a' (F ++ [(x1.toInt, Q.length, -1, pu, ow)]) → vS v v' [29] → aS a a' [43, 44, 45, 46, 47] → P (.inl none) (mH B C v' a' o, g))
    (k0 : 10 < F.length → ∀ v', v' 28 = 1 → vS v v' [28] → P (.inl none) (mH B C v' a o, g)) : xM1 sc d 169 [.ref 28, .int x1, .int (nI pu), .int (nI ow)] (mH B C v a o, g) P := by
  obtain ⟨h1, h2, h3⟩ := hf
  have hL := toI F.length (by omega)
  have c10 : (10 : Int32).toInt = 10 := rfl
  unfold xM1
  refine xP_s rfl rfl rfl ?_
  refine xP_zg rfl hB rfl h1 ?_
  refine xP_s rfl rfl rfl ?_
  refine xP_s rfl rfl rfl ?_
  refine xP_if (fun hc => ?_) (fun hc => ?_)
  · have z := xc_t hc
    dsimp only at z
    refine xP_s rfl rfl rfl ?_
    refine xP_get rfl (mH_28 hB) rfl ?_
    refine xP_s rfl rfl rfl ?_
    refine xP_zg rfl hB rfl h1 ?_
    refine xP_s rfl rfl rfl ?_
    refine xP_zs (n := 32) rfl hB rfl rfl (by omega) ?_
    refine xP_s rfl rfl rfl ?_
    refine xP_get rfl (mH_28 hB) rfl ?_
    refine xP_s rfl rfl rfl ?_
    refine xP_zg rfl hB rfl h1 ?_
    refine xP_s rfl rfl rfl ?_
    refine xP_zg rfl hB rfl hq ?_
    refine xP_zs (n := 32) rfl hB rfl rfl (by omega) ?_
    refine xP_s rfl rfl rfl ?_
    refine xP_get rfl (mH_28 hB) rfl ?_
    refine xP_s rfl rfl rfl ?_
    refine xP_zg rfl hB rfl h1 ?_
    refine xP_s rfl rfl rfl ?_
    refine xP_zs (n := 32) rfl hB rfl rfl (by omega) ?_
    refine xP_s rfl rfl rfl ?_
    refine xP_get rfl (mH_28 hB) rfl ?_
    refine xP_s rfl rfl rfl ?_
    refine xP_zg rfl hB rfl h1 ?_
    refine xP_s rfl rfl rfl ?_
    refine xP_zs (n := 32) rfl hB rfl rfl (by omega) ?_
    refine xP_s rfl rfl rfl ?_
    refine xP_get rfl (mH_28 hB) rfl ?_
    refine xP_s rfl rfl rfl ?_
    refine xP_zg rfl hB rfl h1 ?_
    refine xP_s rfl rfl rfl ?_
    refine xP_zs (n := 32) rfl hB rfl rfl (by omega) ?_
    refine xP_s rfl rfl rfl ?_
    refine xP_s rfl rfl rfl ?_
    refine xP_zg rfl hB rfl h1 ?_
    refine xP_s rfl rfl rfl ?_
    refine xP_s rfl rfl rfl ?_
    rw [nI_p1]
    refine xP_zp rfl hB rfl rfl ?_
    have g2 : ∀ z, uA a 43 z 44 = a 44 := fun z => uA_n (by decide)
    have g3 : ∀ z y, uA (uA a 43 z) 44 y 45 = a 45 := fun z y => by rw [uA_n (by decide), uA_n (by decide)]
    have g4 : ∀ z y x, uA (uA (uA a 43 z) 44 y) 45 x 46 = a 46 := fun z y x => by rw [uA_n (by decide), uA_n (by decide), uA_n (by decide)]
    have g5 : ∀ z y x w, uA (uA (uA (uA a 43 z) 44 y) 45 x) 46 w 47 = a 47 := fun z y x w => by rw [uA_n (by decide), uA_n (by decide), uA_n (by decide), uA_n (by decide)]
    rw [g2, g3, g4, g5]
    have kk := k1 (by omega) (upd v 29 (nI (F.length + 1))) (uA (uA (uA (uA (uA a 43 (upd (a 43) F.length x1)) 44 (upd (a 44) F.length (nI Q.length))) 45 (upd (a 45) F.length (-1))) 46 (upd (a 46) F.length (nI pu))) 47 (upd (a 47) F.length (nI ow))) ⟨by rw [upd_s, List.length_append]; rfl, by rw [List.length_append, List.length_singleton]; omega, fun i f hi => by
      rw [u5, u5, u5, u5, u5]
      simp only [if_pos, Nat.reduceEqDiff, if_false]
      rcases ap_c hi with ⟨y1, y2⟩ | ⟨y1, y2⟩
      · rw [upd_n (by omega), upd_n (by omega), upd_n (by omega), upd_n (by omega), upd_n (by omega)]
        exact h3 i f y2
      · rw [y1, y2, upd_s, upd_s, upd_s, upd_s, upd_s]
        exact ⟨rfl, rfl, rfl, rfl, rfl, hql, hpu, how⟩⟩ (vS.u _ _ _) (aS5 _ _ _ _ _)
    repeat' first
      | refine xP_s rfl rfl rfl ?_
      | refine xP_ret rfl rfl rfl ?_
    exact kk
  · have z := xc_f hc
    dsimp only at z
    refine xP_s rfl rfl rfl ?_
    refine xP_s rfl rfl rfl ?_
    refine xP_zp rfl hB rfl rfl ?_
    have kk := k0 (by omega) _ upd_s (vS.u v 28 1)
    repeat' first
      | refine xP_s rfl rfl rfl ?_
      | refine xP_ret rfl rfl rfl ?_
    exact kk
end ND
