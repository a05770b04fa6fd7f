-- the reference: depthIn
def plA (a : Nat → Nat → Int32) : List Nat → Prop
  | [] => True
  | x :: r => a 49 r.length = nI x ∧ x ≤ 1000 ∧ plA a r
theorem plA.same {a a' : Nat → Nat → Int32} : ∀ {S : List Nat}, plA a S → (∀ i, i < S.length → a' 49 i = a 49 i) → plA a' S
  | [], h, hs => trivial
  | x :: r, h, hs => by
    rw [List.length_cons] at hs
    refine ⟨by rw [hs r.length (by omega)]; exact h.1, h.2.1, h.2.2.same (fun i hi => hs i (by omega))⟩
theorem plA.pop {a : Nat → Nat → Int32} : ∀ {S : List Nat}, plA a S → plA a (popZ S)
  | [], h => h
  | 0 :: r, h => h.2.2.pop
  | (x + 1) :: r, h => h
theorem popZ_len : ∀ (S : List Nat), (popZ S).length ≤ S.length
  | [] => Nat.le_refl _
  | 0 :: r => by
    have := popZ_len r
    show (popZ r).length ≤ r.length + 1
    omega
  | (x + 1) :: r => Nat.le_refl _
section NO
variable {sc : xSc} {d g : Nat} {B C : List xC} {o : Nat → Int64} {P : xO → xH → Prop} {v : Nat → Int32} {a : Nat → Nat → Int32} {N : List (List Nat)} {Q : List xIt}
set_option maxRecDepth 100000 in
theorem q_later {x y : Int32} {n : Nat} (hB : B.length = 28) (h37 : v 37 = nI n) (hn : n < 900)
    (k : ∀ v' a', v' 37 = nI (n + 1) → a' 49 = upd (a 49) n x → a' 50 = upd (a 50) n y → vS v v' [37] → aS a a' [49, 50] → P (.inl none) (mH B C v' a' o, g)) : xM1 sc d 181 [.ref 28, .int x, .int y] (mH B C v a o, g) P := by
  unfold xM1
  refine xP_s rfl rfl rfl ?_
  refine xP_get rfl (mH_28 hB) rfl ?_
  refine xP_s rfl rfl rfl ?_
  refine xP_zg rfl hB rfl h37 ?_
  refine xP_s rfl rfl rfl ?_
  refine xP_zs (n := 900) rfl hB rfl rfl hn ?_
  refine xP_s rfl rfl rfl ?_
  refine xP_get rfl (mH_28 hB) rfl ?_
  refine xP_s rfl rfl rfl ?_
  refine xP_zg rfl hB rfl h37 ?_
  refine xP_s rfl rfl rfl ?_
  refine xP_zs (n := 900) rfl hB rfl rfl hn ?_
  refine xP_s rfl rfl rfl ?_
  refine xP_s rfl rfl rfl ?_
  refine xP_zg rfl hB rfl h37 ?_
  refine xP_s rfl rfl rfl ?_
  refine xP_s rfl rfl rfl ?_
  rw [nI_p1]
  refine xP_zp rfl hB rfl rfl ?_
  have f1 : uA a 49 (upd (a 49) n x) 50 = a 50 := uA_n (by decide)
  rw [f1]
  have kk := k (upd v 37 (nI (n + 1))) (uA (uA a 49 (upd (a 49) n x)) 50 (upd (a 50) n y)) upd_s (by rw [uA_n (by decide), uA_s]) uA_s (vS.u _ _ _) (((aS.u a 49 _).wide (by decide)).trans ((aS.u _ 50 _).wide (by decide)))
  repeat' first
    | refine xP_s rfl rfl rfl ?_
    | refine xP_ret rfl rfl rfl ?_
  exact kk
set_option maxRecDepth 100000 in
theorem q_dpPop {x1 x2 x3 x4 : Int32} (hB : B.length = 28) : ∀ (S : List Nat) (v : Nat → Int32), plA a S → v 37 = nI S.length → S.length ≤ 899 →
    (∀ v', v' 37 = nI (popZ S).length → vS v v' [37] → xP sc d 197 50 [(0, .ref 28), (1, .int x1), (2, .int x2), (3, .int x3), (4, .int x4)] [] (mH B C v' a o, g) P) →
    xP sc d 197 16 [(0, .ref 28), (1, .int x1), (2, .int x2), (3, .int x3), (4, .int x4)] [] (mH B C v a o, g) P
  | [], v, hp, h37, hl, k => by
    have kk := k v h37 (vS.refl _ _)
    have h37 : v 37 = 0 := h37
    refine xP_s rfl rfl rfl ?_
    refine xP_zg rfl hB rfl h37 ?_
    refine xP_s rfl rfl rfl ?_
    exact kk
  | 0 :: r, v, hp, h37, hl, k => by
    rw [List.length_cons] at h37 hl
    have hR := toI (r.length + 1) (by omega)
    have c0 : (0 : Int32).toInt = 0 := rfl
    have em : nI (r.length + 1) - 1 = nI r.length := nIm1 (n := r.length + 1) (by omega)
    have h0 : a 49 r.length = 0 := hp.1
    refine xP_s rfl rfl rfl ?_
    refine xP_zg rfl hB rfl h37 ?_
    refine xP_s rfl rfl rfl ?_
    refine xP_if (fun z => ?_) (fun z => ?_)
    · have q := xc_t z
      dsimp only at q
      omega
    · refine xP_s rfl rfl rfl ?_
      refine xP_get rfl (mH_28 hB) rfl ?_
      refine xP_s rfl rfl rfl ?_
      refine xP_zg rfl hB rfl h37 ?_
      refine xP_s rfl rfl rfl ?_
      refine xP_s rfl rfl rfl ?_
      rw [em]
      refine xP_zl (n := 900) rfl hB rfl rfl (by omega) h0 ?_
      refine xP_s rfl rfl rfl ?_
      refine xP_s rfl rfl rfl ?_
      refine xP_s rfl rfl rfl ?_
      refine xP_zg rfl hB rfl h37 ?_
      refine xP_s rfl rfl rfl ?_
      refine xP_s rfl rfl rfl ?_
      rw [em]
      refine xP_zp rfl hB rfl rfl ?_
      refine xP_s rfl rfl rfl ?_
      exact q_dpPop hB r _ hp.2.2 upd_s (by omega) (fun v' y1 y2 => k v' y1 ((vS.u _ _ _).trans y2))
  | (x + 1) :: r, v, hp, h37, hl, k => by
    have kk := k v h37 (vS.refl _ _)
    rw [List.length_cons] at h37 hl
    have hR := toI (r.length + 1) (by omega)
    have hX := toI (x + 1) (by have := hp.2.1; omega)
    have c0 : (0 : Int32).toInt = 0 := rfl
    have em : nI (r.length + 1) - 1 = nI r.length := nIm1 (n := r.length + 1) (by omega)
    refine xP_s rfl rfl rfl ?_
    refine xP_zg rfl hB rfl h37 ?_
    refine xP_s rfl rfl rfl ?_
    refine xP_if (fun z => ?_) (fun z => ?_)
    · have q := xc_t z
      dsimp only at q
      omega
    · refine xP_s rfl rfl rfl ?_
      refine xP_get rfl (mH_28 hB) rfl ?_
      refine xP_s rfl rfl rfl ?_
      refine xP_zg rfl hB rfl h37 ?_
      refine xP_s rfl rfl rfl ?_
      refine xP_s rfl rfl rfl ?_
      rw [em]
      refine xP_zl (n := 900) rfl hB rfl rfl (by omega) hp.1 ?_
      refine xP_s rfl rfl rfl ?_
      refine xP_if (fun z => ?_) (fun z => ?_)
      · exact kk
      · have q := xc_f z
        dsimp only at q
        omega
-- one off the top
set_option maxRecDepth 100000 in
theorem q_dpDec {x1 x2 x3 x4 : Int32} (hB : B.length = 28) : ∀ (S : List Nat), plA a S → v 37 = nI S.length → S.length ≤ 899 → (∀ x r, S = x :: r → 1 ≤ x) →
    (∀ a', plA a' (decT S) → aS a a' [49] → xP sc d 197 72 [(0, .ref 28), (1, .int x1), (2, .int x2), (3, .int x3), (4, .int x4)] [] (mH B C v a' o, g) P) →
    xP sc d 197 50 [(0, .ref 28), (1, .int x1), (2, .int x2), (3, .int x3), (4, .int x4)] [] (mH B C v a o, g) P
  | [], hp, h37, hl, h1, k => by
    have kk := k a hp (aS.refl _ _)
    have h37 : v 37 = 0 := h37
    refine xP_s rfl rfl rfl ?_
    refine xP_zg rfl hB rfl h37 ?_
    refine xP_s rfl rfl rfl ?_
    exact kk
  | x :: r, hp, h37, hl, h1, k => by
    have hx := h1 x r rfl
    rw [List.length_cons] at h37 hl
    have hR := toI (r.length + 1) (by omega)
    have c0 : (0 : Int32).toInt = 0 := rfl
    have em : nI (r.length + 1) - 1 = nI r.length := nIm1 (n := r.length + 1) (by omega)
    have kk := k (uA a 49 (upd (a 49) r.length (nI (x - 1)))) ⟨by rw [uA_s, upd_s], by have := hp.2.1; omega, hp.2.2.same (fun i hi => by rw [uA_s, upd_n (by omega)])⟩ (aS.u _ _ _)
    rw [← nIm1 hx] at kk
    refine xP_s rfl rfl rfl ?_
    refine xP_zg rfl hB rfl h37 ?_
    refine xP_s rfl rfl rfl ?_
    refine xP_if (fun z => ?_) (fun z => ?_)
    · have q := xc_t z
      dsimp only at q
      omega
    · refine xP_s rfl rfl rfl ?_
      refine xP_get rfl (mH_28 hB) rfl ?_
      refine xP_s rfl rfl rfl ?_
      refine xP_zg rfl hB rfl h37 ?_
      refine xP_s rfl rfl rfl ?_
      refine xP_s rfl rfl rfl ?_
      rw [em]
      refine xP_s rfl rfl rfl ?_
      refine xP_zl (n := 900) rfl hB rfl rfl (by omega) hp.1 ?_
      refine xP_s rfl rfl rfl ?_
      refine xP_s rfl rfl rfl ?_
      refine xP_zs (n := 900) rfl hB rfl rfl (by omega) ?_
      exact kk
theorem popZ_top : ∀ (S : List Nat) (x : Nat) (r : List Nat), popZ S = x :: r → 1 ≤ x
  | [], x, r, h => by cases h
  | 0 :: S, x, r, h => popZ_top S x r h
  | (y + 1) :: S, x, r, h => by
    have e : (y + 1) :: S = x :: r := h
    cases e
    omega
set_option maxHeartbeats 4000000 in
set_option maxRecDepth 100000 in
theorem q_dpLoop {x1 : Int32} {to : Nat} (hB : B.length = 28) (hto : to ≤ Q.length) (hql : Q.length ≤ 1000) (hm : ∀ (i : Nat) (p : xIt), Q[i]? = some p → p.2.2.2 ≤ 7) : ∀ (L : List xIt) (k m : Nat) (S : List Nat) (v : Nat → Int32) (a : Nat → Nat → Int32), (Q.take to).drop k = L → k ≤ to → plA a S → v 37 = nI S.length → S.length + L.length ≤ 899 → m ≤ 2000 → (∀ (i : Nat) (p : xIt), Q[i]? = some p → a 41 i = nI p.2.2.2) →
    (∀ v' a', vS v v' [37] → aS a a' [49, 50] → P (.inl (some (.int (nI (dpR L S m))))) (mH B C v' a' o, g)) →
    xP sc (d + 1) 197 10 [(0, .ref 28), (1, .int x1), (2, .int (nI to)), (3, .int (nI m)), (4, .int (nI k))] [] (mH B C v a o, g) P
  | [], k, m, S, v, a, hd, hk, hp, h37, hl, hm2, h41, kk => by
    have hK := toI k (by omega)
    have hT := toI to (by omega)
    have ek : k = to := by
      have := congrArg List.length hd
      rw [List.length_drop, List.length_take, List.length_nil] at this
      omega
    have k2 := kk v a (vS.refl _ _) (aS.refl _ _)
    refine xP_s rfl rfl rfl ?_
    refine xP_s rfl rfl rfl ?_
    refine xP_s rfl rfl rfl ?_
    refine xP_if (fun z => ?_) (fun z => ?_)
    · repeat' first
        | refine xP_s rfl rfl rfl ?_
        | refine xP_ret rfl rfl rfl ?_
      exact k2
    · have q := xc_f z
      dsimp only at q
      omega
  | p :: L, k, m, S, v, a, hd, hk, hp, h37, hl, hm2, h41, kk => by
    have hkl : k < to := by
      have := congrArg List.length hd
      rw [List.length_drop, List.length_take, List.length_cons] at this
      omega
    have hpk : Q[k]? = some p := by
      have := congrArg (fun l => l[0]?) hd
      simp only [List.getElem?_drop, Nat.add_zero, List.getElem?_cons_zero] at this
      rwa [List.getElem?_take, if_pos hkl] at this
    have hd1 : (Q.take to).drop (k + 1) = L := by
      have := congrArg List.tail hd
      rwa [List.tail_drop] at this
    rw [List.length_cons] at hl
    have hK := toI k (by omega)
    have hT := toI to (by omega)
    have hM := toI m (by omega)
    have hp7 := hm k p hpk
    have hAr := toI p.2.2.2 (by omega)
    have c0 : (0 : Int32).toInt = 0 := rfl
    refine xP_s rfl rfl rfl ?_
    refine xP_s rfl rfl rfl ?_
    refine xP_s rfl rfl rfl ?_
    refine xP_if (fun z => ?_) (fun z => ?_)
    · have q := xc_t z
      dsimp only at q
      omega
    · refine q_dpPop hB S v hp h37 (by omega) (fun v1 y1 y2 => ?_)
      have hz := popZ_len S
      refine q_dpDec hB (popZ S) hp.pop y1 (by omega) (fun x r h => popZ_top S x r h) (fun a1 w1 w2 => ?_)
      have hdl := decT_len (popZ S)
      rw [← hdl] at y1
      have g41 : a1 41 k = nI p.2.2.2 := by rw [w2 41 (by decide)]; exact h41 k p hpk
      have hDl := toI ((decT (popZ S)).length + 1) (by omega)
      -- with the deepest known
      have at92 : xP sc (d + 1) 197 92 [(0, .ref 28), (1, .int x1), (2, .int (nI to)), (3, .int (nI m)), (4, .int (nI k))] [.int (nI (max m ((decT (popZ S)).length + 1)))] (mH B C v1 a1 o, g) P := by
        refine xP_s rfl rfl rfl ?_
        refine xP_s rfl rfl rfl ?_
        refine xP_get rfl (mH_28 hB) rfl ?_
        refine xP_s rfl rfl rfl ?_
        refine xP_zl (n := 1000) rfl hB rfl rfl (by omega) g41 ?_
        refine xP_s rfl rfl rfl ?_
        refine xP_if (fun z => ?_) (fun z => ?_)
        · have q := xc_t z
          dsimp only at q
          have e0 : p.2.2.2 = 0 := by omega
          have go := q_dpLoop (x1 := x1) hB hto hql hm L (k + 1) (max m ((decT (popZ S)).length + 1)) (decT (popZ S)) v1 a1 hd1 (by omega) w1 y1 (by omega) (by omega) (fun i p hi => by rw [w2 41 (by decide)]; exact h41 i p hi) (fun v' a' q1 q2 => by
            have := kk v' a' (y2.trans q1) ((w2.wide (by decide)).trans q2)
            unfold dpR at this
            rw [if_pos e0] at this
            exact this)
          rw [← nI_p1 k] at go
          refine xP_s rfl rfl rfl ?_
          refine xP_s rfl rfl rfl ?_
          exact go
        · have q := xc_f z
          dsimp only at q
          have e0 : ¬ p.2.2.2 = 0 := by omega
          refine xP_s rfl rfl rfl ?_
          refine xP_s rfl rfl rfl ?_
          refine xP_get rfl (mH_28 hB) rfl ?_
          refine xP_s rfl rfl rfl ?_
          refine xP_zl (n := 1000) rfl hB rfl rfl (by omega) g41 ?_
          refine xP_s rfl rfl rfl ?_
          refine xP_cv rfl rfl rfl rfl rfl (mH_28 hB) (q_later hB y1 (by omega) (fun v2 a2 u1 u2 u3 u4 u5 => ?_))
          have go := q_dpLoop (x1 := x1) hB hto hql hm L (k + 1) (max m ((decT (popZ S)).length + 1)) (p.2.2.2 :: decT (popZ S)) v2 a2 hd1 (by omega) ⟨by rw [u2, upd_s], by omega, w1.same (fun i hi => by rw [u2, upd_n (by omega)])⟩ u1 (by rw [List.length_cons]; omega) (by omega) (fun i p hi => by rw [u5 41 (by decide), w2 41 (by decide)]; exact h41 i p hi) (fun v' a' q1 q2 => by
            have := kk v' a' ((y2.trans u4).trans q1) (((w2.wide (by decide)).trans u5).trans q2)
            unfold dpR at this
            rw [if_neg e0] at this
            exact this)
          rw [← nI_p1 k] at go
          refine xP_s rfl rfl rfl ?_
          refine xP_s rfl rfl rfl ?_
          exact go
      refine xP_s rfl rfl rfl ?_
      refine xP_zg rfl hB rfl y1 ?_
      refine xP_s rfl rfl rfl ?_
      refine xP_s rfl rfl rfl ?_
      rw [nI_p1]
      refine xP_s rfl rfl rfl ?_
      refine xP_s rfl rfl rfl ?_
      refine xP_if (fun z => ?_) (fun z => ?_)
      · have q := xc_t z
        dsimp only at q
        rw [Nat.max_eq_left (by omega)] at at92
        refine xP_s rfl rfl rfl ?_
        exact at92
      · have q := xc_f z
        dsimp only at q
        rw [Nat.max_eq_right (by omega)] at at92
        refine xP_s rfl rfl rfl ?_
        refine xP_zg rfl hB rfl y1 ?_
        refine xP_s rfl rfl rfl ?_
        refine xP_s rfl rfl rfl ?_
        rw [nI_p1]
        refine xP_s rfl rfl rfl ?_
        exact at92
set_option maxRecDepth 100000 in
theorem q_depthIn {fr to : Nat} {D : Nat} (hB : B.length = 28) (hq : zQ v a N Q) (hf : fr ≤ to) (hto : to ≤ Q.length) (hl : to - fr ≤ 899) (hD : dT D ((Q.take to).drop fr))
    (k : ∀ v' a', vS v v' [37] → aS a a' [49, 50] → P (.inl (some (.int (nI D)))) (mH B C v' a' o, g)) : xM1 sc (d + 1) 197 [.ref 28, .int (nI fr), .int (nI to)] (mH B C v a o, g) P := by
  have e := dpR_D hD
  have h1 := dT_1 hD
  rw [Nat.max_eq_right h1] at e
  have go := q_dpLoop (x1 := nI fr) (sc := sc) (d := d) (C := C) (o := o) (g := g) (P := P) hB hto hq.2.1 (fun i p hp => (hq.2.2 i p hp).2.2.2.2.2) ((Q.take to).drop fr) fr 1 [] (upd v 37 0) a rfl hf trivial upd_s (by rw [List.length_drop, List.length_take, List.length_nil]; omega) (by decide) (fun i p hp => (hq.2.2 i p hp).2.2.2.2.1) (fun v' a' q1 q2 => by
    rw [e]
    exact k v' a' ((vS.u _ _ _).trans q1) q2)
  unfold xM1
  refine xP_s rfl rfl rfl ?_
  refine xP_s rfl rfl rfl ?_
  refine xP_s rfl rfl rfl ?_
  refine xP_s rfl rfl rfl ?_
  refine xP_zp rfl hB rfl rfl ?_
  refine xP_s rfl rfl rfl ?_
  refine xP_s rfl rfl rfl ?_
  exact go
end NO
