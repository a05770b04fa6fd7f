-- terms as lists of parts: where one ends; terms that are the same
/-- what is left behind n terms -/
def sk : List xIt → Nat → List xIt
  | [], _ => []
  | p :: L, 0 => p :: L
  | p :: L, n + 1 => sk L (n + p.2.2.2)
theorem sk_0 (L : List xIt) : sk L 0 = L := by cases L <;> rfl
/-- one term -/
def isTm (L : List xIt) : Prop := ∀ n R, sk (L ++ R) (n + 1) = sk R n
theorem xCh.tm {F : xF} {T : Nat → Nat → List xIt → Prop} (hT : ∀ a b l, T a b l → isTm l) : ∀ {k : Nat} {x : Int32} {lo hi : Nat} {L : List xIt}, xCh F T k x lo hi L → ∀ n R, sk (L ++ R) (n + k) = sk R n
  | 0, x, lo, hi, L, h, n, R => by
    rw [h.2]
    rfl
  | k + 1, x, lo, hi, L, h, n, R => by
    obtain ⟨a, b, L1, L2, _, _, _, _, q5, q6, q7⟩ := h
    rw [q6, List.append_assoc, show n + (k + 1) = (n + k) + 1 by omega, hT _ _ _ q5]
    exact q7.tm hT n R
theorem xTr.tm {F : xF} {nm : List Nat} : ∀ {e lo hi : Nat} {L : List xIt}, xTr F nm e lo hi L → isTm L
  | 0, _, _, _, h => h.elim
  | e + 1, lo, hi, L, h => by
    obtain ⟨_, p, L1, h1, _, _, h4⟩ := h
    intro n R
    rw [h1, List.cons_append, sk]
    exact h4.tm (fun a b l ht => ht.tm) n R
theorem isTm.cancel {L M R S : List xIt} (hL : isTm L) (hM : isTm M) (h : L ++ R = M ++ S) : L = M ∧ R = S := by
  have h1 := hL 0 R
  have h2 := hM 0 S
  rw [h, h2, sk_0, sk_0] at h1
  subst h1
  exact ⟨List.append_cancel_right h, rfl⟩
set_option maxRecDepth 100000 in
theorem p_sameNameLoop {sc : xSc} {d g n j1 j2 z1 z2 : Nat} {A : List xC} {F : xF} {nm l r : List Nat} {P : xO → xH → Prop} (hp : xPt A n F) (hn : xRw A 5 4926 nm) (hj1 : j1 < n) (hj2 : j2 < n) (hv1 : F.2.1 j1 = nI z1) (hv2 : F.2.1 j2 = nI z2) (ha1 : nmAt nm z1 l) (ha2 : nmAt nm z2 r) (hl : l.length = r.length) (k : P (.inl (some (.int (xb (decide (l = r)))))) (A, g)) : ∀ m i, i + m = l.length → l.take i = r.take i →
    xP sc (d + 2) 81 20 [(0, .ref 11), (1, .int (nI j1)), (2, .int (nI j2)), (3, .int (nI l.length)), (4, .int (nI i))] [] (A, g) P
  | 0, i, hm, ht => by
    have hlen := hn.len
    have hb1 := ha1.1
    have hI : (nI i).toInt = (i : Int) := nI_toInt (by omega)
    have hL : (nI l.length).toInt = (l.length : Int) := nI_toInt (by omega)
    have e : l = r := by
      rw [List.take_of_length_le (by omega), List.take_of_length_le (by omega)] at ht
      exact ht
    rw [decide_eq_true e] at k
    refine xP_s rfl rfl rfl ?_
    refine xP_s rfl rfl rfl ?_
    refine xP_s rfl rfl rfl ?_
    refine xP_if (fun hc => ?_) (fun hc => ?_)
    · repeat' first
        | refine xP_s rfl rfl rfl ?_
        | refine xP_ret rfl rfl rfl ?_
      exact k
    · have := xc_f hc
      dsimp only at this
      omega
  | m + 1, i, hm, ht => by
    have h11 := hp.2.1
    have hlen := hn.len
    have hb1 := ha1.1
    have hb2 := ha2.1
    have hI : (nI i).toInt = (i : Int) := nI_toInt (by omega)
    have hL : (nI l.length).toInt = (l.length : Int) := nI_toInt (by omega)
    obtain ⟨c1, hc1⟩ : ∃ c, l[i]? = some c := ⟨l[i]'(by omega), List.getElem?_eq_getElem (by omega)⟩
    obtain ⟨c2, hc2⟩ : ∃ c, r[i]? = some c := ⟨r[i]'(by omega), List.getElem?_eq_getElem (by omega)⟩
    have hk1 := hn.chr c1 (List.mem_of_getElem? (ha1.2 i c1 hc1))
    have hk2 := hn.chr c2 (List.mem_of_getElem? (ha2.2 i c2 hc2))
    refine xP_s rfl rfl rfl ?_
    refine xP_s rfl rfl rfl ?_
    refine xP_s rfl rfl rfl ?_
    refine xP_if (fun hc => ?_) (fun hc => ?_)
    · have := xc_t hc
      dsimp only at this
      omega
    · refine xP_s rfl rfl rfl ?_
      refine xP_get rfl h11 rfl ?_
      refine xP_s rfl rfl rfl ?_
      refine xP_s rfl rfl rfl ?_
      refine xP_cv rfl rfl rfl rfl rfl h11 (p_value (o := some j1) hp (fun i h => Option.some.inj h ▸ hj1) ?_)
      rw [show ptG F.2.1 0 (some j1) = nI z1 from hv1]
      refine xP_s rfl rfl rfl ?_
      refine xP_s rfl rfl rfl ?_
      refine xP_cv rfl rfl rfl rfl rfl hn.obj (p_at hn (by decide) (by decide) ?_)
      rw [show nI z1 + nI i = nI (z1 + i) from nI_add z1 i, cAt_get (by omega) (ha1.2 i c1 hc1)]
      refine xP_s rfl rfl rfl ?_
      refine xP_get rfl h11 rfl ?_
      refine xP_s rfl rfl rfl ?_
      refine xP_s rfl rfl rfl ?_
      refine xP_cv rfl rfl rfl rfl rfl h11 (p_value (o := some j2) hp (fun i h => Option.some.inj h ▸ hj2) ?_)
      rw [show ptG F.2.1 0 (some j2) = nI z2 from hv2]
      refine xP_s rfl rfl rfl ?_
      refine xP_s rfl rfl rfl ?_
      refine xP_cv rfl rfl rfl rfl rfl hn.obj (p_at hn (by decide) (by decide) ?_)
      rw [show nI z2 + nI i = nI (z2 + i) from nI_add z2 i, cAt_get (by omega) (ha2.2 i c2 hc2)]
      refine xP_s rfl rfl rfl ?_
      refine xP_if (fun hc => ?_) (fun hc => ?_)
      · have he := xc_t hc
        dsimp only at he
        rw [nI_toInt (by omega), nI_toInt (by omega)] at he
        have e : c1 = c2 := by omega
        have go := p_sameNameLoop (sc := sc) (d := d) (g := g) (P := P) hp hn hj1 hj2 hv1 hv2 ha1 ha2 hl k m (i + 1) (by omega) (by
          rw [List.take_add_one, List.take_add_one, ht, hc1, hc2, e])
        rw [← nI_1] at go
        repeat' first
          | exact go
          | refine xP_s rfl rfl rfl ?_
      · have he := xc_f hc
        dsimp only at he
        rw [nI_toInt (by omega), nI_toInt (by omega)] at he
        have e : ¬ l = r := fun q => by
          subst q
          rw [hc1] at hc2
          cases hc2
          omega
        rw [decide_eq_false e] at k
        repeat' first
          | refine xP_s rfl rfl rfl ?_
          | refine xP_ret rfl rfl rfl ?_
        exact k
set_option maxRecDepth 100000 in
theorem p_isSameName {sc : xSc} {d g n j1 j2 : Nat} {A : List xC} {F : xF} {nm : List Nat} {p q : xIt} {P : xO → xH → Prop} (hp : xPt A n F) (hn : xRw A 5 4926 nm) (hj1 : j1 < n) (hj2 : j2 < n) (hd1 : ndK F nm j1 p) (hd2 : ndK F nm j2 q) (hk1 : 2 ≤ p.1) (hk2 : 2 ≤ q.1) (k : P (.inl (some (.int (xb (decide (p.2.2.1 = q.2.2.1)))))) (A, g)) : xM1 sc (d + 2) 81 [.ref 11, .int (nI j1), .int (nI j2)] (A, g) P := by
  have h11 := hp.2.1
  have hlen := hn.len
  obtain ⟨z1, v1, s1, a1⟩ := hd1.2.2.2 hk1
  obtain ⟨z2, v2, s2, a2⟩ := hd2.2.2.2 hk2
  have hb1 := a1.1
  have hb2 := a2.1
  have hL1 : (nI p.2.2.1.length).toInt = (p.2.2.1.length : Int) := nI_toInt (by omega)
  have hL2 : (nI q.2.2.1.length).toInt = (q.2.2.1.length : Int) := nI_toInt (by omega)
  unfold xM1
  refine xP_s rfl rfl rfl ?_
  refine xP_s rfl rfl rfl ?_
  refine xP_cv rfl rfl rfl rfl rfl h11 (p_nameSize (o := some j1) hp (fun i h => Option.some.inj h ▸ hj1) ?_)
  rw [show ptG F.2.2.1 0 (some j1) = nI p.2.2.1.length from s1]
  refine xP_s rfl rfl rfl ?_
  refine xP_s rfl rfl rfl ?_
  refine xP_s rfl rfl rfl ?_
  refine xP_s rfl rfl rfl ?_
  refine xP_cv rfl rfl rfl rfl rfl h11 (p_nameSize (o := some j2) hp (fun i h => Option.some.inj h ▸ hj2) ?_)
  rw [show ptG F.2.2.1 0 (some j2) = nI q.2.2.1.length from s2]
  refine xP_s rfl rfl rfl ?_
  refine xP_if (fun hc => ?_) (fun hc => ?_)
  · have he := xc_t hc
    dsimp only at he
    have loop := p_sameNameLoop (sc := sc) (d := d) (g := g) (P := P) hp hn hj1 hj2 v1 v2 a1 a2 (by omega) k p.2.2.1.length 0 (by omega) rfl
    repeat' first
      | exact loop
      | refine xP_s rfl rfl rfl ?_
  · have he := xc_f hc
    dsimp only at he
    rw [decide_eq_false (fun e => by rw [e] at he; omega)] at k
    repeat' first
      | refine xP_s rfl rfl rfl ?_
      | refine xP_ret rfl rfl rfl ?_
    exact k
theorem xTr.root {F : xF} {nm : List Nat} {e lo hi : Nat} {L : List xIt} (h : xTr F nm e lo hi L) : lo < hi := by
  cases e with
  | zero => exact h.elim
  | succ e => exact h.1
set_option maxRecDepth 100000 in
theorem p_sameLoop {sc : xSc} {d g n lv ha hb : Nat} {A : List xC} {F : xF} {T : Nat → Nat → List xIt → Prop} {P : xO → xH → Prop} {y1 y2 : Int32} (hp : xPt A n F) (hlv : lv ≤ 14) (hT : ∀ a b l, T a b l → isTm l) (hna : ha ≤ n) (hnb : hb ≤ n)
    (ih : ∀ (a b a' b' : Nat) (L M : List xIt) (P' : xO → xH → Prop), a < b → b ≤ n → a' < b' → b' ≤ n → T a b L → T a' b' M → P' (.inl (some (.int (xb (decide (L = M)))))) (A, g) → xM1 sc (d + 2) 80 [.ref 11, .int (nI (b - 1)), .int (nI (b' - 1)), .int (nI (lv + 1))] (A, g) P') :
    ∀ (k1 k2 i : Nat) (x y : Int32) (la lb : Nat) (L M : List xIt) (b : Bool), i + k1 ≤ 6 → i + k2 ≤ 6 → xCh F T k1 x la ha L → xCh F T k2 y lb hb M → (b = true ↔ k1 = k2 ∧ L = M) → P (.inl (some (.int (xb b)))) (A, g) →
    xP sc (d + 3) 80 76 [(0, .ref 11), (1, .int y1), (2, .int y2), (3, .int (nI lv)), (4, .int x), (5, .int y), (6, .int (nI i))] [] (A, g) P
  | 0, k2, i, x, y, la, lb, L, M, b, h1, h2, hx, hy, hb', k => by
    have h6 : (6 : Int32).toInt = 6 := rfl
    have hn := hp.1
    have hI : (nI i).toInt = (i : Int) := nI_toInt (by omega)
    obtain ⟨hx, hL⟩ := hx
    subst hx
    have fin : xP sc (d + 3) 80 133 [(0, .ref 11), (1, .int y1), (2, .int y2), (3, .int (nI lv)), (4, .int (-1)), (5, .int y), (6, .int (nI i))] [] (A, g) P := by
      cases k2 with
      | zero =>
        obtain ⟨hy, hM⟩ := hy
        subst hy
        rw [show b = true from hb'.mpr ⟨rfl, by rw [hL, hM]⟩] at k
        repeat' first
          | refine xP_s rfl rfl rfl ?_
          | refine xP_ret rfl rfl rfl ?_
        exact k
      | succ k2 =>
        obtain ⟨a', b', L1, L2, _, z2, z3, z4, _, _, _⟩ := hy
        rw [show b = false from Bool.not_eq_true _ ▸ fun q => absurd (hb'.mp q).1 (by omega)] at k
        subst z4
        refine xP_s rfl rfl rfl ?_
        refine xP_s rfl rfl rfl ?_
        refine xP_s rfl rfl rfl ?_
        refine xP_s rfl rfl rfl ?_
        refine xP_s rfl rfl rfl ?_
        refine xP_s rfl rfl rfl ?_
        refine xP_if (fun hc => ?_) (fun hc => ?_)
        · repeat' first
            | refine xP_s rfl rfl rfl ?_
            | refine xP_ret rfl rfl rfl ?_
          exact k
        · exact absurd (xc_f hc) (nI_neg1 (by omega))
    refine xP_s rfl rfl rfl ?_
    refine xP_s rfl rfl rfl ?_
    refine xP_s rfl rfl rfl ?_
    refine xP_if (fun hc => ?_) (fun hc => ?_)
    · exact fin
    · refine xP_s rfl rfl rfl ?_
      refine xP_s rfl rfl rfl ?_
      refine xP_s rfl rfl rfl ?_
      refine xP_if (fun hc => ?_) (fun hc => ?_)
      · exact fin
      · exact absurd rfl (xc_f hc)
  | k1 + 1, 0, i, x, y, la, lb, L, M, b, h1, h2, hx, hy, hb', k => by
    have h6 : (6 : Int32).toInt = 6 := rfl
    have hn := hp.1
    have hI : (nI i).toInt = (i : Int) := nI_toInt (by omega)
    obtain ⟨hy, hM⟩ := hy
    subst hy
    obtain ⟨a', b', L1, L2, _, z2, z3, z4, _, _, _⟩ := hx
    subst z4
    rw [show b = false from Bool.not_eq_true _ ▸ fun q => absurd (hb'.mp q).1 (by omega)] at k
    refine xP_s rfl rfl rfl ?_
    refine xP_s rfl rfl rfl ?_
    refine xP_s rfl rfl rfl ?_
    refine xP_if (fun hc => ?_) (fun hc => ?_)
    · have := xc_t hc
      dsimp only at this
      omega
    · refine xP_s rfl rfl rfl ?_
      refine xP_s rfl rfl rfl ?_
      refine xP_s rfl rfl rfl ?_
      refine xP_if (fun hc => ?_) (fun hc => ?_)
      · exact absurd (xc_t hc) (nI_neg1 (by omega))
      · refine xP_s rfl rfl rfl ?_
        refine xP_s rfl rfl rfl ?_
        refine xP_s rfl rfl rfl ?_
        refine xP_s rfl rfl rfl ?_
        refine xP_s rfl rfl rfl ?_
        refine xP_s rfl rfl rfl ?_
        refine xP_if (fun hc => ?_) (fun hc => ?_)
        · repeat' first
            | refine xP_s rfl rfl rfl ?_
            | refine xP_ret rfl rfl rfl ?_
          exact k
        · exact absurd (xc_f hc) (nI_neg1 (by omega))
  | k1 + 1, k2 + 1, i, x, y, la, lb, L, M, b, h1, h2, hx, hy, hb', k => by
    have h6 : (6 : Int32).toInt = 6 := rfl
    have hn := hp.1
    have h11 := hp.2.1
    have hI : (nI i).toInt = (i : Int) := nI_toInt (by omega)
    obtain ⟨a, c, L1, L2, q1, q2, q3, q4, q5, q6, q7⟩ := hx
    obtain ⟨a', c', M1, M2, w1, w2, w3, w4, w5, w6, w7⟩ := hy
    subst q4
    subst w4
    refine xP_s rfl rfl rfl ?_
    refine xP_s rfl rfl rfl ?_
    refine xP_s rfl rfl rfl ?_
    refine xP_if (fun hc => ?_) (fun hc => ?_)
    · have := xc_t hc
      dsimp only at this
      omega
    · refine xP_s rfl rfl rfl ?_
      refine xP_s rfl rfl rfl ?_
      refine xP_s rfl rfl rfl ?_
      refine xP_if (fun hc => ?_) (fun hc => ?_)
      · exact absurd (xc_t hc) (nI_neg1 (by omega))
      · refine xP_s rfl rfl rfl ?_
        refine xP_s rfl rfl rfl ?_
        refine xP_s rfl rfl rfl ?_
        refine xP_if (fun hc => ?_) (fun hc => ?_)
        · exact absurd (xc_t hc) (nI_neg1 (by omega))
        · refine xP_s rfl rfl rfl ?_
          refine xP_s rfl rfl rfl ?_
          refine xP_s rfl rfl rfl ?_
          refine xP_s rfl rfl rfl ?_
          refine xP_s rfl rfl rfl ?_
          refine xP_s rfl rfl rfl ?_
          rw [nI_1]
          refine xP_cv rfl rfl rfl rfl rfl h11 (ih a c a' c' L1 M1 _ q2 (by omega) w2 (by omega) q5 w5 ?_)
          by_cases he : L1 = M1
          · rw [decide_eq_true he]
            have go := p_sameLoop (sc := sc) (d := d) (g := g) (P := P) (y1 := y1) (y2 := y2) hp hlv hT hna hnb ih k1 k2 (i + 1) _ _ la lb L2 M2 b (by omega) (by omega) q7 w7 (by
              rw [hb', q6, w6, he]
              constructor
              · intro ⟨t1, t2⟩
                exact ⟨by omega, List.append_cancel_left t2⟩
              · intro ⟨t1, t2⟩
                exact ⟨by omega, by rw [t2]⟩) k
            rw [← nI_1] at go
            repeat' first
              | exact go
              | refine xP_s rfl rfl rfl ?_
              | refine xP_cv rfl rfl rfl rfl rfl h11 (p_next hp (o := some (c - 1)) (fun i h => by have := Option.some.inj h; omega) ?_)
              | refine xP_cv rfl rfl rfl rfl rfl h11 (p_next hp (o := some (c' - 1)) (fun i h => by have := Option.some.inj h; omega) ?_)
          · rw [decide_eq_false he]
            rw [show b = false from Bool.not_eq_true _ ▸ fun q => he (by
              have := (hb'.mp q).2
              rw [q6, w6] at this
              exact ((hT _ _ _ q5).cancel (hT _ _ _ w5) this).1)] at k
            repeat' first
              | refine xP_s rfl rfl rfl ?_
              | refine xP_ret rfl rfl rfl ?_
            exact k
set_option maxRecDepth 100000 in
theorem p_same {sc : xSc} {d g n : Nat} {A : List xC} {F : xF} {nm : List Nat} (hp : xPt A n F) (hn : xRw A 5 4926 nm) : ∀ (e lv a b a' b' : Nat) (L M : List xIt) (P : xO → xH → Prop), lv + e ≤ 15 → b ≤ n → b' ≤ n → xTr F nm e a b L → xTr F nm e a' b' M → P (.inl (some (.int (xb (decide (L = M)))))) (A, g) → xM1 sc (d + e + 3) 80 [.ref 11, .int (nI (b - 1)), .int (nI (b' - 1)), .int (nI lv)] (A, g) P
  | 0, lv, a, b, a', b', L, M, P, _, _, _, h, _, _ => h.elim
  | e + 1, lv, a, b, a', b', L, M, P, hlv, hb, hb', hL, hM, k => by
    have h11 := hp.2.1
    have hn840 := hp.1
    have h14 : (14 : Int32).toInt = 14 := rfl
    have hLV : (nI lv).toInt = (lv : Int) := nI_toInt (by omega)
    obtain ⟨h0, p, L1, eL, op, dp, cp⟩ := hL
    obtain ⟨w0, q, M1, eM, oq, dq, cq⟩ := hM
    have j1 : b - 1 < n := by omega
    have j2 : b' - 1 < n := by omega
    have v1 : ∀ i, some (b - 1) = some i → i < n := fun i h => Option.some.inj h ▸ j1
    have v2 : ∀ i, some (b' - 1) = some i → i < n := fun i h => Option.some.inj h ▸ j2
    have kp := dp.2.1
    have kq := dq.2.1
    have hKp : (nI p.1).toInt = (p.1 : Int) := nI_toInt (by omega)
    have hKq : (nI q.1).toInt = (q.1 : Int) := nI_toInt (by omega)
    subst eL
    subst eM
    unfold xM1
    refine xP_s rfl rfl rfl ?_
    refine xP_s rfl rfl rfl ?_
    refine xP_s rfl rfl rfl ?_
    refine xP_if (fun hc => ?_) (fun hc => ?_)
    · have := xc_t hc
      dsimp only at this
      omega
    · refine xP_s rfl rfl rfl ?_
      refine xP_s rfl rfl rfl ?_
      refine xP_cv rfl rfl rfl rfl rfl h11 (p_kind (o := some (b - 1)) hp v1 ?_)
      rw [show ptG F.1 (-1) (some (b - 1)) = nI p.1 from dp.1]
      refine xP_s rfl rfl rfl ?_
      refine xP_s rfl rfl rfl ?_
      refine xP_cv rfl rfl rfl rfl rfl h11 (p_kind (o := some (b' - 1)) hp v2 ?_)
      rw [show ptG F.1 (-1) (some (b' - 1)) = nI q.1 from dq.1]
      refine xP_s rfl rfl rfl ?_
      refine xP_if (fun hc => ?_) (fun hc => ?_)
      · have hkk := xc_t hc
        dsimp only at hkk
        have ek : p.1 = q.1 := by omega
        refine xP_s rfl rfl rfl ?_
        refine xP_s rfl rfl rfl ?_
        refine xP_cv rfl rfl rfl rfl rfl h11 (p_isNamed (o := some (b - 1)) (b := decide (2 ≤ p.1)) hp v1 (by
          rw [show ptG F.1 (-1) (some (b - 1)) = nI p.1 from dp.1, hKp, decide_eq_true_eq]
          omega) ?_)
        by_cases hnm : 2 ≤ p.1
        · rw [decide_eq_true hnm]
          refine xP_s rfl rfl rfl ?_
          refine xP_s rfl rfl rfl ?_
          refine xP_s rfl rfl rfl ?_
          refine xP_s rfl rfl rfl ?_
          refine xP_cv rfl rfl rfl rfl rfl h11 (p_isSameName hp hn j1 j2 dp dq hnm (by omega) ?_)
          by_cases hne : p.2.2.1 = q.2.2.1
          · rw [decide_eq_true hne]
            have ar1 : p.2.2.2 ≤ 6 := by
              rcases Nat.lt_or_ge p.1 3 with z | z
              · have := op.1 z
                omega
              · exact (op.2.1 (by omega)).2
            have ar2 : q.2.2.2 ≤ 6 := by
              rcases Nat.lt_or_ge q.1 3 with z | z
              · have := oq.1 z
                omega
              · exact (oq.2.1 (by omega)).2
            have loop := p_sameLoop (sc := sc) (d := d + e + 1) (g := g) (P := P) (lv := lv) (T := fun a b l => xTr F nm e a b l) (y1 := nI (b - 1)) (y2 := nI (b' - 1)) hp (by omega) (fun a b l ht => ht.tm) (ha := b - 1) (hb := b' - 1) (by omega) (by omega) (fun a0 b0 a1 b1 L0 M0 P' _ q2 _ q4 q5 q6 q7 => p_same hp hn e (lv + 1) a0 b0 a1 b1 L0 M0 P' (by omega) q2 q4 q5 q6 q7) p.2.2.2 q.2.2.2 0 _ _ a a' L1 M1 (decide (p :: L1 = q :: M1)) (by omega) (by omega) cp cq (by
              rw [decide_eq_true_eq]
              constructor
              · intro h
                injection h with t1 t2
                exact ⟨by rw [t1], t2⟩
              · intro ⟨t1, t2⟩
                have ev : p.2.1 = q.2.1 := by rw [op.2.2.2 hnm, oq.2.2.2 (by omega)]
                have ep : p = q := Prod.ext ek (Prod.ext ev (Prod.ext hne t1))
                rw [ep, t2]) k
            repeat' first
              | exact loop
              | refine xP_s rfl rfl rfl ?_
              | refine xP_cv rfl rfl rfl rfl rfl h11 (p_first hp (o := some (b - 1)) v1 ?_)
              | refine xP_cv rfl rfl rfl rfl rfl h11 (p_first hp (o := some (b' - 1)) v2 ?_)
          · rw [decide_eq_false hne]
            rw [decide_eq_false (fun z => hne (by injection z with t1 t2; rw [t1]))] at k
            repeat' first
              | refine xP_s rfl rfl rfl ?_
              | refine xP_ret rfl rfl rfl ?_
            exact k
        · rw [decide_eq_false hnm]
          have e1 := dp.2.2.1 (by omega)
          have e2 := dq.2.2.1 (by omega)
          have z1 := op.1 (by omega)
          have z2 := oq.1 (by omega)
          have n1 := op.2.2.1 (by omega)
          have n2 := oq.2.2.1 (by omega)
          rw [z1] at cp
          rw [z2] at cq
          refine xP_s rfl rfl rfl ?_
          refine xP_s rfl rfl rfl ?_
          refine xP_s rfl rfl rfl ?_
          refine xP_cv rfl rfl rfl rfl rfl h11 (p_value (o := some (b - 1)) hp v1 ?_)
          refine xP_s rfl rfl rfl ?_
          refine xP_s rfl rfl rfl ?_
          refine xP_cv rfl rfl rfl rfl rfl h11 (p_value (o := some (b' - 1)) hp v2 ?_)
          repeat' first
            | refine xP_s rfl rfl rfl ?_
            | refine xP_if (fun hc => ?_) (fun hc => ?_)
            | refine xP_ret rfl rfl rfl ?_
          · have hne := xc_t hc
            dsimp only [ptG] at hne
            rw [e1, e2] at hne
            rw [decide_eq_false (fun z => hne (by injection z with t1 t2; rw [t1]))] at k
            exact k
          · have hne := xc_f hc
            dsimp only [ptG] at hne
            rw [e1, e2] at hne
            have ep : p = q := Prod.ext ek (Prod.ext hne (Prod.ext (by rw [n1, n2]) (by rw [z1, z2])))
            rw [decide_eq_true (by rw [ep, cp.2, cq.2])] at k
            exact k
      · have hkk := xc_f hc
        dsimp only at hkk
        rw [decide_eq_false (fun z => hkk (by injection z with t1 t2; rw [t1]))] at k
        repeat' first
          | refine xP_s rfl rfl rfl ?_
          | refine xP_ret rfl rfl rfl ?_
        exact k
