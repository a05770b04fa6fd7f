-- the reference: out, digits
def zX (v : Nat → Int32) (a : Nat → Nat → Int32) (w : List Nat) : Prop := v 40 = nI w.length ∧ w.length ≤ 2600 ∧ ∀ (i c : Nat), w[i]? = some c → c < 128 ∧ a 51 i = nI c
theorem zX.same {v v' : Nat → Int32} {a a' : Nat → Nat → Int32} {w l m : List Nat} (h : zX v a w) (hv : vS v v' l) (ha : aS a a' m) (h1 : 40 ∉ l) (h2 : 51 ∉ m) : zX v' a' w := by
  unfold zX at h ⊢
  rw [hv 40 h1, ha 51 h2]
  exact h
theorem lc9 (n : Nat) (h : n < 2 ^ 63) : (lg_cmp (lN n) 9).toInt ≤ 0 ↔ n ≤ 9 := by
  have e : (9 : Int64).toInt = 9 := rfl
  have q := lg_cmp_le (lN n) 9
  rw [Int32.le_iff_toInt_le, Int64.le_iff_toInt_le, lN_T h, e] at q
  rw [show (0 : Int) = (0 : Int32).toInt from rfl, q]
  omega
section WA
variable {sc : xSc} {d g : Nat} {B C : List xC} {o : Nat → Int64} {P : xO → xH → Prop} {v : Nat → Int32} {a : Nat → Nat → Int32} {w : List Nat}
set_option maxRecDepth 100000 in
theorem q_out {c : Nat} (hB : B.length = 28) (hx : zX v a w) (hl : w.length < 2600) (hc : c < 128) (k : ∀ v' a', zX v' a' (w ++ [c]) → vS v v' [40] → aS a a' [51] → P (.inl none) (mH B C v' a' o, g)) : xM1 sc d 180 [.ref 28, .int (nI c)] (mH B C v a o, g) P := by
  obtain ⟨h1, h2, h3⟩ := hx
  unfold xM1
  refine xP_s rfl rfl rfl ?_
  refine xP_get rfl (mH_28 hB) rfl ?_
  refine xP_s rfl rfl rfl ?_
  refine xP_zg rfl hB rfl h1 ?_
  refine xP_s rfl rfl rfl ?_
  refine xP_zs (n := 2600) rfl hB rfl rfl hl ?_
  refine xP_s rfl rfl rfl ?_
  refine xP_s rfl rfl rfl ?_
  refine xP_zg rfl hB rfl h1 ?_
  refine xP_s rfl rfl rfl ?_
  refine xP_s rfl rfl rfl ?_
  rw [nI_p1]
  refine xP_zp rfl hB rfl rfl ?_
  have kk := k (upd v 40 (nI (w.length + 1))) (uA a 51 (upd (a 51) w.length (nI c))) ⟨by rw [upd_s, List.length_append]; rfl, by rw [List.length_append, List.length_singleton]; omega, fun i x hi => by
    rw [uA_s]
    rcases ap_c hi with ⟨y1, y2⟩ | ⟨y1, y2⟩
    · rw [upd_n (by omega)]
      exact h3 i x y2
    · rw [y1, y2, upd_s]
      exact ⟨hc, rfl⟩⟩ (vS.u _ _ _) (aS.u _ _ _)
  repeat' first
    | refine xP_s rfl rfl rfl ?_
    | refine xP_ret rfl rfl rfl ?_
  exact kk
set_option maxRecDepth 100000 in
theorem q_unitLoop {n : Nat} {A : List xC} (hn : n < 2 ^ 32) : ∀ (f k : Nat), k + f = 10 → xP sc d 182 21 [(0, .ref 28), (1, .long (lN n)), (3, .long (lN (10 ^ (lgF f k n))))] [] (A, g) P → xP sc d 182 2 [(0, .ref 28), (1, .long (lN n)), (3, .long (lN (10 ^ k)))] [] (A, g) P
  | f, k, hk, kk => by
    have hp := pow10_lt (k := k) (by omega)
    have hpos : 0 < 10 ^ k := Nat.pow_pos (by omega)
    have hdl : n / 10 ^ k ≤ n := Nat.div_le_self _ _
    have hd1 : lN n / lN (10 ^ k) = lN (n / 10 ^ k) := pk_lDiv (by omega) hpos (by omega)
    have hne : ¬ lN (10 ^ k) = 0 := fun q => by
      have := lN_inj (a := 10 ^ k) (b := 0) (by omega) (by omega) q
      omega
    have hcm := lc9 (n / 10 ^ k) (by omega)
    have h0 : (0 : Int32).toInt = 0 := rfl
    have hdv : n / 10 ^ k ≤ 9 ↔ ¬ 10 ^ (k + 1) ≤ n := by
      rw [Nat.pow_succ, ← Nat.lt_succ_iff, Nat.div_lt_iff_lt_mul hpos]
      omega
    refine xP_s rfl rfl rfl ?_
    refine xP_s rfl rfl rfl ?_
    refine xP_ldiv rfl hne ?_
    rw [hd1]
    refine xP_s rfl rfl rfl ?_
    refine xP_s rfl rfl rfl ?_
    refine xP_s rfl rfl rfl ?_
    refine xP_if (fun hc => ?_) (fun hc => ?_)
    · have z := xc_t hc
      dsimp only at z
      have z := hdv.mp (hcm.mp z)
      have e : lgF f k n = k := by
        cases f with
        | zero => rfl
        | succ f =>
          unfold lgF
          rw [if_neg z]
      rw [e] at kk
      exact kk
    · have z := xc_f hc
      dsimp only at z
      have z : 10 ^ (k + 1) ≤ n := by
        rcases Nat.lt_or_ge n (10 ^ (k + 1)) with y | y
        · have := hcm.mpr (hdv.mpr (by omega))
          omega
        · exact y
      cases f with
      | zero =>
        have ek : k = 10 := by omega
        rw [ek] at z
        have : 2 ^ 32 < 10 ^ (10 + 1) := by decide
        omega
      | succ f =>
        have e : lgF (f + 1) k n = lgF f (k + 1) n := by
          conv => lhs; unfold lgF
          rw [if_pos z]
        rw [e] at kk
        have go := q_unitLoop (A := A) hn f (k + 1) (by omega) kk
        have hmul : lN (10 ^ k) * 10 = lN (10 ^ (k + 1)) := lN_mul (10 ^ k) 10
        refine xP_s rfl rfl rfl ?_
        refine xP_s rfl rfl rfl ?_
        refine xP_s rfl rfl rfl ?_
        rw [hmul]
        refine xP_s rfl rfl rfl ?_
        refine xP_s rfl rfl rfl ?_
        exact go
set_option maxRecDepth 100000 in
theorem q_dgLoop {n : Nat} (hB : B.length = 28) (hn : n < 2 ^ 32) : ∀ (k : Nat) (v : Nat → Int32) (a : Nat → Nat → Int32) (w : List Nat), k ≤ 10 → zX v a w → w.length + k + 1 ≤ 2600 → (∀ v' a', zX v' a' (w ++ dgU k n) → vS v v' [40] → aS a a' [51] → P (.inl none) (mH B C v' a' o, g)) → xP sc (d + 1) 182 21 [(0, .ref 28), (1, .long (lN n)), (3, .long (lN (10 ^ k)))] [] (mH B C v a o, g) P := by
  have step : ∀ (k : Nat) (v : Nat → Int32) (a : Nat → Nat → Int32) (w : List Nat), k ≤ 10 → zX v a w → w.length + 1 ≤ 2600 → (∀ v' a', zX v' a' (w ++ [48 + n / 10 ^ k % 10]) → vS v v' [40] → aS a a' [51] → xP sc (d + 1) 182 21 [(0, .ref 28), (1, .long (lN n)), (3, .long (lN (10 ^ k / 10)))] [] (mH B C v' a' o, g) P) → xP sc (d + 1) 182 21 [(0, .ref 28), (1, .long (lN n)), (3, .long (lN (10 ^ k)))] [] (mH B C v a o, g) P := by
    intro k v a w hk hx hl kk
    have hp := pow10_lt (k := k) (by omega)
    have hpos : 0 < 10 ^ k := Nat.pow_pos (by omega)
    have hdl : n / 10 ^ k ≤ n := Nat.div_le_self _ _
    have hd1 : lN n / lN (10 ^ k) = lN (n / 10 ^ k) := pk_lDiv (by omega) hpos (by omega)
    have hd2 : lN (n / 10 ^ k) - lN (n / 10 ^ k) / 10 * 10 = lN (n / 10 ^ k % 10) := pk_lRem (b := 10) (by omega) (by omega) (by omega)
    have hd3 : lN (10 ^ k) / 10 = lN (10 ^ k / 10) := pk_lDiv (b := 10) (by omega) (by omega) (by omega)
    have hne : ¬ lN (10 ^ k) = 0 := fun q => by
      have := lN_inj (a := 10 ^ k) (b := 0) (by omega) (by omega) q
      omega
    have hcm : 0 < (lg_cmp (lN (10 ^ k)) 0).toInt := by
      have q := (lg_cmp_gt (lN (10 ^ k)) 0).mpr (by
        rw [Int64.lt_iff_toInt_lt, lN_T (by omega)]
        show (0 : Int) < _
        omega)
      rw [Int32.lt_iff_toInt_lt] at q
      exact q
    refine xP_s rfl rfl rfl ?_
    refine xP_s rfl rfl rfl ?_
    refine xP_s rfl rfl rfl ?_
    refine xP_s rfl rfl rfl ?_
    refine xP_if (fun hc => ?_) (fun hc => ?_)
    · have z : (lg_cmp (lN (10 ^ k)) 0).toInt ≤ 0 := xc_t hc
      exact absurd hcm (Int.not_lt.mpr z)
    · refine xP_s rfl rfl rfl ?_
      refine xP_s rfl rfl rfl ?_
      refine xP_s rfl rfl rfl ?_
      refine xP_s rfl rfl rfl ?_
      refine xP_ldiv rfl hne ?_
      rw [hd1]
      refine xP_s rfl rfl rfl ?_
      refine xP_s rfl rfl rfl ?_
      rw [hd2]
      refine xP_s rfl rfl rfl ?_
      rw [lN_i]
      refine xP_s rfl rfl rfl ?_
      rw [show (48 : Int32) + nI (n / 10 ^ k % 10) = nI (48 + n / 10 ^ k % 10) from nI_add 48 _]
      refine xP_cv rfl rfl rfl rfl rfl (mH_28 hB) (q_out hB hx (by omega) (by omega) (fun v1 a1 y1 y2 y3 => ?_))
      have go := kk v1 a1 y1 y2 y3
      refine xP_s rfl rfl rfl ?_
      refine xP_s rfl rfl rfl ?_
      refine xP_s rfl rfl rfl ?_
      rw [hd3]
      refine xP_s rfl rfl rfl ?_
      refine xP_s rfl rfl rfl ?_
      exact go
  intro k
  induction k with
  | zero =>
    intro v a w hk hx hl kk
    refine step 0 v a w hk hx (by omega) (fun v1 a1 y1 y2 y3 => ?_)
    have k2 := kk v1 a1 (by simpa [dgU] using y1) y2 y3
    repeat' first
      | refine xP_s rfl rfl rfl ?_
      | refine xP_ret rfl rfl rfl ?_
    exact k2
  | succ k ih =>
    intro v a w hk hx hl kk
    refine step (k + 1) v a w hk hx (by omega) (fun v1 a1 y1 y2 y3 => ?_)
    have e : 10 ^ (k + 1) / 10 = 10 ^ k := by rw [Nat.pow_succ, Nat.mul_div_cancel _ (by omega)]
    rw [e]
    exact ih v1 a1 _ (by omega) y1 (by rw [List.length_append, List.length_singleton]; omega) (fun v2 a2 u1 u2 u3 => kk v2 a2 (by rw [List.append_assoc] at u1; exact u1) (y2.trans u2) (y3.trans u3))
set_option maxRecDepth 100000 in
theorem q_digits {n : Nat} (hB : B.length = 28) (hn : n < 2 ^ 32) (hx : zX v a w) (hl : w.length + (ten n).length ≤ 2600) (k : ∀ v' a', zX v' a' (w ++ ten n) → vS v v' [40] → aS a a' [51] → P (.inl none) (mH B C v' a' o, g)) : xM1 sc (d + 1) 182 [.ref 28, .long (lN n)] (mH B C v a o, g) P := by
  have h10 := lgF_le 10 0 n
  unfold ten at hl k
  rw [dgU_len] at hl
  have go := q_unitLoop (sc := sc) (d := d + 1) (g := g) (P := P) (A := mH B C v a o) hn 10 0 rfl (q_dgLoop hB hn (lgF 10 0 n) v a w (by omega) hx (by omega) k)
  unfold xM1
  refine xP_s rfl rfl rfl ?_
  refine xP_s rfl rfl rfl ?_
  exact go
end WA
