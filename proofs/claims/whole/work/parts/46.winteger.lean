-- Writer: numbers
/-- the greatest power of ten that is not above n -/
def lgF : Nat → Nat → Nat → Nat
  | 0, k, _ => k
  | f + 1, k, n => if 10 ^ (k + 1) ≤ n then lgF f (k + 1) n else k
def dgU : Nat → Nat → List Nat
  | 0, n => [48 + n % 10]
  | k + 1, n => (48 + n / 10 ^ (k + 1) % 10) :: dgU k n
theorem dgU_len : ∀ (k n : Nat), (dgU k n).length = k + 1
  | 0, n => rfl
  | k + 1, n => by rw [dgU, List.length_cons, dgU_len k n]
theorem lgF_le : ∀ (f k n : Nat), lgF f k n ≤ k + f
  | 0, k, n => by rw [lgF]; omega
  | f + 1, k, n => by
    rw [lgF]
    split
    · have := lgF_le f (k + 1) n
      omega
    · omega
def ten (n : Nat) : List Nat := dgU (lgF 10 0 n) n
def intW (v : Int) : List Nat := (if v < 0 then [45] else []) ++ ten v.natAbs
theorem pow10_lt {k : Nat} (h : k ≤ 11) : 10 ^ k < 2 ^ 40 := by
  have : 10 ^ k ≤ 10 ^ 11 := Nat.pow_le_pow_right (by omega) h
  omega
theorem xP_ldiv {sc : xSc} {d mi pc : Nat} {ls : xL} {A : List xC} {g : Nat} {P : xO → xH → Prop} {len r1 r2 r3 : Nat} {rv : Int32} {rk : Int64} {sw : List (Int32 × Nat)} {a b : Int64} {rest : List Value} (hrow : xrow mi pc = some (.ldiv, len, r1, r2, r3, rv, rk, sw)) (hne : ¬ b = 0) (kk : xP sc d mi (pc + 1) ls (.long (a / b) :: rest) (A, g) P) : xP sc d mi pc ls (.long b :: .long a :: rest) (A, g) P := by
  refine xP_s hrow rfl ?_ kk
  simp only [xs, xl2, if_neg hne]
section WC
variable {sc : xSc} {d g : Nat} {P : xO → xH → Prop}
set_option maxRecDepth 100000 in
theorem p_unitLoop {n : Nat} {A : List xC} {x : Int32} (hn : n < 2 ^ 40) : ∀ (f k : Nat), k + f = 10 → (∀ i', xP sc (d + 1) 125 59 [(0, .ref 26), (1, .int x), (2, .long (lN n)), (4, .long (lN (10 ^ (lgF f k n)))), (6, .int i')] [] (A, g) P) → xP sc (d + 1) 125 27 [(0, .ref 26), (1, .int x), (2, .long (lN n)), (4, .long (lN (10 ^ k))), (6, .int (nI k))] [] (A, g) P
  | 0, k, hk, kk => by
    have h10 : (10 : Int32).toInt = 10 := rfl
    have hK : (nI k).toInt = (k : Int) := nI_toInt (by omega)
    refine xP_s rfl rfl rfl ?_
    refine xP_s rfl rfl rfl ?_
    refine xP_s rfl rfl rfl ?_
    refine xP_if (fun hc => ?_) (fun hc => ?_)
    · exact kk _
    · have := xc_f hc
      dsimp only at this
      omega
  | f + 1, k, hk, kk => by
    have h10 : (10 : Int32).toInt = 10 := rfl
    have hK : (nI k).toInt = (k : Int) := nI_toInt (by omega)
    have hp := pow10_lt (k := k + 1) (by omega)
    have hmul : lN (10 ^ k) * 10 = lN (10 ^ (k + 1)) := lN_mul (10 ^ k) 10
    have hcm : (lg_cmp (lN (10 ^ (k + 1))) (lN n)).toInt ≤ 0 ↔ 10 ^ (k + 1) ≤ n := by
      have q := lg_cmp_le (lN (10 ^ (k + 1))) (lN n)
      rw [Int32.le_iff_toInt_le, Int64.le_iff_toInt_le, lN_T (by omega), lN_T (by omega)] at q
      rw [show (0 : Int) = (0 : Int32).toInt from rfl, q]
      omega
    unfold lgF at kk
    refine xP_s rfl rfl rfl ?_
    refine xP_s rfl rfl rfl ?_
    refine xP_s rfl rfl rfl ?_
    refine xP_if (fun hc => ?_) (fun hc => ?_)
    · have := xc_t hc
      dsimp only at this
      omega
    · refine xP_s rfl rfl rfl ?_
      refine xP_s rfl rfl rfl ?_
      refine xP_s rfl rfl rfl ?_
      rw [hmul]
      refine xP_s rfl rfl rfl ?_
      refine xP_s rfl rfl rfl ?_
      refine xP_s rfl rfl rfl ?_
      refine xP_if (fun hc => ?_) (fun hc => ?_)
      · have z := xc_t hc
        dsimp only at z
        have h0 : (0 : Int32).toInt = 0 := rfl
        rw [if_neg (fun q => by have := hcm.mpr q; omega)] at kk
        exact kk _
      · have z := xc_f hc
        dsimp only at z
        have h0 : (0 : Int32).toInt = 0 := rfl
        rw [if_pos (hcm.mp (by omega))] at kk
        have go := p_unitLoop (A := A) (x := x) hn f (k + 1) (by omega) kk
        rw [← nI_1] at go
        refine xP_s rfl rfl rfl ?_
        refine xP_s rfl rfl rfl ?_
        refine xP_s rfl rfl rfl ?_
        rw [hmul]
        repeat' first
          | exact go
          | refine xP_s rfl rfl rfl ?_
set_option maxHeartbeats 4000000 in
set_option maxRecDepth 100000 in
theorem p_digitLoop {n : Nat} {x : Int32} {A0 : List xC} (hn : n < 2 ^ 40) : ∀ (k i : Nat) (A : List xC) (o : List Nat), k + i ≤ 10 → xWo A → xRw A 3 1200 o → o.length + k + 1 ≤ 1200 → xSame A0 A [3, 4] → (∀ A', xRw A' 3 1200 (o ++ dgU k n) → xSame A0 A' [3, 4] → P (.inl none) (A', g)) →
    xP sc (d + 1) 125 62 [(0, .ref 26), (1, .int x), (2, .long (lN n)), (4, .long (lN (10 ^ k))), (6, .int (nI i))] [] (A, g) P := by
  have step : ∀ (k i : Nat) (A : List xC) (o : List Nat), k + i ≤ 10 → xWo A → xRw A 3 1200 o → o.length + 1 ≤ 1200 → (∀ A', xRw A' 3 1200 (o ++ [48 + n / 10 ^ k % 10]) → xSame A A' [3, 4] → xP sc (d + 1) 125 62 [(0, .ref 26), (1, .int x), (2, .long (lN n)), (4, .long (lN (10 ^ k / 10))), (6, .int (nI (i + 1)))] [] (A', g) P) → xP sc (d + 1) 125 62 [(0, .ref 26), (1, .int x), (2, .long (lN n)), (4, .long (lN (10 ^ k))), (6, .int (nI i))] [] (A, g) P := by
    intro k i A o hk h26 ho hr kk
    have h26' := h26
    unfold xWo at h26'
    have h11 : (11 : Int32).toInt = 11 := rfl
    have hI : (nI i).toInt = (i : Int) := nI_toInt (by omega)
    have hp := pow10_lt (k := k) (by omega)
    have hpos : 0 < 10 ^ k := Nat.pow_pos (by omega)
    have hdl : n / 10 ^ k ≤ n := Nat.div_le_self _ _
    have hd1 : lN n / lN (10 ^ k) = lN (n / 10 ^ k) := pk_lDiv (by omega) hpos (by omega)
    have hd2 : lN (n / 10 ^ k) - lN (n / 10 ^ k) / 10 * 10 = lN (n / 10 ^ k % 10) := pk_lRem (b := 10) (by omega) (by omega) (by omega)
    have hd3 : lN (10 ^ k) / 10 = lN (10 ^ k / 10) := pk_lDiv (b := 10) (by omega) (by omega) (by omega)
    have hne : ¬ lN (10 ^ k) = 0 := fun q => by
      have := lN_inj (a := 10 ^ k) (b := 0) (by omega) (by omega) q
      omega
    have hcm : 0 < (lg_cmp (lN (10 ^ k)) 0).toInt := by
      have q := (lg_cmp_gt (lN (10 ^ k)) 0).mpr (by
        rw [Int64.lt_iff_toInt_lt, lN_T (by omega)]
        show (0 : Int) < _
        omega)
      rw [Int32.lt_iff_toInt_lt] at q
      exact q
    refine xP_s rfl rfl rfl ?_
    refine xP_s rfl rfl rfl ?_
    refine xP_s rfl rfl rfl ?_
    refine xP_if (fun hc => ?_) (fun hc => ?_)
    · have := xc_t hc
      dsimp only at this
      omega
    · refine xP_s rfl rfl rfl ?_
      refine xP_s rfl rfl rfl ?_
      refine xP_s rfl rfl rfl ?_
      refine xP_s rfl rfl rfl ?_
      refine xP_if (fun hc => ?_) (fun hc => ?_)
      · have z : (lg_cmp (lN (10 ^ k)) 0).toInt ≤ 0 := xc_t hc
        exact absurd hcm (Int.not_lt.mpr z)
      · refine xP_s rfl rfl rfl ?_
        refine xP_get rfl h26' rfl ?_
        refine xP_s rfl rfl rfl ?_
        refine xP_s rfl rfl rfl ?_
        refine xP_s rfl rfl rfl ?_
        refine xP_ldiv rfl hne ?_
        rw [hd1]
        refine xP_s rfl rfl rfl ?_
        refine xP_s rfl rfl rfl ?_
        rw [hd2]
        refine xP_s rfl rfl rfl ?_
        rw [lN_i]
        refine xP_s rfl rfl rfl ?_
        rw [show (48 : Int32) + nI (n / 10 ^ k % 10) = nI (48 + n / 10 ^ k % 10) from nI_add 48 _]
        refine xP_cv rfl rfl rfl rfl rfl ho.obj (p_add ho (by decide) (by decide) (by omega) (by omega) (fun A2 w1 w2 => ?_))
        have go := kk A2 w1 w2
        rw [← nI_1] at go
        refine xP_s rfl rfl rfl ?_
        refine xP_s rfl rfl rfl ?_
        refine xP_s rfl rfl rfl ?_
        rw [hd3]
        repeat' first
          | exact go
          | refine xP_s rfl rfl rfl ?_
  intro k
  induction k with
  | zero =>
    intro i A o hk h26 ho hr hsm kk
    refine step 0 i A o hk h26 ho (by omega) (fun A2 w1 w2 => ?_)
    have h11 : (11 : Int32).toInt = 11 := rfl
    have hI : (nI (i + 1)).toInt = ((i + 1 : Nat) : Int) := nI_toInt (by omega)
    have k2 := kk A2 (by simpa [dgU] using w1) ((hsm.trans w2).wide (by decide))
    refine xP_s rfl rfl rfl ?_
    refine xP_s rfl rfl rfl ?_
    refine xP_s rfl rfl rfl ?_
    refine xP_if (fun hc => ?_) (fun hc => ?_)
    · repeat' first
        | refine xP_s rfl rfl rfl ?_
        | refine xP_ret rfl rfl rfl ?_
      exact k2
    · repeat' first
        | refine xP_s rfl rfl rfl ?_
        | refine xP_ret rfl rfl rfl ?_
      exact k2
  | succ k ih =>
    intro i A o hk h26 ho hr hsm kk
    refine step (k + 1) i A o hk h26 ho (by omega) (fun A2 w1 w2 => ?_)
    have e : 10 ^ (k + 1) / 10 = 10 ^ k := by rw [Nat.pow_succ, Nat.mul_div_cancel _ (by omega)]
    rw [e]
    exact ih (i + 1) A2 _ (by omega) ((w2.2 26 (by decide)).trans h26) w1 (by rw [List.length_append, List.length_singleton]; omega) ((hsm.trans w2).wide (by decide)) (fun A3 v1 v2 => kk A3 (by rw [List.append_assoc] at v1; exact v1) v2)
set_option maxHeartbeats 4000000 in
set_option maxRecDepth 100000 in
theorem p_winteger {A : List xC} {o : List Nat} {x : Int32} (h26 : xWo A) (ho : xRw A 3 1200 o) (hr : o.length + (intW x.toInt).length ≤ 1200)
    (k : ∀ A', xRw A' 3 1200 (o ++ intW x.toInt) → xSame A A' [3, 4] → P (.inl none) (A', g)) : xM1 sc (d + 1) 125 [.ref 26, .int x] (A, g) P := by
  have h26' := h26
  unfold xWo at h26'
  have hx1 : -2147483648 ≤ x.toInt := Int32.le_toInt x
  have hx2 : x.toInt < 2147483648 := Int32.toInt_lt x
  have hl := lgF_le 10 0 x.toInt.natAbs
  have tail : ∀ A2 o2, xWo A2 → xRw A2 3 1200 o2 → o2.length + (ten x.toInt.natAbs).length ≤ 1200 → xSame A A2 [3, 4] → o2 ++ ten x.toInt.natAbs = o ++ intW x.toInt → xP sc (d + 1) 125 21 [(0, .ref 26), (1, .int x), (2, .long (lN x.toInt.natAbs))] [] (A2, g) P := by
    intro A2 o2 w1 w2 w3 w4 w5
    obtain ⟨kx, hkx⟩ : ∃ kx, lgF 10 0 x.toInt.natAbs = kx := ⟨_, rfl⟩
    rw [hkx] at hl
    unfold ten at w3
    rw [hkx, dgU_len] at w3
    have go := p_unitLoop (sc := sc) (d := d) (g := g) (P := P) (A := A2) (x := x) (n := x.toInt.natAbs) (by omega) 10 0 rfl (fun i' => by
      rw [hkx]
      have dl := p_digitLoop (sc := sc) (d := d) (g := g) (P := P) (x := x) (A0 := A) (n := x.toInt.natAbs) (by omega) kx 0 A2 o2 (by omega) w1 w2 (by omega) w4 (fun A' r1 r2 => k A' (by rw [← w5]; unfold ten; rw [hkx]; exact r1) r2)
      clear hkx
      refine xP_s rfl rfl rfl ?_
      refine xP_s rfl rfl rfl ?_
      exact dl)
    refine xP_s rfl rfl rfl ?_
    refine xP_s rfl rfl rfl ?_
    refine xP_s rfl rfl rfl ?_
    refine xP_s rfl rfl rfl ?_
    exact go
  have hlx : x.toInt64.toInt = x.toInt := Int32.toInt_toInt64 x
  have hcg := lg_cmp_ge x.toInt64 0
  rw [Int32.le_iff_toInt_le, Int64.le_iff_toInt_le, hlx] at hcg
  have h0 : (0 : Int32).toInt = 0 := rfl
  have h0l : (0 : Int64).toInt = 0 := rfl
  rw [h0, h0l] at hcg
  unfold xM1
  refine xP_s rfl rfl rfl ?_
  refine xP_s rfl rfl rfl ?_
  refine xP_s rfl rfl rfl ?_
  refine xP_s rfl rfl rfl ?_
  refine xP_s rfl rfl rfl ?_
  refine xP_s rfl rfl rfl ?_
  refine xP_s rfl rfl rfl ?_
  refine xP_if (fun hc => ?_) (fun hc => ?_)
  · have z : (0 : Int) ≤ (lg_cmp x.toInt64 0).toInt := xc_t hc
    have hpos : 0 ≤ x.toInt := hcg.mp z
    have el : x.toInt64 = lN x.toInt.natAbs := Int64.toInt_inj.mp (by rw [hlx, lN_T (by omega)]; omega)
    have ei : intW x.toInt = ten x.toInt.natAbs := by unfold intW; rw [if_neg (by omega)]; rfl
    rw [ei] at hr
    have go := tail A o h26 ho hr (xSame.refl _ _) (by rw [ei])
    rw [← el] at go
    exact go
  · have z : (lg_cmp x.toInt64 0).toInt < 0 := xc_f hc
    have hneg : x.toInt < 0 := by
      by_cases q : x.toInt < 0
      · exact q
      · exact absurd z (Int.not_lt.mpr (hcg.mpr (Int.not_lt.mp q)))
    have el : -x.toInt64 = lN x.toInt.natAbs := Int64.toInt_inj.mp (by
      rw [Int64.toInt_neg, hlx, lN_T (by omega), Int.bmod_eq_of_le (by omega) (by omega)]
      omega)
    have ei : intW x.toInt = [45] ++ ten x.toInt.natAbs := by unfold intW; rw [if_pos hneg]
    rw [ei, List.length_append, List.length_singleton] at hr
    refine xP_s rfl rfl rfl ?_
    refine xP_get rfl h26' rfl ?_
    refine xP_s rfl rfl rfl ?_
    refine xP_cv rfl rfl rfl rfl rfl ho.obj (p_add (c := 45) ho (by decide) (by decide) (by decide) (by omega) (fun A2 w1 w2 => ?_))
    have go := tail A2 _ ((w2.2 26 (by decide)).trans h26) w1 (by rw [List.length_append, List.length_singleton]; omega) w2 (by rw [ei, List.append_assoc])
    rw [← el] at go
    refine xP_s rfl rfl rfl ?_
    refine xP_s rfl rfl rfl ?_
    refine xP_s rfl rfl rfl ?_
    exact go
end WC
