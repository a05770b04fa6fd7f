-- the reference: single, hex, number
theorem toI (n : Nat) (h : n < 2 ^ 31) : (nI n).toInt = (n : Int) := nI_toInt h
def dgJ (c : Nat) : Int32 := match dg true c with
  | some x => nI x
  | none => -1
set_option maxRecDepth 100000 in
theorem dgJ_d : ∀ c, c < 128 → isDg c = true → dgJ c = nI c - 48 := by decide
set_option maxRecDepth 100000 in
theorem dgJ_h : ∀ c, c < 128 → 97 ≤ c → c ≤ 102 → dgJ c = nI c - 97 + 10 := by decide
set_option maxRecDepth 100000 in
theorem dgJ_n : ∀ c, c < 128 → isDg c = false → (c < 97 ∨ 102 < c) → dgJ c = -1 := by decide
theorem dgJ_O (s : List Nat) : dgJ (oz s 0) = (match dgO true s with
  | some x => nI x
  | none => -1) := by
  cases s with
  | nil => decide
  | cons c r => rfl
theorem dgO_f {s : List Nat} (h : isDg (oz s 0) = false) : dgO false s = none := by
  cases s with
  | nil => rfl
  | cons c r =>
    rw [oz_c] at h
    show dg false c = none
    unfold dg
    rw [if_neg (by simp [h]), if_neg (by simp)]
theorem dgO_t {s : List Nat} (h : isDg (oz s 0) = true) : ∃ x, dgO false s = some x := by
  cases s with
  | nil => exact absurd h (by decide)
  | cons c r =>
    rw [oz_c] at h
    refine ⟨c - 48, ?_⟩
    show dg false c = some (c - 48)
    unfold dg
    rw [if_pos h]
theorem dg_tr {b : Bool} {c x : Nat} (h : dg b c = some x) : dg true c = some x := by
  cases b with
  | true => exact h
  | false =>
    unfold dg at h ⊢
    split at h
    next hc => rw [if_pos hc]; exact h
    next hc =>
      rw [if_neg (by simp)] at h
      cases h
/-- digits read with a sum that stops growing -/
def dgE (b : Bool) (s : List Nat) (m m' : Nat) (s' : List Nat) : Prop := (m ≤ 2147483647 → (m' ≤ 2147483647 ∧ dgr b s m = some (m', s')) ∨ (2147483647 < m' ∧ dgr b s m = none)) ∧ (2147483647 < m → m' = m)
theorem dgE_stop {b : Bool} {s : List Nat} {m : Nat} (h : dgO b s = none) : dgE b s m m s := by
  refine ⟨fun hm => Or.inl ⟨hm, ?_⟩, fun _ => rfl⟩
  cases s with
  | nil => rfl
  | cons c r =>
    have h' : dg b c = none := h
    unfold dgr
    rw [h']
theorem dgE_step {b : Bool} {c x m m' : Nat} {r s' : List Nat} (h : dg b c = some x) (hm : m ≤ 2147483647) (hr : dgE b r (m * bas b + x) m' s') : dgE b (c :: r) m m' s' := by
  have e : dgr b (c :: r) m = (if 2147483647 < m * bas b + x then none else dgr b r (m * bas b + x)) := by
    conv => lhs; unfold dgr
    rw [h]
  refine ⟨fun _ => ?_, fun q => by omega⟩
  rw [e]
  rcases Nat.lt_or_ge 2147483647 (m * bas b + x) with z | z
  · rw [if_pos z]
    have := hr.2 z
    exact Or.inr ⟨by omega, rfl⟩
  · rw [if_neg (by omega)]
    exact hr.1 z
theorem dgE_frozen {b : Bool} {c m m' : Nat} {r s' : List Nat} (hm : 2147483647 < m) (hr : dgE b r m m' s') : dgE b (c :: r) m m' s' := ⟨fun q => by omega, fun _ => hr.2 hm⟩
section MW
variable {sc : xSc} {d g : Nat} {A B C : List xC} {v : Nat → Int32} {a : Nat → Nat → Int32} {o : Nat → Int64} {t : List Nat} {P : xO → xH → Prop}
set_option maxRecDepth 100000 in
theorem q_hex {c : Nat} (hc : c < 128) (k : P (.inl (some (.int (dgJ c)))) (A, g)) : xM1 sc (d + 1) 160 [.int (nI c)] (A, g) P := by
  have h97 : (97 : Int32).toInt = 97 := rfl
  have h102 : (102 : Int32).toInt = 102 := rfl
  have h3 : (nI c).toInt = (c : Int) := toI c (by omega)
  unfold xM1
  refine xP_s rfl rfl rfl ?_
  refine xP_call rfl rfl rfl (q_isDigit hc ?_)
  refine xP_s rfl rfl rfl ?_
  rw [xb_eq0]
  refine xP_if (fun hq => ?_) (fun hq => ?_)
  · have hd : isDg c = false := by simpa using hq
    have no : (c < 97 ∨ 102 < c) → xP sc (d + 1) 160 36 [(0, .int (nI c))] [] (A, g) P := by
      intro hn
      rw [dgJ_n c hc hd hn] at k
      repeat' first
        | refine xP_s rfl rfl rfl ?_
        | refine xP_ret rfl rfl rfl ?_
      exact k
    refine xP_s rfl rfl rfl ?_
    refine xP_s rfl rfl rfl ?_
    refine xP_s rfl rfl rfl ?_
    refine xP_if (fun h1 => ?_) (fun h1 => ?_)
    · have z := xc_t h1
      dsimp only at z
      exact no (Or.inl (by omega))
    · have z := xc_f h1
      dsimp only at z
      refine xP_s rfl rfl rfl ?_
      refine xP_s rfl rfl rfl ?_
      refine xP_s rfl rfl rfl ?_
      refine xP_if (fun h2 => ?_) (fun h2 => ?_)
      · have z2 := xc_t h2
        dsimp only at z2
        exact no (Or.inr (by omega))
      · have z2 := xc_f h2
        dsimp only at z2
        rw [dgJ_h c hc (by omega) (by omega)] at k
        repeat' first
          | refine xP_s rfl rfl rfl ?_
          | refine xP_ret rfl rfl rfl ?_
        exact k
  · have hd : isDg c = true := by simpa using hq
    rw [dgJ_d c hc hd] at k
    repeat' first
      | refine xP_s rfl rfl rfl ?_
      | refine xP_ret rfl rfl rfl ?_
    exact k
set_option maxRecDepth 100000 in
theorem q_digStep {x1 : Int32} {b : Bool} {s : List Nat} {i : Nat} {L : Int64} (hB : B.length = 28) (ht : zT v a t) (hd : t.drop i = s) (hi : i ≤ t.length)
    (stop : dgO b s = none → xP sc (d + 2) 161 218 [(0, .ref 28), (1, .int x1), (2, .int (nI i)), (3, .int (xb b)), (4, .int (if b = true then 16 else 10)), (5, .long L)] [] (mH B C v a o, g) P)
    (go : ∀ x, dgO b s = some x → xP sc (d + 2) 161 180 [(0, .ref 28), (1, .int x1), (2, .int (nI i)), (3, .int (xb b)), (4, .int (if b = true then 16 else 10)), (5, .long L)] [] (mH B C v a o, g) P) :
    xP sc (d + 2) 161 151 [(0, .ref 28), (1, .int x1), (2, .int (nI i)), (3, .int (xb b)), (4, .int (if b = true then 16 else 10)), (5, .long L)] [] (mH B C v a o, g) P := by
  have h120 := ht.2.1
  have hlt : oz s 0 < 128 := by
    rw [← oz_0 hd]
    exact ht.lt i
  have h0 : (0 : Int32).toInt = 0 := rfl
  refine xP_s rfl rfl rfl ?_
  refine xP_s rfl rfl rfl ?_
  rw [xb_eq0]
  refine xP_if (fun hq => ?_) (fun hq => ?_)
  · cases b with
    | true => exact absurd hq (by decide)
    | false =>
      refine xP_s rfl rfl rfl ?_
      refine xP_s rfl rfl rfl ?_
      refine xP_cv rfl rfl rfl rfl rfl (mH_28 hB) (q_charAt hB ht (by omega) (oz_0 hd) ?_)
      refine xP_call rfl rfl rfl (q_isDigit hlt ?_)
      refine xP_s rfl rfl rfl ?_
      rw [xb_eq0]
      refine xP_if (fun h1 => ?_) (fun h1 => ?_)
      · exact stop (dgO_f (by simpa using h1))
      · obtain ⟨x, hx⟩ := dgO_t (s := s) (by simpa using h1)
        exact go x hx
  · cases b with
    | false => exact absurd hq (by decide)
    | true =>
      refine xP_s rfl rfl rfl ?_
      refine xP_s rfl rfl rfl ?_
      refine xP_cv rfl rfl rfl rfl rfl (mH_28 hB) (q_charAt hB ht (by omega) (oz_0 hd) ?_)
      refine xP_call rfl rfl rfl (q_hex hlt ?_)
      rw [dgJ_O s]
      refine xP_s rfl rfl rfl ?_
      refine xP_if (fun h1 => ?_) (fun h1 => ?_)
      · cases hx : dgO true s with
        | none => exact stop hx
        | some x =>
          rw [hx] at h1
          have z := xc_t h1
          dsimp only at z
          have hx16 : x < 16 := by
            cases s with
            | nil => cases hx
            | cons c r => exact dg_lt hx
          have := toI x (by omega)
          omega
      · cases hx : dgO true s with
        | none =>
          rw [hx] at h1
          exact absurd h1 (by decide)
        | some x =>
          refine xP_s rfl rfl rfl ?_
          exact go x hx
set_option maxRecDepth 100000 in
theorem q_digLoop {x1 : Int32} {b : Bool} (hB : B.length = 28) (ht : zT v a t) : ∀ (s : List Nat) (i m : Nat), t.drop i = s → i ≤ t.length → m < 2 ^ 36 →
    (∀ i' m', i' ≤ t.length → m' < 2 ^ 36 → dgE b s m m' (t.drop i') → xP sc (d + 2) 161 218 [(0, .ref 28), (1, .int x1), (2, .int (nI i')), (3, .int (xb b)), (4, .int (if b = true then 16 else 10)), (5, .long (lN m'))] [] (mH B C v a o, g) P) →
    xP sc (d + 2) 161 151 [(0, .ref 28), (1, .int x1), (2, .int (nI i)), (3, .int (xb b)), (4, .int (if b = true then 16 else 10)), (5, .long (lN m))] [] (mH B C v a o, g) P
  | [], i, m, hd, hi, hm, k => q_digStep hB ht hd hi (fun hn => k i m hi hm (by rw [hd]; exact dgE_stop hn)) (fun x hx => by cases hx)
  | c :: r, i, m, hd, hi, hm, k => by
    refine q_digStep hB ht hd hi (fun hn => k i m hi hm (by rw [hd]; exact dgE_stop hn)) (fun x hx => ?_)
    have h120 := ht.2.1
    obtain ⟨hd', hi'⟩ := drop_c hd
    have hlt : c < 128 := by
      have := ht.lt i
      rwa [oz_0 hd] at this
    have hx' : dg b c = some x := hx
    have hx16 := dg_lt hx'
    have hcm := lcI m (by omega)
    have h0 : (0 : Int32).toInt = 0 := rfl
    have hbas : bas b ≤ 16 := by cases b <;> decide
    have eJ : dgJ c = nI x := by
      unfold dgJ
      rw [dg_tr hx']
    refine xP_s rfl rfl rfl ?_
    refine xP_s rfl rfl rfl ?_
    refine xP_s rfl rfl rfl ?_
    refine xP_s rfl rfl rfl ?_
    refine xP_if (fun h1 => ?_) (fun h1 => ?_)
    · have z := xc_t h1
      dsimp only at z
      have z := hcm.mp z
      have hmul : m * bas b ≤ 2147483647 * 16 := Nat.mul_le_mul z hbas
      have ev : lN m * (if b = true then (16 : Int32) else 10).toInt64 + (nI x).toInt64 = lN (m * bas b + x) := by
        rw [bas_l, nI_l (by omega), lN_mul, lN_add]
      have go := q_digLoop hB ht r (i + 1) (m * bas b + x) hd' hi' (by omega) (fun i' m' y1 y2 y3 => k i' m' y1 y2 (dgE_step hx' z y3))
      rw [← nI_p1 i] at go
      refine xP_s rfl rfl rfl ?_
      refine xP_s rfl rfl rfl ?_
      refine xP_s rfl rfl rfl ?_
      refine xP_s rfl rfl rfl ?_
      refine xP_s rfl rfl rfl ?_
      refine xP_s rfl rfl rfl ?_
      refine xP_cv rfl rfl rfl rfl rfl (mH_28 hB) (q_charAt (c := c) hB ht (by omega) (oz_0 hd) ?_)
      refine xP_call rfl rfl rfl (q_hex hlt ?_)
      rw [eJ]
      refine xP_s rfl rfl rfl ?_
      refine xP_s rfl rfl rfl ?_
      rw [ev]
      refine xP_s rfl rfl rfl ?_
      refine xP_s rfl rfl rfl ?_
      refine xP_s rfl rfl rfl ?_
      exact go
    · have z := xc_f h1
      dsimp only at z
      have z : 2147483647 < m := by
        rcases Nat.lt_or_ge 2147483647 m with y | y
        · exact y
        · have := hcm.mpr y
          omega
      have go := q_digLoop hB ht r (i + 1) m hd' hi' hm (fun i' m' y1 y2 y3 => k i' m' y1 y2 (dgE_frozen z y3))
      rw [← nI_p1 i] at go
      refine xP_s rfl rfl rfl ?_
      refine xP_s rfl rfl rfl ?_
      refine xP_s rfl rfl rfl ?_
      refine xP_s rfl rfl rfl ?_
      refine xP_s rfl rfl rfl ?_
      exact go
def nT (c : Nat) (r : List Nat) : xTok := match lexN c r with
  | some q => (3, q.1, [], q.2)
  | none => wrg
theorem zK_3 {v' : Nat → Int32} {i m : Nat} (hi : i ≤ t.length) (h120 : t.length ≤ 120) (h20 : v' 20 = 1) (h22 : v' 22 = nI i) (h23 : v' 23 = nI m) : zK t v' a (3, m, [], t.drop i) :=
  ⟨by simp, h20, ⟨i, by omega, h22, fun _ => by dsimp only; rw [List.length_drop]; omega⟩, fun h => absurd h (by simp), fun _ => h23⟩
theorem zK_7 {v' : Nat → Int32} {i : Nat} (hi : i ≤ 1000) (h20 : v' 20 = 7) (h22 : v' 22 = nI i) : zK t v' a wrg :=
  ⟨by decide, h20, ⟨i, hi, h22, fun h => absurd h (by decide)⟩, fun h => absurd h (by decide), fun h => absurd h (by decide)⟩
set_option maxHeartbeats 4000000 in
set_option maxRecDepth 100000 in
theorem q_number {p c : Nat} {r : List Nat} (hB : B.length = 28) (ht : zT v a t) (hd : t.drop p = c :: r) (hp : p ≤ t.length)
    (k : ∀ v', zK t v' a (nT c r) → vS v v' [20, 22, 23] → P (.inl none) (mH B C v' a o, g)) : xM1 sc (d + 2) 161 [.ref 28, .int (nI p)] (mH B C v a o, g) P := by
  have h120 := ht.2.1
  have hl := drop_l2 hd hp
  rw [List.length_cons] at hl
  obtain ⟨hd1, hp1⟩ := drop_c hd
  have hd2 : t.drop (p + 2) = r.tail := by
    have : t.drop (p + 1 + 1) = r.tail := by rw [← hd1, List.tail_drop]
    exact this
  have hlt : c < 128 := by
    have := ht.lt p
    rwa [oz_0 hd] at this
  have hlt1 : oz r 0 < 128 := by
    have := ht.lt (p + 1)
    rwa [oz_0 hd1] at this
  have hlt2 : oz r.tail 0 < 128 := by
    have := ht.lt (p + 2)
    rwa [oz_0 hd2] at this
  have hC := toI c (by omega)
  have hC1 := toI (oz r 0) (by omega)
  have hC2 := toI (oz r.tail 0) (by omega)
  have h0 : (0 : Int32).toInt = 0 := rfl
  have h39 : (39 : Int32).toInt = 39 := rfl
  have h48 : (48 : Int32).toInt = 48 := rfl
  have h92 : (92 : Int32).toInt = 92 := rfl
  have h120' : (120 : Int32).toInt = 120 := rfl
  have hL := toI t.length (by omega)
  have hP2 := toI (p + 2) (by omega)
  have ht1 : zT (upd v 20 1) a t := ht.same (vS.u _ _ _) (aS.refl _ []) (by decide) (by decide)
  have hv1 : vS v (upd v 20 1) [20, 22, 23] := (vS.u v 20 1).wide (by decide)
  have hv20 : upd v 20 1 20 = 1 := upd_s
  generalize hV : upd v 20 1 = w at *
  -- behind the digits
  have fin : ∀ (b : Bool) (i m : Nat), i ≤ t.length → m < 2 ^ 36 → ((m ≤ 2147483647 ∧ lexN c r = some (m, t.drop i)) ∨ (2147483647 < m ∧ lexN c r = none)) → xP sc (d + 2) 161 218 [(0, .ref 28), (1, .int (nI p)), (2, .int (nI i)), (3, .int (xb b)), (4, .int (if b = true then 16 else 10)), (5, .long (lN m))] [] (mH B C w a o, g) P := by
    intro b i m hi hm hr
    have hcm := lcI m (by omega)
    refine xP_s rfl rfl rfl ?_
    refine xP_s rfl rfl rfl ?_
    refine xP_zp rfl hB rfl rfl ?_
    refine xP_s rfl rfl rfl ?_
    refine xP_s rfl rfl rfl ?_
    refine xP_s rfl rfl rfl ?_
    refine xP_s rfl rfl rfl ?_
    refine xP_s rfl rfl rfl ?_
    refine xP_if (fun h1 => ?_) (fun h1 => ?_)
    · have z := xc_t h1
      dsimp only at z
      have z := hcm.mp z
      have e : nT c r = (3, m, [], t.drop i) := by
        rcases hr with y | y
        · unfold nT
          rw [y.2]
        · omega
      rw [e] at k
      refine xP_s rfl rfl rfl ?_
      refine xP_zp rfl hB rfl rfl ?_
      refine xP_s rfl rfl rfl ?_
      refine xP_s rfl rfl rfl ?_
      refine xP_s rfl rfl rfl ?_
      rw [lN_i]
      refine xP_zp rfl hB rfl rfl ?_
      repeat' first
        | refine xP_s rfl rfl rfl ?_
        | refine xP_ret rfl rfl rfl ?_
      exact k _ (zK_3 hi h120 (by rw [upd_n (by decide), upd_s]) (by rw [upd_n (by decide), upd_n (by decide), upd_s]) upd_s) (((hv1.up (by decide)).up (by decide)).up (by decide))
    · have z := xc_f h1
      dsimp only at z
      have z : 2147483647 < m := by
        rcases Nat.lt_or_ge 2147483647 m with y | y
        · exact y
        · have := hcm.mpr y
          omega
      have e : nT c r = wrg := by
        rcases hr with y | y
        · omega
        · unfold nT
          rw [y.2]
      rw [e] at k
      refine xP_s rfl rfl rfl ?_
      refine xP_s rfl rfl rfl ?_
      refine xP_zp rfl hB rfl rfl ?_
      refine xP_s rfl rfl rfl ?_
      refine xP_s rfl rfl rfl ?_
      refine xP_s rfl rfl rfl ?_
      refine xP_zp rfl hB rfl rfl ?_
      repeat' first
        | refine xP_s rfl rfl rfl ?_
        | refine xP_ret rfl rfl rfl ?_
      exact k _ (zK_7 (i := i) (by omega) (by rw [upd_n (by decide), upd_s]) (by rw [upd_n (by decide), upd_n (by decide), upd_s])) (((hv1.up (by decide)).up (by decide)).up (by decide))
  -- digits
  have dec : ¬ (c = 48 ∧ r.head? = some 39) → ¬ (c = 48 ∧ r.head? = some 120 ∧ (dgO true r.tail).isSome = true) → xP sc (d + 2) 161 121 [(0, .ref 28), (1, .int (nI p)), (2, .int (nI p))] [] (mH B C w a o, g) P := by
    intro n1 n2
    have e : lexN c r = dgr false (c :: r) 0 := by
      unfold lexN
      rw [if_neg n1, if_neg n2]
    have go : ∀ y, y = nI p → xP sc (d + 2) 161 151 [(0, .ref 28), (1, .int (nI p)), (2, .int y), (3, .int 0), (4, .int 10), (5, .long 0)] [] (mH B C w a o, g) P := by
      intro y hy
      rw [hy]
      refine q_digLoop (b := false) hB ht1 (c :: r) p 0 hd hp (by omega) (fun i' m' y1 y2 y3 => fin false i' m' y1 y2 ?_)
      rw [e]
      exact y3.1 (by omega)
    have g0 := go (nI p + 0) (nI_add p 0)
    repeat' first
      | exact g0
      | refine xP_s rfl rfl rfl ?_
  have hx : c = 48 → r.head? = some 120 → (dgO true r.tail).isSome = true → xP sc (d + 2) 161 117 [(0, .ref 28), (1, .int (nI p)), (2, .int (nI p))] [] (mH B C w a o, g) P := by
    intro n1 n2 n3
    have e : lexN c r = dgr true r.tail 0 := by
      unfold lexN
      rw [if_neg (by rw [n2]; simp), if_pos ⟨n1, n2, n3⟩]
    have hp2 : p + 2 ≤ t.length := by
      cases r with
      | nil => cases n2
      | cons x r2 =>
        rw [List.length_cons] at hl
        omega
    have go : ∀ y, y = nI (p + 2) → xP sc (d + 2) 161 151 [(0, .ref 28), (1, .int (nI p)), (2, .int y), (3, .int 1), (4, .int 16), (5, .long 0)] [] (mH B C w a o, g) P := by
      intro y hy
      rw [hy]
      refine q_digLoop (b := true) hB ht1 r.tail (p + 2) 0 hd2 hp2 (by omega) (fun i' m' y1 y2 y3 => fin true i' m' y1 y2 ?_)
      rw [e]
      exact y3.1 (by omega)
    have g0 := go (nI p + 2) (nI_p2 p)
    repeat' first
      | exact g0
      | refine xP_s rfl rfl rfl ?_
  have num : ¬ (c = 48 ∧ r.head? = some 39) → xP sc (d + 2) 161 82 [(0, .ref 28), (1, .int (nI p)), (2, .int (nI p))] [] (mH B C w a o, g) P := by
    intro n1
    refine xP_s rfl rfl rfl ?_
    refine xP_s rfl rfl rfl ?_
    refine xP_cv rfl rfl rfl rfl rfl (mH_28 hB) (q_charAt (c := c) hB ht1 (by omega) (oz_0 hd) ?_)
    refine xP_s rfl rfl rfl ?_
    refine xP_s rfl rfl rfl ?_
    refine xP_if (fun h1 => ?_) (fun h1 => ?_)
    · have z := xc_t h1
      dsimp only at z
      exact dec n1 (fun q => by omega)
    · have z := xc_f h1
      dsimp only at z
      refine xP_s rfl rfl rfl ?_
      refine xP_s rfl rfl rfl ?_
      refine xP_s rfl rfl rfl ?_
      refine xP_s rfl rfl rfl ?_
      rw [nI_p1]
      refine xP_cv rfl rfl rfl rfl rfl (mH_28 hB) (q_charAt hB ht1 (by omega) (oz_0 hd1) ?_)
      refine xP_s rfl rfl rfl ?_
      refine xP_s rfl rfl rfl ?_
      refine xP_if (fun h2 => ?_) (fun h2 => ?_)
      · have z2 := xc_t h2
        dsimp only at z2
        refine dec n1 (fun q => z2 ?_)
        rw [(hd_oz (by decide)).mp q.2.1]
        rfl
      · have z2 := xc_f h2
        dsimp only at z2
        have y2 : r.head? = some 120 := (hd_oz (by decide)).mpr (by omega)
        refine xP_s rfl rfl rfl ?_
        refine xP_s rfl rfl rfl ?_
        refine xP_s rfl rfl rfl ?_
        refine xP_s rfl rfl rfl ?_
        rw [nI_p2]
        refine xP_cv rfl rfl rfl rfl rfl (mH_28 hB) (q_charAt hB ht1 (by omega) (oz_0 hd2) ?_)
        refine xP_call rfl rfl rfl (q_hex hlt2 ?_)
        rw [dgJ_O r.tail]
        refine xP_s rfl rfl rfl ?_
        refine xP_if (fun h3 => ?_) (fun h3 => ?_)
        · cases hx3 : dgO true r.tail with
          | none => exact dec n1 (fun q => by rw [hx3] at q; exact absurd q.2.2 (by decide))
          | some x =>
            rw [hx3] at h3
            have z := xc_t h3
            dsimp only at z
            have hx16 : x < 16 := by
              cases hy : r.tail with
              | nil =>
                rw [hy] at hx3
                cases hx3
              | cons c r =>
                rw [hy] at hx3
                exact dg_lt hx3
            have := toI x (by omega)
            omega
        · cases hx3 : dgO true r.tail with
          | none =>
            rw [hx3] at h3
            exact absurd h3 (by decide)
          | some x => exact hx (by omega) y2 (by rw [hx3]; rfl)
  unfold xM1
  refine xP_s rfl rfl rfl ?_
  refine xP_s rfl rfl rfl ?_
  refine xP_s rfl rfl rfl ?_
  refine xP_s rfl rfl rfl ?_
  refine xP_zp rfl hB rfl rfl ?_
  rw [hV]
  refine xP_s rfl rfl rfl ?_
  refine xP_s rfl rfl rfl ?_
  refine xP_cv rfl rfl rfl rfl rfl (mH_28 hB) (q_charAt (c := c) hB ht1 (by omega) (oz_0 hd) ?_)
  refine xP_s rfl rfl rfl ?_
  refine xP_s rfl rfl rfl ?_
  refine xP_if (fun h1 => ?_) (fun h1 => ?_)
  · have z := xc_t h1
    dsimp only at z
    exact num (fun q => by omega)
  · have z := xc_f h1
    dsimp only at z
    refine xP_s rfl rfl rfl ?_
    refine xP_s rfl rfl rfl ?_
    refine xP_s rfl rfl rfl ?_
    refine xP_s rfl rfl rfl ?_
    rw [nI_p1]
    refine xP_cv rfl rfl rfl rfl rfl (mH_28 hB) (q_charAt hB ht1 (by omega) (oz_0 hd1) ?_)
    refine xP_s rfl rfl rfl ?_
    refine xP_s rfl rfl rfl ?_
    refine xP_if (fun h2 => ?_) (fun h2 => ?_)
    · have z2 := xc_t h2
      dsimp only at z2
      refine num (fun q => z2 ?_)
      rw [(hd_oz (by decide)).mp q.2]
      rfl
    · have z2 := xc_f h2
      dsimp only at z2
      have y2 : r.head? = some 39 := (hd_oz (by decide)).mpr (by omega)
      have e : lexN c r = (match r.tail with
          | [] => none
          | x :: r3 => if x = 39 ∨ x = 92 then none else some (x, r3)) := by
        unfold lexN
        rw [if_pos ⟨by omega, y2⟩]
        rfl
      have bad : lexN c r = none → xP sc (d + 2) 161 60 [(0, .ref 28), (1, .int (nI p)), (2, .int (nI p)), (3, .int (nI (oz r.tail 0)))] [.ref 28] (mH B C w a o, g) P := by
        intro hn
        have e : nT c r = wrg := by
          unfold nT
          rw [hn]
        rw [e] at k
        refine xP_s rfl rfl rfl ?_
        refine xP_s rfl rfl rfl ?_
        refine xP_zp rfl hB rfl rfl ?_
        refine xP_s rfl rfl rfl ?_
        refine xP_s rfl rfl rfl ?_
        refine xP_zp rfl hB rfl rfl ?_
        refine xP_s rfl rfl rfl ?_
        refine xP_s rfl rfl rfl ?_
        refine xP_s rfl rfl rfl ?_
        refine xP_s rfl rfl rfl ?_
        rw [nI_p3]
        refine xP_zp rfl hB rfl rfl ?_
        repeat' first
          | refine xP_s rfl rfl rfl ?_
          | refine xP_ret rfl rfl rfl ?_
        exact k _ (zK_7 (i := p + 3) (by omega) (by rw [upd_n (by decide), upd_n (by decide), upd_s]) upd_s) (((hv1.up (by decide)).up (by decide)).up (by decide))
      refine xP_s rfl rfl rfl ?_
      refine xP_s rfl rfl rfl ?_
      refine xP_s rfl rfl rfl ?_
      refine xP_s rfl rfl rfl ?_
      rw [nI_p2]
      refine xP_cv rfl rfl rfl rfl rfl (mH_28 hB) (q_charAt hB ht1 (by omega) (oz_0 hd2) ?_)
      refine xP_s rfl rfl rfl ?_
      refine xP_s rfl rfl rfl ?_
      refine xP_s rfl rfl rfl ?_
      refine xP_s rfl rfl rfl ?_
      refine xP_s rfl rfl rfl ?_
      rw [nI_p2]
      refine xP_s rfl rfl rfl ?_
      refine xP_zg rfl hB rfl ht1.1 ?_
      refine xP_s rfl rfl rfl ?_
      refine xP_if (fun h3 => ?_) (fun h3 => ?_)
      · have z3 := xc_t h3
        dsimp only at z3
        refine bad ?_
        have : r.tail = [] := by
          rw [← hd2]
          exact List.drop_eq_nil_of_le (by omega)
        rw [e, this]
      · have z3 := xc_f h3
        dsimp only at z3
        obtain ⟨x, r3, h4⟩ : ∃ x r3, r.tail = x :: r3 := by
          cases hy : r.tail with
          | nil =>
            rw [hy] at hd2
            have := congrArg List.length hd2
            rw [List.length_drop, List.length_nil] at this
            omega
          | cons x r3 => exact ⟨x, r3, rfl⟩
        have ex : oz r.tail 0 = x := by rw [h4]; rfl
        rw [ex] at hC2 bad
        rw [ex]
        rw [h4] at e hd2
        obtain ⟨hd3, hp3⟩ := drop_c hd2
        dsimp only at e
        refine xP_s rfl rfl rfl ?_
        refine xP_s rfl rfl rfl ?_
        refine xP_s rfl rfl rfl ?_
        refine xP_if (fun h5 => ?_) (fun h5 => ?_)
        · have z5 := xc_t h5
          dsimp only at z5
          exact bad (by rw [e, if_pos (Or.inl (by omega))])
        · have z5 := xc_f h5
          dsimp only at z5
          refine xP_s rfl rfl rfl ?_
          refine xP_s rfl rfl rfl ?_
          refine xP_s rfl rfl rfl ?_
          refine xP_if (fun h6 => ?_) (fun h6 => ?_)
          · have z6 := xc_t h6
            dsimp only at z6
            have e2 : nT c r = (3, x, [], t.drop (p + 2 + 1)) := by
              unfold nT
              rw [e, if_neg (fun q => by omega), hd3]
            rw [e2] at k
            refine xP_s rfl rfl rfl ?_
            refine xP_zp rfl hB rfl rfl ?_
            refine xP_s rfl rfl rfl ?_
            refine xP_s rfl rfl rfl ?_
            refine xP_zp rfl hB rfl rfl ?_
            refine xP_s rfl rfl rfl ?_
            refine xP_s rfl rfl rfl ?_
            refine xP_s rfl rfl rfl ?_
            refine xP_s rfl rfl rfl ?_
            rw [nI_p3]
            refine xP_zp rfl hB rfl rfl ?_
            repeat' first
              | refine xP_s rfl rfl rfl ?_
              | refine xP_ret rfl rfl rfl ?_
            exact k _ (zK_3 (by omega) h120 (by rw [upd_n (by decide), upd_n (by decide), upd_s]) upd_s (by rw [upd_n (by decide), upd_s])) (((hv1.up (by decide)).up (by decide)).up (by decide))
          · have z6 := xc_f h6
            dsimp only at z6
            exact bad (by rw [e, if_pos (Or.inr (by omega))])
end MW
