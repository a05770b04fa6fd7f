-- switches; signs, marks, digits; packed names
theorem xP_sw {sc : xSc} {d mi : Nat} {ls : xL} {st : List Value} {h : xH} {P : xO → xH → Prop} {df : Nat} {x : Int32} : ∀ {l : List (Int32 × Nat)}, (∀ q ∈ l, x = q.1 → xP sc d mi q.2 ls st h P) → ((∀ q ∈ l, ¬ x = q.1) → xP sc d mi df ls st h P) → xP sc d mi (xsw df x l) ls st h P
  | [], _, kd => kd (fun q hq => absurd hq List.not_mem_nil)
  | q :: r, kq, kd => by
    unfold xsw
    split
    next h1 => exact kq q List.mem_cons_self h1
    next h1 => exact xP_sw (fun z hz => kq z (List.mem_cons_of_mem _ hz)) (fun hz => kd (fun z hm => by
      rcases List.mem_cons.mp hm with e | e
      · subst e; exact h1
      · exact hz z e))
def sgL : List Nat := [35, 36, 38, 42, 43, 45, 46, 47, 58, 60, 61, 62, 63, 64, 92, 94, 126]
def pnL : List Nat := [40, 41, 44, 91, 93, 123, 124, 125]
def isSm (c : Nat) : Bool := decide (97 ≤ c) && decide (c ≤ 122)
def isLg (c : Nat) : Bool := decide (65 ≤ c) && decide (c ≤ 90)
def isDg (c : Nat) : Bool := decide (48 ≤ c) && decide (c ≤ 57)
def isWd (c : Nat) : Bool := isSm c || (isLg c || (isDg c || decide (c = 95)))
def isSg (c : Nat) : Bool := sgL.contains c
def isPn (c : Nat) : Bool := pnL.contains c
def sgI (x : Int32) : Bool := [35, 36, 38, 42, 43, 45, 46, 47, 58, 60, 61, 62, 63, 64, 92, 94, 126].contains x
def pnI (x : Int32) : Bool := [40, 41, 44, 91, 93, 123, 124, 125].contains x
theorem iIn_nI {lo hi c : Nat} (h : c < 2 ^ 31) : iIn lo hi (nI c) = (decide (lo ≤ c) && decide (c ≤ hi)) := by
  unfold iIn
  rw [nI_toInt h]
  simp
theorem isW_nI {c : Nat} (h : c < 2 ^ 31) : isW (nI c) = isWd c := by
  unfold isW isWd
  have e1 : iIn 97 122 (nI c) = isSm c := iIn_nI (lo := 97) (hi := 122) h
  have e2 : iIn 65 90 (nI c) = isLg c := iIn_nI (lo := 65) (hi := 90) h
  have e3 : iIn 48 57 (nI c) = isDg c := iIn_nI (lo := 48) (hi := 57) h
  rw [e1, e2, e3, nI_toInt h]
  have e4 : decide ((c : Int) = 95) = decide (c = 95) := decide_eq_decide.mpr (by omega)
  rw [e4]
theorem sgI_nI : ∀ c, c < 128 → sgI (nI c) = isSg c := by decide
theorem pnI_nI : ∀ c, c < 128 → pnI (nI c) = isPn c := by decide
set_option maxRecDepth 100000 in
theorem p_isSign {sc : xSc} {d g : Nat} {A : List xC} {x : Int32} {P : xO → xH → Prop} (k : P (.inl (some (.int (xb (sgI x))))) (A, g)) : xM1 sc d 205 [.int x] (A, g) P := by
  unfold xM1
  refine xP_s rfl rfl rfl ?_
  refine xP_s rfl rfl rfl ?_
  refine xP_sw (fun q hq hx => ?_) (fun hx => ?_)
  · have e : sgI x = true := by
      subst hx
      clear k
      revert q
      decide
    have e2 : q.2 = 148 := by
      clear hx e k
      revert q
      decide
    rw [e2]
    rw [e] at k
    repeat' first
      | refine xP_s rfl rfl rfl ?_
      | refine xP_ret rfl rfl rfl ?_
    exact k
  · have e : sgI x = false := by
      simp only [List.mem_cons, List.not_mem_nil, or_false, forall_eq_or_imp, forall_eq] at hx
      simp [sgI, hx]
    rw [e] at k
    repeat' first
      | refine xP_s rfl rfl rfl ?_
      | refine xP_ret rfl rfl rfl ?_
    exact k
set_option maxRecDepth 100000 in
theorem p_isPunctuation {sc : xSc} {d g : Nat} {A : List xC} {x : Int32} {P : xO → xH → Prop} (k : P (.inl (some (.int (xb (pnI x))))) (A, g)) : xM1 sc d 206 [.int x] (A, g) P := by
  unfold xM1
  refine xP_s rfl rfl rfl ?_
  refine xP_s rfl rfl rfl ?_
  refine xP_sw (fun q hq hx => ?_) (fun hx => ?_)
  · have e : pnI x = true := by
      subst hx
      clear k
      revert q
      decide
    have e2 : q.2 = 76 := by
      clear hx e k
      revert q
      decide
    rw [e2]
    rw [e] at k
    repeat' first
      | refine xP_s rfl rfl rfl ?_
      | refine xP_ret rfl rfl rfl ?_
    exact k
  · have e : pnI x = false := by
      simp only [List.mem_cons, List.not_mem_nil, or_false, forall_eq_or_imp, forall_eq] at hx
      simp [pnI, hx]
    rw [e] at k
    repeat' first
      | refine xP_s rfl rfl rfl ?_
      | refine xP_ret rfl rfl rfl ?_
    exact k
/-- what a digit is worth -/
def dgI (b : Bool) (x : Int32) : Int32 := if iIn 48 57 x then x - 48 else if b && iIn 97 102 x then x - 97 + 10 else -1
set_option maxRecDepth 100000 in
theorem p_digit {sc : xSc} {d g : Nat} {A : List xC} {x : Int32} {b : Bool} {P : xO → xH → Prop} (k : P (.inl (some (.int (dgI b x)))) (A, g)) : xM1 sc (d + 1) 207 [.int x, .int (if b then 16 else 10)] (A, g) P := by
  have h1 : (97 : Int32).toInt = 97 := rfl
  have h2 : (102 : Int32).toInt = 102 := rfl
  unfold xM1
  cases b
  · repeat' first
      | refine xP_s rfl rfl rfl ?_
      | refine xP_call rfl rfl rfl (p_isDigit ?_)
      | refine xP_if (fun hc => ?_) (fun hc => ?_)
      | refine xP_ret rfl rfl rfl ?_
    all_goals
      simp only [xb_ne0, xb_eq0, Bool.not_eq_true', Bool.not_eq_false'] at *
    all_goals simp_all [dgI]
  · repeat' first
      | refine xP_s rfl rfl rfl ?_
      | refine xP_call rfl rfl rfl (p_isDigit ?_)
      | refine xP_if (fun hc => ?_) (fun hc => ?_)
      | refine xP_ret rfl rfl rfl ?_
    · have t1 := xc_t hc
      dsimp only at t1
      have e : iIn 97 102 x = false := by simp only [iIn, Bool.and_eq_false_iff, decide_eq_false_iff_not]; omega
      simp_all [dgI, xb_eq0]
    · have t1 := xc_t hc
      dsimp only at t1
      have e : iIn 97 102 x = false := by simp only [iIn, Bool.and_eq_false_iff, decide_eq_false_iff_not]; omega
      simp_all [dgI, xb_eq0]
    · rename_i q
      have t1 := xc_f hc
      have t2 := xc_f q
      dsimp only at t1 t2
      have e : iIn 97 102 x = true := by simp only [iIn, Bool.and_eq_true, decide_eq_true_eq]; omega
      simp_all [dgI, xb_eq0]
    · simp_all [dgI, xb_eq0]
/-- a byte of a long -/
def bN (s : Int64) (i : Nat) : Nat := s.toBitVec.toNat / 256 ^ i % 256
theorem bN_lt (s : Int64) (i : Nat) : bN s i < 256 := Nat.mod_lt _ (by omega)
/-- the bytes from i on, up to the first that is 0 -/
def tx (s : Int64) : Nat → Nat → List Nat
  | 0, _ => []
  | n + 1, i => if bN s i = 0 then [] else bN s i :: tx s n (i + 1)
abbrev txt (s : Int64) : List Nat := tx s 8 0
theorem x_byteL (s : Int64) : ∀ i, i < 8 → ((s.toUInt64 >>> ((8 * nI i).toInt64.toUInt64 &&& Int64.toUInt64 63)).toInt64 &&& 255) = lN (bN s i) := by
  intro i hi
  have hsh : ((8 * nI i).toInt64.toUInt64 &&& Int64.toUInt64 63) = UInt64.ofNat (8 * i) := by
    revert i
    decide
  rw [hsh]
  have h8 : (256 : Nat) ^ i = 2 ^ (8 * i) := by rw [Nat.pow_mul]
  apply Int64.toBitVec_inj.mp
  apply BitVec.eq_of_toNat_eq
  have e1 : ((255 : Int64)).toBitVec = 255#64 := rfl
  have hm : 8 * i % 18446744073709551616 % 64 = 8 * i := by omega
  rw [Int64.toBitVec_and, e1, BitVec.toNat_and]
  have e2 : (s.toUInt64 >>> UInt64.ofNat (8 * i)).toInt64.toBitVec.toNat = s.toBitVec.toNat / 2 ^ (8 * i) := by
    show (s.toUInt64 >>> UInt64.ofNat (8 * i)).toBitVec.toNat = _
    show (s.toUInt64.toBitVec >>> ((UInt64.ofNat (8 * i)).toBitVec % 64).toNat).toNat = _
    rw [BitVec.toNat_ushiftRight, BitVec.toNat_umod]
    rw [Nat.shiftRight_eq_div_pow]
    have : (UInt64.ofNat (8 * i)).toBitVec.toNat = 8 * i := Nat.mod_eq_of_lt (by omega)
    rw [this]
    have : 8 * i % BitVec.toNat (64 : BitVec 64) = 8 * i := Nat.mod_eq_of_lt (by show _ < 64; omega)
    rw [this]
    rfl
  rw [e2]
  have e3 : (255#64).toNat = 2 ^ 8 - 1 := rfl
  rw [e3, Nat.and_two_pow_sub_one_eq_mod]
  have e4 : (lN (bN s i)).toBitVec.toNat = bN s i := Nat.mod_eq_of_lt (by unfold bN; omega)
  rw [e4, bN, h8]
/-- lN and packed names -/
def pn : List Nat → Nat
  | [] => 0
  | c :: l => c + 256 * pn l
theorem pn_tx (s : Int64) : ∀ n i, pn (tx s n i) = s.toBitVec.toNat / 256 ^ i % 256 ^ (tx s n i).length
  | 0, i => by simp [tx, pn, Nat.mod_one]
  | n + 1, i => by
    unfold tx
    split
    · simp [pn, Nat.mod_one]
    · rw [pn, pn_tx s n (i + 1), List.length_cons, Nat.pow_succ (m := (tx s n (i + 1)).length), Nat.mul_comm (256 ^ (tx s n (i + 1)).length) 256, Nat.mod_mul, bN, Nat.pow_succ, Nat.div_div_eq_div_mul]
theorem tx_len (s : Int64) : ∀ n i, (tx s n i).length ≤ n
  | 0, i => by simp [tx]
  | n + 1, i => by
    unfold tx
    split
    · simp
    · have := tx_len s n (i + 1)
      simp
      omega
theorem tx_get (s : Int64) : ∀ n i k c, (tx s n i)[k]? = some c → bN s (i + k) = c ∧ c ≠ 0
  | 0, i, k, c, h => by simp [tx] at h
  | n + 1, i, k, c, h => by
    unfold tx at h
    split at h
    · simp at h
    · rename_i hz
      match k, h with
      | 0, h =>
        simp at h
        exact ⟨h, h ▸ hz⟩
      | k + 1, h =>
        simp at h
        have := tx_get s n (i + 1) k c h
        rwa [Nat.add_right_comm, Nat.add_assoc i k 1] at this
theorem tx_end (s : Int64) : ∀ n i, (tx s n i).length < n → bN s (i + (tx s n i).length) = 0
  | 0, i, h => by omega
  | n + 1, i, h => by
    unfold tx at h ⊢
    split
    next hz => simpa using hz
    next hz =>
      rw [if_neg hz] at h
      simp at h
      have := tx_end s n (i + 1) h
      rw [List.length_cons, ← Nat.add_assoc, Nat.add_right_comm]
      exact this
theorem lN_bv {n : Nat} (h : n < 2 ^ 64) : (lN n).toBitVec.toNat = n := Nat.mod_eq_of_lt h
theorem x_or {a c i : Nat} (hi : i < 8) (ha : a < 256 ^ i) (hc : c < 256) : lN a ||| ((lN c &&& 255) <<< ((8 * nI i).toInt64 &&& 63)) = lN (a + c * 256 ^ i) := by
  have hsh : ((8 * nI i).toInt64 &&& 63) = Int64.ofNat (8 * i) := by
    clear ha
    revert i
    decide
  rw [hsh]
  have h8 : (256 : Nat) ^ i = 2 ^ (8 * i) := by rw [Nat.pow_mul]
  have hb : (2 : Nat) ^ (8 * i) * 256 ≤ 2 ^ 64 := by
    rw [show (256 : Nat) = 2 ^ 8 from rfl, ← Nat.pow_add]
    exact Nat.pow_le_pow_right (by omega) (by omega)
  have hm : c * 256 ^ i + 256 ^ i ≤ 2 ^ 64 := by
    rw [h8]
    have := Nat.mul_le_mul_right (2 ^ (8 * i)) (show c + 1 ≤ 256 by omega)
    rw [Nat.add_mul, Nat.one_mul, Nat.mul_comm 256] at this
    omega
  apply Int64.toBitVec_inj.mp
  apply BitVec.eq_of_toNat_eq
  rw [lN_bv (by omega), Int64.toBitVec_or, BitVec.toNat_or, lN_bv (by omega)]
  have e1 : ((lN c &&& 255) <<< Int64.ofNat (8 * i)).toBitVec.toNat = c * 2 ^ (8 * i) := by
    show ((lN c &&& 255).toBitVec <<< ((Int64.ofNat (8 * i)).toBitVec.smod 64).toNat).toNat = _
    have e0 : ((Int64.ofNat (8 * i)).toBitVec.smod 64).toNat = 8 * i := by
      clear ha hm hsh h8 hb
      revert i
      decide
    have e2 : ((255 : Int64)).toBitVec = 255#64 := rfl
    have e3 : (255#64).toNat = 2 ^ 8 - 1 := rfl
    rw [e0, BitVec.toNat_shiftLeft, Int64.toBitVec_and, BitVec.toNat_and, e2, e3, Nat.and_two_pow_sub_one_eq_mod, lN_bv (by omega), Nat.mod_eq_of_lt (show c < 2 ^ 8 by omega), Nat.shiftLeft_eq]
    exact Nat.mod_eq_of_lt (by rw [← h8]; omega)
  rw [e1, h8, Nat.or_comm, Nat.add_comm, ← Nat.shiftLeft_eq, Nat.shiftLeft_add_eq_or_of_lt (by rw [← h8]; exact ha)]
theorem x_and (s : Int64) {i : Nat} (hi : i < 8) : s &&& ((1 : Int64) <<< ((8 * nI i).toInt64 &&& 63) - 1) = lN (s.toBitVec.toNat % 256 ^ i) := by
  have h8 : (256 : Nat) ^ i = 2 ^ (8 * i) := by rw [Nat.pow_mul]
  have hsh : ((1 : Int64) <<< ((8 * nI i).toInt64 &&& 63) - 1).toBitVec.toNat = 2 ^ (8 * i) - 1 := by
    clear h8
    revert i
    decide
  apply Int64.toBitVec_inj.mp
  apply BitVec.eq_of_toNat_eq
  rw [Int64.toBitVec_and, BitVec.toNat_and, hsh, Nat.and_two_pow_sub_one_eq_mod, h8]
  exact (lN_bv (by have := Nat.mod_le s.toBitVec.toNat (2 ^ (8 * i)); omega)).symm
theorem lN_bvs (s : Int64) : lN s.toBitVec.toNat = s := by
  apply Int64.toBitVec_inj.mp
  apply BitVec.eq_of_toNat_eq
  exact lN_bv s.toBitVec.isLt
/-- the name that a long tells, as it is kept -/
def trm (s : Int64) : Int64 := lN (pn (txt s))
set_option maxRecDepth 100000 in
theorem p_byteAt {sc : xSc} {d g i : Nat} {A : List xC} {s : Int64} {P : xO → xH → Prop} (hi : i < 8) (k : P (.inl (some (.int (nI (bN s i))))) (A, g)) : xM1 sc d 208 [.long s, .int (nI i)] (A, g) P := by
  have hI : (nI i).toInt = (i : Int) := nI_toInt (by omega)
  have h8 : (8 : Int32).toInt = 8 := rfl
  have h0 : (0 : Int32).toInt = 0 := rfl
  unfold xM1
  repeat' first
    | refine xP_s rfl rfl rfl ?_
    | refine xP_if (fun hc => ?_) (fun hc => ?_)
    | refine xP_ret rfl rfl rfl ?_
  · have := xc_t hc
    dsimp only at this
    omega
  · have := xc_t hc
    dsimp only at this
    omega
  · have e := x_byteL s i hi
    rw [← lN_i, ← e] at k
    exact k
set_option maxRecDepth 100000 in
theorem p_sizeLoop {sc : xSc} {d g : Nat} {A : List xC} {s : Int64} {P : xO → xH → Prop} : ∀ m i, i + m = 8 → P (.inl (some (.int (nI (i + (tx s m i).length))))) (A, g) → xP sc (d + 1) 209 2 [(0, .long s), (2, .int (nI i))] [] (A, g) P
  | 0, i, hm, k => by
    have hI : (nI i).toInt = (i : Int) := nI_toInt (by omega)
    have h8 : (8 : Int32).toInt = 8 := rfl
    refine xP_s rfl rfl rfl ?_
    refine xP_s rfl rfl rfl ?_
    refine xP_s rfl rfl rfl ?_
    refine xP_if (fun hc => ?_) (fun hc => ?_)
    · repeat' first
        | refine xP_s rfl rfl rfl ?_
        | refine xP_ret rfl rfl rfl ?_
      have e : i = 8 := by omega
      subst e
      exact k
    · have := xc_f hc
      dsimp only at this
      omega
  | m + 1, i, hm, k => by
    have hI : (nI i).toInt = (i : Int) := nI_toInt (by omega)
    have h8 : (8 : Int32).toInt = 8 := rfl
    have h0 : (0 : Int32).toInt = 0 := rfl
    have hb := bN_lt s i
    have hB : (nI (bN s i)).toInt = (bN s i : Int) := nI_toInt (by omega)
    unfold tx at k
    refine xP_s rfl rfl rfl ?_
    refine xP_s rfl rfl rfl ?_
    refine xP_s rfl rfl rfl ?_
    refine xP_if (fun hc => ?_) (fun hc => ?_)
    · have := xc_t hc
      dsimp only at this
      omega
    · refine xP_s rfl rfl rfl ?_
      refine xP_s rfl rfl rfl ?_
      refine xP_call rfl rfl rfl (p_byteAt (by omega) ?_)
      refine xP_s rfl rfl rfl ?_
      refine xP_if (fun hc => ?_) (fun hc => ?_)
      · have hz := xc_t hc
        dsimp only at hz
        rw [if_neg (by omega)] at k
        refine xP_s rfl rfl rfl ?_
        refine xP_s rfl rfl rfl ?_
        have go := p_sizeLoop (sc := sc) (d := d) (g := g) (A := A) (s := s) (P := P) m (i + 1) (by omega) (by
          rw [List.length_cons] at k
          rw [show i + 1 + (tx s m (i + 1)).length = i + ((tx s m (i + 1)).length + 1) by omega]
          exact k)
        rw [← nI_1] at go
        exact go
      · have hz := xc_f hc
        dsimp only at hz
        rw [if_pos (by omega)] at k
        repeat' first
          | refine xP_s rfl rfl rfl ?_
          | refine xP_ret rfl rfl rfl ?_
        exact k
set_option maxRecDepth 100000 in
theorem p_size {sc : xSc} {d g : Nat} {A : List xC} {s : Int64} {P : xO → xH → Prop} (k : P (.inl (some (.int (nI (txt s).length)))) (A, g)) : xM1 sc (d + 1) 209 [.long s] (A, g) P := by
  unfold xM1
  refine xP_s rfl rfl rfl ?_
  refine xP_s rfl rfl rfl ?_
  exact p_sizeLoop 8 0 rfl (by simpa using k)
set_option maxRecDepth 100000 in
theorem p_trimmed {sc : xSc} {d g : Nat} {A : List xC} {s : Int64} {P : xO → xH → Prop} (k : P (.inl (some (.long (trm s)))) (A, g)) : xM1 sc (d + 2) 210 [.long s] (A, g) P := by
  have hl : (txt s).length ≤ 8 := tx_len s 8 0
  have hI : (nI (txt s).length).toInt = ((txt s).length : Int) := nI_toInt (by omega)
  have h8 : (8 : Int32).toInt = 8 := rfl
  have ht : pn (txt s) = s.toBitVec.toNat / 256 ^ 0 % 256 ^ (txt s).length := pn_tx s 8 0
  rw [Nat.pow_zero, Nat.div_one] at ht
  unfold xM1
  repeat' first
    | refine xP_s rfl rfl rfl ?_
    | refine xP_call rfl rfl rfl (p_size ?_)
    | refine xP_if (fun hc => ?_) (fun hc => ?_)
    | refine xP_ret rfl rfl rfl ?_
  · have hz := xc_t hc
    dsimp only at hz
    have e := x_and s (i := (txt s).length) (by omega)
    unfold trm at k
    rw [ht, ← e] at k
    exact k
  · have hz := xc_f hc
    dsimp only at hz
    have e : (txt s).length = 8 := by omega
    unfold trm at k
    rw [ht, e, Nat.mod_eq_of_lt (by exact s.toBitVec.isLt), lN_bvs] at k
    exact k
