-- calls on objects; packed names of rows; operators' names
def xcall0 (r : xRow) (st : List Value) : Option (List Value × List Value) :=
  if r.2.2.2.1 ≤ st.length then (if ((st.drop r.2.2.2.1).map fun v => v.category).sum ≤ 8 then (if (lg_sl (st.take r.2.2.2.1).reverse).length ≤ (xme r.2.2.1).2.2.1 then some ((st.take r.2.2.2.1).reverse, st.drop r.2.2.2.1) else none) else none) else none
theorem xcall0_of {r : xRow} {st : List Value} {A : List xC} {q : List Value × List Value} {a ci : Nat} {fs tl : List Value} (hq : xcall0 r st = some q) (hci : (xme r.2.2.1).2.2.2.2.1 = ci) (hq1 : q.1 = .ref a :: tl) (hA : A[a]? = some (.inr (ci, fs))) : xcall r st A = some q := by
  unfold xcall0 at hq
  unfold xcall
  split at hq
  next h1 =>
    split at hq
    next h2 =>
      split at hq
      next h3 =>
        have e : q = ((st.take r.2.2.2.1).reverse, st.drop r.2.2.2.1) := (Option.some.inj hq).symm
        have e1 : (st.take r.2.2.2.1).reverse = .ref a :: tl := by rw [← hq1, e]
        have hrv : xrecv (xme r.2.2.1).2.2.2.2.1 A (st.take r.2.2.2.1).reverse = true := by
          unfold xrecv
          split
          · rfl
          · rw [e1]
            simp [hA, hci]
        rw [if_pos h1, if_pos h2, if_pos hrv, if_pos h3, e]
      next => cases hq
    next => cases hq
  next => cases hq
theorem xP_cv {sc : xSc} {d mi pc : Nat} {ls : xL} {st : List Value} {P : xO → xH → Prop} {r : xRow} {q : List Value × List Value} {A : List xC} {g a ci : Nat} {fs tl : List Value} (hrow : xrow mi pc = some r) (hk : xkd r = 2) (hq : xcall0 r st = some q) (hci : (xme r.2.2.1).2.2.2.2.1 = ci) (hq1 : q.1 = .ref a :: tl) (hA : A[a]? = some (.inr (ci, fs)))
    (k : xM1 sc d r.2.2.1 q.1 (A, g) (fun o h1 => match o with
      | .inl v => xP sc (d + 1) mi (pc + 3) ls (v.toList ++ q.2) h1 P
      | .inr ev => ∃ t, xhnd mi pc ev = some t ∧ xP sc (d + 1) mi t.1 (ls.filter fun z => !(z.1 == t.2) && !(z.1 + 1 == t.2 && z.2.category == 2)) [] h1 P)) : xP sc (d + 1) mi pc ls st (A, g) P :=
  xP_call hrow hk (xcall0_of hq hci hq1 hA) k
theorem xRw.obj {A : List xC} {a cap : Nat} {t : List Nat} (h : xRw A a cap t) : A[a]? = some (.inr (1, [.ref (a + 1), .int (nI t.length)])) := by
  obtain ⟨f, q1, _, _, _⟩ := h
  exact q1
theorem xRw.len {A : List xC} {a cap : Nat} {t : List Nat} (h : xRw A a cap t) : t.length ≤ cap := by
  obtain ⟨f, _, _, q, _⟩ := h
  exact q
theorem xRw.chr {A : List xC} {a cap : Nat} {t : List Nat} (h : xRw A a cap t) : ∀ c ∈ t, c < 128 := by
  obtain ⟨f, _, _, _, q⟩ := h
  intro c hc
  obtain ⟨i, hi⟩ := List.mem_iff_getElem?.mp hc
  exact (q i c hi).1
theorem cAt_get {t : List Nat} {i c : Nat} (hi : i < 2 ^ 31) (h : t[i]? = some c) : cAt t (nI i) = nI c := by
  have e := nI_toInt hi
  exact cAt_in (by omega) (by rw [e]; simpa using h)
theorem cAt_off {t : List Nat} {i : Nat} (hi : i < 2 ^ 31) (h : t[i]? = none) : cAt t (nI i) = -1 := by
  have e := nI_toInt hi
  have := List.getElem?_eq_none_iff.mp h
  exact cAt_out (by omega)
/-- the key of a name -/
def kL (l : List Nat) : Int64 := if 1 ≤ l.length ∧ l.length ≤ 8 then lN (pn l) else 0
theorem pn_lt : ∀ {l : List Nat}, (∀ c ∈ l, c < 256) → pn l < 256 ^ l.length
  | [], _ => by simp [pn]
  | c :: l, h => by
    have h1 := h c List.mem_cons_self
    have h2 := pn_lt (fun x hx => h x (List.mem_cons_of_mem c hx))
    rw [pn, List.length_cons, Nat.pow_succ]
    omega
theorem pn_snoc : ∀ (l : List Nat) (c : Nat), pn (l ++ [c]) = pn l + c * 256 ^ l.length
  | [], c => by simp [pn]
  | a :: l, c => by
    rw [List.cons_append, pn, pn, pn_snoc l c, List.length_cons, Nat.pow_succ, Nat.mul_add, Nat.mul_comm (256 ^ l.length) 256, Nat.mul_left_comm, Nat.add_assoc]
set_option maxRecDepth 100000 in
theorem p_ofRowLoop {sc : xSc} {d g a cap z : Nat} {A : List xC} {t l : List Nat} {P : xO → xH → Prop} (hr : xRw A a cap t) (hcap : cap < 2 ^ 30) (ha : ¬ a + 1 = xscr) (hl : l.length ≤ 8) (hz : z + l.length ≤ t.length) (hg : ∀ i c, l[i]? = some c → t[z + i]? = some c)
    (k : P (.inl (some (.long (lN (pn l))))) (A, g)) : ∀ m i, i + m = l.length → xP sc (d + 1) 212 18 [(0, .ref a), (1, .int (nI z)), (2, .int (nI l.length)), (3, .long (lN (pn (l.take i)))), (5, .int (nI i))] [] (A, g) P
  | 0, i, hm => by
    have hI : (nI i).toInt = (i : Int) := nI_toInt (by omega)
    have hL : (nI l.length).toInt = (l.length : Int) := nI_toInt (by omega)
    refine xP_s rfl rfl rfl ?_
    refine xP_s rfl rfl rfl ?_
    refine xP_s rfl rfl rfl ?_
    refine xP_if (fun hc => ?_) (fun hc => ?_)
    · repeat' first
        | refine xP_s rfl rfl rfl ?_
        | refine xP_ret rfl rfl rfl ?_
      rw [List.take_of_length_le (by omega)]
      exact k
    · have := xc_f hc
      dsimp only at this
      omega
  | m + 1, i, hm => by
    have hI : (nI i).toInt = (i : Int) := nI_toInt (by omega)
    have hL : (nI l.length).toInt = (l.length : Int) := nI_toInt (by omega)
    obtain ⟨c, hc0⟩ : ∃ c, l[i]? = some c := ⟨l[i]'(by omega), List.getElem?_eq_getElem (by omega)⟩
    have hlt := hr.chr
    have hc1 : c < 128 := hlt c (List.mem_of_getElem? (hg i c hc0))
    have hlen := hr.len
    refine xP_s rfl rfl rfl ?_
    refine xP_s rfl rfl rfl ?_
    refine xP_s rfl rfl rfl ?_
    refine xP_if (fun hc => ?_) (fun hc => ?_)
    · have := xc_t hc
      dsimp only at this
      omega
    · refine xP_s rfl rfl rfl ?_
      refine xP_s rfl rfl rfl ?_
      refine xP_s rfl rfl rfl ?_
      refine xP_s rfl rfl rfl ?_
      refine xP_s rfl rfl rfl ?_
      refine xP_cv rfl rfl rfl rfl rfl hr.obj (p_at hr (by omega) ha ?_)
      have e1 : nI z + nI i = nI (z + i) := nI_add z i
      rw [e1, cAt_get (by omega) (hg i c hc0)]
      have e2 : (nI c).toInt64 = lN c := nI_l (by omega)
      have hp : pn (l.take i) < 256 ^ i := by
        have := pn_lt (l := l.take i) (fun x hx => by
          obtain ⟨j, hj⟩ := List.mem_iff_getElem?.mp hx
          have hj2 : l[j]? = some x := by
            rw [List.getElem?_take] at hj
            split at hj
            · exact hj
            · cases hj
          have := hlt x (List.mem_of_getElem? (hg j x hj2))
          omega)
        rwa [List.length_take, Nat.min_eq_left (by omega)] at this
      have e3 := x_or (a := pn (l.take i)) (c := c) (i := i) (by omega) hp (by omega)
      have e4 : pn (l.take (i + 1)) = pn (l.take i) + c * 256 ^ i := by
        rw [List.take_add_one, hc0]
        simp only [Option.toList]
        rw [pn_snoc, List.length_take, Nat.min_eq_left (by omega)]
      have go := p_ofRowLoop (sc := sc) (d := d) (g := g) (P := P) hr hcap ha hl hz hg k m (i + 1) (by omega)
      rw [e4, ← e3, ← nI_1, ← e2] at go
      repeat' first
        | exact go
        | refine xP_s rfl rfl rfl ?_
set_option maxRecDepth 100000 in
theorem p_ofRow {sc : xSc} {d g a cap z n : Nat} {A : List xC} {t l : List Nat} {P : xO → xH → Prop} (hr : xRw A a cap t) (hcap : cap < 2 ^ 30) (ha : ¬ a + 1 = xscr) (hn : n = l.length) (hz : z + l.length ≤ t.length) (hg : ∀ i c, l[i]? = some c → t[z + i]? = some c)
    (k : P (.inl (some (.long (kL l)))) (A, g)) : xM1 sc (d + 1) 212 [.ref a, .int (nI z), .int (nI n)] (A, g) P := by
  subst hn
  have hlen := hr.len
  have hL : (nI l.length).toInt = (l.length : Int) := nI_toInt (by omega)
  have h1 : (1 : Int32).toInt = 1 := rfl
  have h8 : (8 : Int32).toInt = 8 := rfl
  unfold xM1
  refine xP_s rfl rfl rfl ?_
  refine xP_s rfl rfl rfl ?_
  refine xP_s rfl rfl rfl ?_
  refine xP_if (fun hc => ?_) (fun hc => ?_)
  · have := xc_t hc
    dsimp only at this
    repeat' first
      | refine xP_s rfl rfl rfl ?_
      | refine xP_ret rfl rfl rfl ?_
    unfold kL at k
    rw [if_neg (by omega)] at k
    exact k
  · have q := xc_f hc
    dsimp only at q
    refine xP_s rfl rfl rfl ?_
    refine xP_s rfl rfl rfl ?_
    refine xP_s rfl rfl rfl ?_
    refine xP_if (fun hc => ?_) (fun hc => ?_)
    · have := xc_t hc
      dsimp only at this
      unfold kL at k
      rw [if_pos (by omega)] at k
      refine xP_s rfl rfl rfl ?_
      refine xP_s rfl rfl rfl ?_
      refine xP_s rfl rfl rfl ?_
      refine xP_s rfl rfl rfl ?_
      exact p_ofRowLoop hr hcap ha (by omega) hz hg k l.length 0 (by omega)
    · have := xc_f hc
      dsimp only at this
      repeat' first
        | refine xP_s rfl rfl rfl ?_
        | refine xP_ret rfl rfl rfl ?_
      unfold kL at k
      rw [if_neg (by omega)] at k
      exact k
/-- what may be an operator's name -/
def opn (l : List Nat) : Bool := (l.all isSm || l.all isSg) && !(l.isEmpty || (l == [46] || l.take 2 == [47, 42]))
set_option maxRecDepth 100000 in
theorem sgI_nI2 : ∀ c, c < 256 → sgI (nI c) = isSg c := by decide

theorem sm_nI {c : Nat} (h : c < 2 ^ 31) : iIn 97 122 (nI c) = isSm c := iIn_nI (lo := 97) (hi := 122) h
theorem p_isSmallN {sc : xSc} {d g c : Nat} {A : List xC} {b : Bool} {P : xO → xH → Prop} (hb : isSm c = b) (hc : c < 2 ^ 31) (k : P (.inl (some (.int (xb b)))) (A, g)) : xM1 sc d 201 [.int (nI c)] (A, g) P := by
  refine p_isSmall ?_
  rw [sm_nI hc, hb]
  exact k
theorem p_isSignN {sc : xSc} {d g c : Nat} {A : List xC} {b : Bool} {P : xO → xH → Prop} (hb : isSg c = b) (hc : c < 256) (k : P (.inl (some (.int (xb b)))) (A, g)) : xM1 sc d 205 [.int (nI c)] (A, g) P := by
  refine p_isSign ?_
  rw [sgI_nI2 c hc, hb]
  exact k
/-- how many of them -/
def cnt (p : Nat → Bool) : List Nat → Nat
  | [] => 0
  | c :: l => (if p c then 1 else 0) + cnt p l
theorem cnt_le (p : Nat → Bool) : ∀ l, cnt p l ≤ l.length
  | [] => Nat.le_refl _
  | c :: l => by
    have := cnt_le p l
    rw [cnt, List.length_cons]
    split <;> omega
theorem cnt_all (p : Nat → Bool) : ∀ l, (cnt p l = l.length) ↔ (l.all p = true)
  | [] => by simp [cnt]
  | c :: l => by
    have h1 := cnt_le p l
    have h2 := cnt_all p l
    rw [cnt, List.length_cons, List.all_cons]
    cases hp : p c
    · simp
      omega
    · simp only [if_true, Bool.true_and]
      rw [← h2]
      omega
theorem nI_ite (p : Bool) (n : Nat) : nI n + (if p = true then (1 : Int32) else 0) = nI (n + if p = true then 1 else 0) := by
  cases p
  · exact nI_add n 0
  · exact nI_1 n
set_option maxRecDepth 100000 in
theorem p_opnLoop {sc : xSc} {d g : Nat} {A : List xC} {s : Int64} {n : Nat} {P : xO → xH → Prop} (hn : n ≤ 8) :
    ∀ m i x y, i + m = n → x ≤ i → y ≤ i → (∀ (x' y' : Nat), x' = x + cnt isSm ((List.range' i m).map (bN s)) → y' = y + cnt isSg ((List.range' i m).map (bN s)) → xP sc (d + 1) 213 67 [(0, .long s), (2, .int (nI n)), (3, .int (nI x')), (4, .int (nI y')), (5, .int (nI n))] [] (A, g) P) →
      xP sc (d + 1) 213 13 [(0, .long s), (2, .int (nI n)), (3, .int (nI x)), (4, .int (nI y)), (5, .int (nI i))] [] (A, g) P
  | 0, i, x, y, hm, hx, hy, k => by
    have hI : (nI i).toInt = (i : Int) := nI_toInt (by omega)
    have hL : (nI n).toInt = (n : Int) := nI_toInt (by omega)
    have e : i = n := by omega
    subst e
    refine xP_s rfl rfl rfl ?_
    refine xP_s rfl rfl rfl ?_
    refine xP_s rfl rfl rfl ?_
    refine xP_if (fun hc => ?_) (fun hc => ?_)
    · exact k x y rfl rfl
    · have := xc_f hc
      dsimp only at this
      omega
  | m + 1, i, x, y, hm, hx, hy, k => by
    have hI : (nI i).toInt = (i : Int) := nI_toInt (by omega)
    have hL : (nI n).toInt = (n : Int) := nI_toInt (by omega)
    have hb := bN_lt s i
    refine xP_s rfl rfl rfl ?_
    refine xP_s rfl rfl rfl ?_
    refine xP_s rfl rfl rfl ?_
    refine xP_if (fun hc => ?_) (fun hc => ?_)
    · have := xc_t hc
      dsimp only at this
      omega
    · have go := fun hx' hy' => p_opnLoop (sc := sc) (d := d) (g := g) (A := A) (s := s) (P := P) hn m (i + 1) (x + if isSm (bN s i) = true then 1 else 0) (y + if isSg (bN s i) = true then 1 else 0) (by omega) hx' hy' (fun x' y' e1 e2 => k x' y' (by
        rw [e1, List.range'_succ, List.map_cons, cnt, Nat.add_assoc]) (by
        rw [e2, List.range'_succ, List.map_cons, cnt, Nat.add_assoc]))
      have go1 := go (by split <;> omega) (by split <;> omega)
      rw [← nI_ite, ← nI_ite, ← nI_1] at go1
      cases hs : isSm (bN s i)
      · cases hg : isSg (bN s i)
        · rw [hs, hg] at go1
          repeat' first
            | exact go1
            | refine xP_s rfl rfl rfl ?_
            | refine xP_call rfl rfl rfl (p_byteAt (by omega) ?_)
            | refine xP_call rfl rfl rfl (p_isSmallN hs (by omega) ?_)
            | refine xP_call rfl rfl rfl (p_isSignN hg hb ?_)
        · rw [hs, hg] at go1
          repeat' first
            | exact go1
            | refine xP_s rfl rfl rfl ?_
            | refine xP_call rfl rfl rfl (p_byteAt (by omega) ?_)
            | refine xP_call rfl rfl rfl (p_isSmallN hs (by omega) ?_)
            | refine xP_call rfl rfl rfl (p_isSignN hg hb ?_)
      · cases hg : isSg (bN s i)
        · rw [hs, hg] at go1
          repeat' first
            | exact go1
            | refine xP_s rfl rfl rfl ?_
            | refine xP_call rfl rfl rfl (p_byteAt (by omega) ?_)
            | refine xP_call rfl rfl rfl (p_isSmallN hs (by omega) ?_)
            | refine xP_call rfl rfl rfl (p_isSignN hg hb ?_)
        · rw [hs, hg] at go1
          repeat' first
            | exact go1
            | refine xP_s rfl rfl rfl ?_
            | refine xP_call rfl rfl rfl (p_byteAt (by omega) ?_)
            | refine xP_call rfl rfl rfl (p_isSmallN hs (by omega) ?_)
            | refine xP_call rfl rfl rfl (p_isSignN hg hb ?_)
theorem tx_map (s : Int64) : ∀ n i, tx s n i = (List.range' i (tx s n i).length).map (bN s)
  | 0, i => by simp [tx]
  | n + 1, i => by
    unfold tx
    split
    · simp
    · rw [List.length_cons, List.range'_succ, List.map_cons, ← tx_map s n (i + 1)]
theorem pn_inj : ∀ {a b : List Nat}, (∀ c ∈ a, c < 256 ∧ c ≠ 0) → (∀ c ∈ b, c < 256 ∧ c ≠ 0) → pn a = pn b → a = b
  | [], [], _, _, _ => rfl
  | [], c :: l, _, hb, h => by
    have := hb c List.mem_cons_self
    rw [pn, pn] at h
    omega
  | c :: l, [], ha, _, h => by
    have := ha c List.mem_cons_self
    rw [pn, pn] at h
    omega
  | c :: l, x :: r, ha, hb, h => by
    have h1 := ha c List.mem_cons_self
    have h2 := hb x List.mem_cons_self
    rw [pn, pn] at h
    have e1 : c = x := by omega
    have e2 : pn l = pn r := by omega
    rw [e1, pn_inj (fun y hy => ha y (List.mem_cons_of_mem _ hy)) (fun y hy => hb y (List.mem_cons_of_mem _ hy)) e2]
theorem tx_chr (s : Int64) (n i : Nat) : ∀ c ∈ tx s n i, c < 256 ∧ c ≠ 0 := by
  intro c hc
  obtain ⟨j, hj⟩ := List.mem_iff_getElem?.mp hc
  have := tx_get s n i j c hj
  exact ⟨this.1 ▸ bN_lt s _, this.2⟩
theorem pn_lt64 {l : List Nat} (h : ∀ c ∈ l, c < 256) (hl : l.length ≤ 8) : pn l < 2 ^ 64 := by
  have h1 := pn_lt h
  have h2 : 256 ^ l.length ≤ 256 ^ 8 := Nat.pow_le_pow_right (by omega) hl
  omega
theorem lN_inj {a b : Nat} (ha : a < 2 ^ 64) (hb : b < 2 ^ 64) (h : lN a = lN b) : a = b := by
  have := congrArg (fun z => z.toBitVec.toNat) h
  simpa [lN_bv ha, lN_bv hb] using this
theorem lNpn_inj {a b : List Nat} (ha : ∀ c ∈ a, c < 256 ∧ c ≠ 0) (hb : ∀ c ∈ b, c < 256 ∧ c ≠ 0) (la : a.length ≤ 8) (lb : b.length ≤ 8) (h : lN (pn a) = lN (pn b)) : a = b :=
  pn_inj ha hb (lN_inj (pn_lt64 (fun c hc => (ha c hc).1) la) (pn_lt64 (fun c hc => (hb c hc).1) lb) h)
theorem trm_eq {s : Int64} {l : List Nat} (hl : ∀ c ∈ l, c < 256 ∧ c ≠ 0) (h8 : l.length ≤ 8) : trm s = lN (pn l) ↔ txt s = l :=
  ⟨fun h => lNpn_inj (tx_chr s 8 0) hl (tx_len s 8 0) h8 h, fun h => by rw [trm, h]⟩
theorem txt_two (s : Int64) : (txt s).take 2 = [47, 42] ↔ bN s 0 = 47 ∧ bN s 1 = 42 := by
  constructor
  · intro h
    have h0 : (txt s)[0]? = some 47 := by
      have := congrArg (fun l => l[0]?) h
      simpa [List.getElem?_take] using this
    have h1 : (txt s)[1]? = some 42 := by
      have := congrArg (fun l => l[1]?) h
      simpa [List.getElem?_take] using this
    exact ⟨(tx_get s 8 0 0 47 h0).1, (tx_get s 8 0 1 42 h1).1⟩
  · intro ⟨h0, h1⟩
    show (tx s 8 0).take 2 = _
    unfold tx
    rw [if_neg (by omega)]
    unfold tx
    have h1' : bN s (0 + 1) = 42 := h1
    rw [if_neg (by omega)]
    simp [h0, h1]
set_option maxRecDepth 100000 in
theorem p_isOperatorName {sc : xSc} {d g : Nat} {A : List xC} {s : Int64} {P : xO → xH → Prop} (k : P (.inl (some (.int (xb (opn (txt s)))))) (A, g)) : xM1 sc (d + 3) 213 [.long s] (A, g) P := by
  have hl : (txt s).length ≤ 8 := tx_len s 8 0
  have hL : (nI (txt s).length).toInt = ((txt s).length : Int) := nI_toInt (by omega)
  have hB0 := bN_lt s 0
  have hB1 := bN_lt s 1
  have hb0 : (nI (bN s 0)).toInt = (bN s 0 : Int) := nI_toInt (by omega)
  have hb1 : (nI (bN s 1)).toInt = (bN s 1 : Int) := nI_toInt (by omega)
  have hD : trm s = 46 ↔ txt s = [46] := trm_eq (l := [46]) (by decide) (by decide)
  have hT := txt_two s
  unfold xM1
  refine xP_s rfl rfl rfl ?_
  refine xP_call rfl rfl rfl (p_size ?_)
  refine xP_s rfl rfl rfl ?_
  refine xP_s rfl rfl rfl ?_
  refine xP_s rfl rfl rfl ?_
  refine xP_s rfl rfl rfl ?_
  refine xP_s rfl rfl rfl ?_
  refine xP_s rfl rfl rfl ?_
  refine xP_s rfl rfl rfl ?_
  refine p_opnLoop hl (txt s).length 0 0 0 (by omega) (by omega) (by omega) (fun x y hx hy => ?_)
  rw [show (List.range' 0 (txt s).length).map (bN s) = txt s from (tx_map s 8 0).symm, Nat.zero_add] at hx hy
  have hxl := cnt_le isSm (txt s)
  have hyl := cnt_le isSg (txt s)
  have hX : (nI x).toInt = (x : Int) := nI_toInt (by omega)
  have hY : (nI y).toInt = (y : Int) := nI_toInt (by omega)
  have ax := cnt_all isSm (txt s)
  have ay := cnt_all isSg (txt s)
  rw [← hx] at ax
  rw [← hy] at ay
  have h0 : (0 : Int32).toInt = 0 := rfl
  have hlg : (lg_cmp (trm s) 46).toInt = 0 ↔ txt s = [46] := by rw [← hD, ← lg_cmp_eq, ← h0, Int32.toInt_inj]
  have h47 : (47 : Int32).toInt = 47 := rfl
  have h42 : (42 : Int32).toInt = 42 := rfl
  have e0 : (txt s).isEmpty = true ↔ (txt s).length = 0 := by simp
  obtain ⟨z, hz⟩ : ∃ z : Nat, z = 1 ↔ txt s = [46] := ⟨if txt s = [46] then 1 else 0, by split <;> simp_all⟩
  rw [← hz] at hlg
  have key : ∀ b, (b = true ↔ (txt s).length ≠ 0 ∧ (x = (txt s).length ∨ y = (txt s).length) ∧ ¬ z = 1 ∧ ¬ (bN s 0 = 47 ∧ bN s 1 = 42)) → opn (txt s) = b := by
    intro b hb
    rw [Bool.eq_iff_iff, hb]
    simp only [opn, Bool.and_eq_true, Bool.or_eq_true, Bool.not_eq_true', Bool.or_eq_false_iff, beq_eq_false_iff_ne, ne_eq]
    rw [ax, ay, hz, ← hT, ← Bool.not_eq_true, e0]
    constructor
    · intro ⟨q2, q1, q3, q4⟩
      exact ⟨q1, q2, q3, q4⟩
    · intro ⟨q1, q2, q3, q4⟩
      exact ⟨q2, q1, q3, q4⟩
  repeat' first
    | refine xP_s rfl rfl rfl ?_
    | refine xP_call rfl rfl rfl (p_trimmed ?_)
    | refine xP_call rfl rfl rfl (p_byteAt (i := 0) (by omega) ?_)
    | refine xP_call rfl rfl rfl (p_byteAt (i := 1) (by omega) ?_)
    | refine xP_if (fun hc => ?_) (fun hc => ?_)
    | refine xP_ret rfl rfl rfl ?_
  all_goals
    simp only [xc_i, decide_eq_true_eq, decide_eq_false_iff_not] at *
  all_goals first
    | (rw [key true (by simp only [true_iff]; omega)] at k; exact k)
    | (rw [key false (by simp only [Bool.false_eq_true, false_iff]; omega)] at k; exact k)
