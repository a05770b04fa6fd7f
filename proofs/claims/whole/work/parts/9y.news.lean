-- the constructors
theorem xP_k4 {sc : xSc} {d mi pc g : Nat} {ls : xL} {st : List Value} {A : List xC} {P : xO → xH → Prop} {r : xRow} (hrow : xrow mi pc = some r) (hk : xkd r = 4) (hc : (st.map fun v => v.category).sum ≤ 8) (k : xP sc (d + 8) mi (pc + 5) ls (.long r.2.2.2.2.2.2.1 :: st) (A, g) P) : xP sc (d + 8) mi pc ls st (A, g) P := by
  obtain ⟨n, o, h', e, hp⟩ := k
  refine ⟨n + 1, o, h', ?_, hp⟩
  rw [xr_eq]
  unfold xstep
  simp only [hrow, hk, if_pos hc]
  exact e
/-- the operators at first -/
def ops0 : List (Nat × Nat × Int64) := [(1200, 0, 11578), (1200, 4, 11578), (1100, 1, 59), (1050, 1, 15917), (900, 3, 11100), (700, 0, 61), (700, 0, 60), (700, 0, 29545), (500, 2, 43), (500, 2, 45), (400, 2, 42), (400, 2, 47), (200, 1, 94), (200, 3, 45)]
def sK (k : Nat) : List xSl := (ops0.take k).foldl (fun s e => tellS s e.1 e.2.1 e.2.2) [(44, 1000, 1)]
def ndS : List xSl → Bool
  | [] => true
  | e :: r => r.all (fun z => !(decide (z.1 = e.1) && (isPre z.2.2 == isPre e.2.2))) && ndS r
theorem uS_of : ∀ {sl : List xSl}, ndS sl = true → uS sl
  | [], h, i, j, e, e', hi, hj, h1, h2 => by simp at hi
  | x :: r, h, i, j, e, e', hi, hj, h1, h2 => by
    unfold ndS at h
    rw [Bool.and_eq_true] at h
    have ih := uS_of h.2
    have no : ∀ (k : Nat) (z : xSl), r[k]? = some z → ¬ (z.1 = x.1 ∧ isPre z.2.2 = isPre x.2.2) := fun k z hz q => by
      have := List.all_eq_true.mp h.1 z (List.mem_of_getElem? hz)
      simp [q.1, q.2] at this
    cases i with
    | zero =>
      cases j with
      | zero => rfl
      | succ j =>
        rw [List.getElem?_cons_zero] at hi
        rw [List.getElem?_cons_succ] at hj
        cases hi
        exact absurd ⟨h1.symm, h2.symm⟩ (no j e' hj)
    | succ i =>
      cases j with
      | zero =>
        rw [List.getElem?_cons_zero] at hj
        rw [List.getElem?_cons_succ] at hi
        cases hj
        exact absurd ⟨h1, h2⟩ (no i e hi)
      | succ j =>
        rw [List.getElem?_cons_succ] at hi hj
        exact congrArg (· + 1) (ih i j e e' hi hj h1 h2)
section CN
variable {sc : xSc} {d g : Nat} {A A' B C : List xC} {v : Nat → Int32} {a : Nat → Nat → Int32} {o : Nat → Int64} {sl : List xSl} {P : xO → xH → Prop} {key : Int64} {p ty : Nat}
theorem q_tell2 (hB : B.length = 28) (h : zOC v a o sl) (u : uS sl) (hc : canS sl ty key = true) (hp : ¬ p = 0) (hp2 : p ≤ 1200) (hty : ty ≤ 6) (h44 : ¬ key = 44) (h1 : ¬ key = -1) (h0 : ¬ key = 0) (kk : zTl B C v a (tellS sl p ty key) g P) : xM1 sc (d + 1) 135 [.ref 28, .long key, .int (nI p), .int (nI ty)] (mH B C v a o, g) P := by
  obtain ⟨M, m1, m2, m3, m4⟩ := id h
  have m7 := m1.2.2.2.2.2.2
  obtain ⟨t1, t2, t3⟩ := tell_m (p := p) u hc
  rw [← opX_some] at t3
  have hcx := canS_X (sl := sl) (ty := ty) (key := key)
  refine q_tell hB h h44 h1 h0 (sl' := tellS sl p ty key) (fun b key' => tell_X u hc hp b key') (fun e he => ?_) ?_ ?_ hty kk
  · rcases (t2 e).mp he with q | q
    · rw [q]
      exact ⟨by show 1 ≤ p; omega, hp2, hty⟩
    · exact m7 e q.1
  · rw [if_neg hp, t3]
    cases (opX (isPre ty) sl key).isSome <;> simp
  · rw [t3]
    cases hx : opX (isPre ty) sl key with
    | some e =>
      rw [if_pos (show (some e).isSome = true from rfl)]
      omega
    | none =>
      rw [hx] at hcx
      rw [hc] at hcx
      have := of_decide_eq_true hcx.symm
      rw [if_neg (by simp)]
      omega
theorem set2 {i j : Nat} {x y : xC} (s : xSame A A' [i, j]) (hi : A'[i]? = some x) (hj : A'[j]? = some y) (hij : ¬ i = j) : A' = (A.set i x).set j y := by
  have li := (List.getElem?_eq_some_iff.mp hi).1
  have lj := (List.getElem?_eq_some_iff.mp hj).1
  have := s.1
  apply List.ext_getElem?
  intro k
  by_cases e1 : k = j
  · rw [e1, hj, List.getElem?_set_self (by rw [List.length_set]; omega)]
  · rw [List.getElem?_set_ne (fun q => e1 q.symm)]
    by_cases e2 : k = i
    · rw [e2, hi, List.getElem?_set_self (by omega)]
    · rw [List.getElem?_set_ne (fun q => e2 q.symm)]
      exact s.2 k (by simp [e1, e2])
theorem set4 {x7 x8 x9 x10 : xC} (s : xSame A A' [7, 8, 9, 10]) (h7 : A'[7]? = some x7) (h8 : A'[8]? = some x8) (h9 : A'[9]? = some x9) (h10 : A'[10]? = some x10) : A' = (((A.set 7 x7).set 8 x8).set 9 x9).set 10 x10 := by
  have l10 := (List.getElem?_eq_some_iff.mp h10).1
  have := s.1
  apply List.ext_getElem?
  intro k
  by_cases e1 : k = 10
  · rw [e1, h10, List.getElem?_set_self (by simp only [List.length_set]; omega)]
  · rw [List.getElem?_set_ne (fun q => e1 q.symm)]
    by_cases e2 : k = 9
    · rw [e2, h9, List.getElem?_set_self (by simp only [List.length_set]; omega)]
    · rw [List.getElem?_set_ne (fun q => e2 q.symm)]
      by_cases e3 : k = 8
      · rw [e3, h8, List.getElem?_set_self (by simp only [List.length_set]; omega)]
      · rw [List.getElem?_set_ne (fun q => e3 q.symm)]
        by_cases e4 : k = 7
        · rw [e4, h7, List.getElem?_set_self (by omega)]
        · rw [List.getElem?_set_ne (fun q => e4 q.symm)]
          exact s.2 k (by simp [e1, e2, e3, e4])
set_option maxRecDepth 100000 in
theorem q_pack {x y z : Int32} {r : Int64} (hr : (x.toInt64 ||| y.toInt64 <<< ((8 : Int32).toInt64 &&& 63)) ||| z.toInt64 <<< ((16 : Int32).toInt64 &&& 63) = r) (k : P (.inl (some (.long r))) (A, g)) : xM1 sc d 133 [.int x, .int y, .int z] (A, g) P := by
  rw [← hr] at k
  unfold xM1
  refine xP_s rfl rfl rfl ?_
  refine xP_s rfl rfl rfl ?_
  refine xP_s rfl rfl rfl ?_
  refine xP_s rfl rfl rfl ?_
  refine xP_s rfl rfl rfl ?_
  refine xP_s rfl rfl rfl ?_
  refine xP_s rfl rfl rfl ?_
  refine xP_s rfl rfl rfl ?_
  refine xP_s rfl rfl rfl ?_
  refine xP_s rfl rfl rfl ?_
  refine xP_s rfl rfl rfl ?_
  refine xP_s rfl rfl rfl ?_
  refine xP_ret rfl rfl rfl ?_
  exact k

set_option maxRecDepth 100000 in
theorem p_opsNew {c0 c1 c2 c3 c4 c5 c6 : xC} (k : ∀ fk fp ft, xOp [c0, c1, c2, c3, c4, c5, c6, .inr (2, [.ref 8, .ref 9, .ref 10, .int (nI (sK 14).length)]), .inl (.long, 25, .inr (.inl fk)), .inl (.int, 25, .inl fp), .inl (.int, 25, .inl ft)] (sK 14) → P (.inl none) ([c0, c1, c2, c3, c4, c5, c6, .inr (2, [.ref 8, .ref 9, .ref 10, .int (nI (sK 14).length)]), .inl (.long, 25, .inr (.inl fk)), .inl (.int, 25, .inl fp), .inl (.int, 25, .inl ft)], 0)) : xM1 sc (d + 16) 17 [.ref 7] ([c0, c1, c2, c3, c4, c5, c6, .inr (2, xdfs.getD 2 [])], 0) P := by
  unfold xM1
  refine xP_s rfl rfl rfl ?_
  refine xP_s rfl rfl rfl ?_
  refine xP_s rfl rfl rfl ?_
  refine xP_s rfl rfl rfl ?_
  refine xP_s rfl rfl rfl ?_
  refine xP_s rfl rfl rfl ?_
  refine xP_s rfl rfl rfl ?_
  refine xP_s rfl rfl rfl ?_
  refine xP_s rfl rfl rfl ?_
  refine xP_s rfl rfl rfl ?_
  refine xP_s rfl rfl rfl ?_
  refine xP_s rfl rfl rfl ?_
  refine xP_s rfl rfl rfl ?_
  refine xP_s rfl rfl rfl ?_
  refine xP_s rfl rfl rfl ?_
  refine xP_s rfl rfl rfl ?_
  refine xP_s rfl rfl rfl ?_
  have o0 : xOp [c0, c1, c2, c3, c4, c5, c6, .inr (2, [.ref 8, .ref 9, .ref 10, .int (nI ([] : List xSl).length)]), .inl (.long, 25, .inr (.inl fun _ => 0)), .inl (.int, 25, .inl fun _ => 0), .inl (.int, 25, .inl fun _ => 0)] [] := ⟨_, _, _, rfl, rfl, rfl, rfl, by decide, fun i e hi => by simp at hi⟩
  show xP sc (d + 16) 17 33 [(0, .ref 7)] [] ([c0, c1, c2, c3, c4, c5, c6, .inr (2, [.ref 8, .ref 9, .ref 10, .int (nI ([] : List xSl).length)]), .inl (.long, 25, .inr (.inl fun _ => 0)), .inl (.int, 25, .inl fun _ => 0), .inl (.int, 25, .inl fun _ => 0)], 0) P
  refine xP_s rfl rfl rfl ?_
  refine xP_s rfl rfl rfl ?_
  refine xP_s rfl rfl rfl ?_
  refine xP_s rfl rfl rfl ?_
  refine xP_cv rfl rfl rfl rfl rfl o0.obj (p_tell (p := 1000) (ty := 1) (key := 44) o0 (by decide) (by decide) (fun A1 o1 s1 => ?_))
  have o1 : xOp A1 (sK 0) := o1
  refine xP_s rfl rfl rfl ?_
  refine xP_s rfl rfl rfl ?_
  refine xP_s rfl rfl rfl ?_
  refine xP_k4 rfl rfl (Nat.le_of_ble_eq_true rfl) ?_
  refine xP_cv rfl rfl rfl rfl rfl o1.obj (p_tell (p := 1200) (ty := 0) (key := 11578) o1 (by decide) (by decide) (fun A2 o2 s => ?_))
  have o2 : xOp A2 (sK 1) := o2
  have s2 : xSame _ A2 [7, 8, 9, 10] := (s1.trans s).wide (by decide)
  clear s
  refine xP_s rfl rfl rfl ?_
  refine xP_s rfl rfl rfl ?_
  refine xP_s rfl rfl rfl ?_
  refine xP_k4 rfl rfl (Nat.le_of_ble_eq_true rfl) ?_
  refine xP_cv rfl rfl rfl rfl rfl o2.obj (p_tell (p := 1200) (ty := 4) (key := 11578) o2 (by decide) (by decide) (fun A3 o3 s => ?_))
  have o3 : xOp A3 (sK 2) := o3
  have s3 : xSame _ A3 [7, 8, 9, 10] := (s2.trans s).wide (by decide)
  clear s
  refine xP_s rfl rfl rfl ?_
  refine xP_s rfl rfl rfl ?_
  refine xP_s rfl rfl rfl ?_
  refine xP_k4 rfl rfl (Nat.le_of_ble_eq_true rfl) ?_
  refine xP_cv rfl rfl rfl rfl rfl o3.obj (p_tell (p := 1100) (ty := 1) (key := 59) o3 (by decide) (by decide) (fun A4 o4 s => ?_))
  have o4 : xOp A4 (sK 3) := o4
  have s4 : xSame _ A4 [7, 8, 9, 10] := (s3.trans s).wide (by decide)
  clear s
  refine xP_s rfl rfl rfl ?_
  refine xP_s rfl rfl rfl ?_
  refine xP_s rfl rfl rfl ?_
  refine xP_k4 rfl rfl (Nat.le_of_ble_eq_true rfl) ?_
  refine xP_cv rfl rfl rfl rfl rfl o4.obj (p_tell (p := 1050) (ty := 1) (key := 15917) o4 (by decide) (by decide) (fun A5 o5 s => ?_))
  have o5 : xOp A5 (sK 4) := o5
  have s5 : xSame _ A5 [7, 8, 9, 10] := (s4.trans s).wide (by decide)
  clear s
  refine xP_s rfl rfl rfl ?_
  refine xP_s rfl rfl rfl ?_
  refine xP_s rfl rfl rfl ?_
  refine xP_k4 rfl rfl (Nat.le_of_ble_eq_true rfl) ?_
  refine xP_cv rfl rfl rfl rfl rfl o5.obj (p_tell (p := 900) (ty := 3) (key := 11100) o5 (by decide) (by decide) (fun A6 o6 s => ?_))
  have o6 : xOp A6 (sK 5) := o6
  have s6 : xSame _ A6 [7, 8, 9, 10] := (s5.trans s).wide (by decide)
  clear s
  refine xP_s rfl rfl rfl ?_
  refine xP_s rfl rfl rfl ?_
  refine xP_s rfl rfl rfl ?_
  refine xP_k4 rfl rfl (Nat.le_of_ble_eq_true rfl) ?_
  refine xP_cv rfl rfl rfl rfl rfl o6.obj (p_tell (p := 700) (ty := 0) (key := 61) o6 (by decide) (by decide) (fun A7 o7 s => ?_))
  have o7 : xOp A7 (sK 6) := o7
  have s7 : xSame _ A7 [7, 8, 9, 10] := (s6.trans s).wide (by decide)
  clear s
  refine xP_s rfl rfl rfl ?_
  refine xP_s rfl rfl rfl ?_
  refine xP_s rfl rfl rfl ?_
  refine xP_k4 rfl rfl (Nat.le_of_ble_eq_true rfl) ?_
  refine xP_cv rfl rfl rfl rfl rfl o7.obj (p_tell (p := 700) (ty := 0) (key := 60) o7 (by decide) (by decide) (fun A8 o8 s => ?_))
  have o8 : xOp A8 (sK 7) := o8
  have s8 : xSame _ A8 [7, 8, 9, 10] := (s7.trans s).wide (by decide)
  clear s
  refine xP_s rfl rfl rfl ?_
  refine xP_s rfl rfl rfl ?_
  refine xP_s rfl rfl rfl ?_
  refine xP_k4 rfl rfl (Nat.le_of_ble_eq_true rfl) ?_
  refine xP_cv rfl rfl rfl rfl rfl o8.obj (p_tell (p := 700) (ty := 0) (key := 29545) o8 (by decide) (by decide) (fun A9 o9 s => ?_))
  have o9 : xOp A9 (sK 8) := o9
  have s9 : xSame _ A9 [7, 8, 9, 10] := (s8.trans s).wide (by decide)
  clear s
  refine xP_s rfl rfl rfl ?_
  refine xP_s rfl rfl rfl ?_
  refine xP_s rfl rfl rfl ?_
  refine xP_k4 rfl rfl (Nat.le_of_ble_eq_true rfl) ?_
  refine xP_cv rfl rfl rfl rfl rfl o9.obj (p_tell (p := 500) (ty := 2) (key := 43) o9 (by decide) (by decide) (fun A10 o10 s => ?_))
  have o10 : xOp A10 (sK 9) := o10
  have s10 : xSame _ A10 [7, 8, 9, 10] := (s9.trans s).wide (by decide)
  clear s
  refine xP_s rfl rfl rfl ?_
  refine xP_s rfl rfl rfl ?_
  refine xP_s rfl rfl rfl ?_
  refine xP_s rfl rfl rfl ?_
  refine xP_cv rfl rfl rfl rfl rfl o10.obj (p_tell (p := 500) (ty := 2) (key := 45) o10 (by decide) (by decide) (fun A11 o11 s => ?_))
  have o11 : xOp A11 (sK 10) := o11
  have s11 : xSame _ A11 [7, 8, 9, 10] := (s10.trans s).wide (by decide)
  clear s
  refine xP_s rfl rfl rfl ?_
  refine xP_s rfl rfl rfl ?_
  refine xP_s rfl rfl rfl ?_
  refine xP_k4 rfl rfl (Nat.le_of_ble_eq_true rfl) ?_
  refine xP_cv rfl rfl rfl rfl rfl o11.obj (p_tell (p := 400) (ty := 2) (key := 42) o11 (by decide) (by decide) (fun A12 o12 s => ?_))
  have o12 : xOp A12 (sK 11) := o12
  have s12 : xSame _ A12 [7, 8, 9, 10] := (s11.trans s).wide (by decide)
  clear s
  refine xP_s rfl rfl rfl ?_
  refine xP_s rfl rfl rfl ?_
  refine xP_s rfl rfl rfl ?_
  refine xP_k4 rfl rfl (Nat.le_of_ble_eq_true rfl) ?_
  refine xP_cv rfl rfl rfl rfl rfl o12.obj (p_tell (p := 400) (ty := 2) (key := 47) o12 (by decide) (by decide) (fun A13 o13 s => ?_))
  have o13 : xOp A13 (sK 12) := o13
  have s13 : xSame _ A13 [7, 8, 9, 10] := (s12.trans s).wide (by decide)
  clear s
  refine xP_s rfl rfl rfl ?_
  refine xP_s rfl rfl rfl ?_
  refine xP_s rfl rfl rfl ?_
  refine xP_k4 rfl rfl (Nat.le_of_ble_eq_true rfl) ?_
  refine xP_cv rfl rfl rfl rfl rfl o13.obj (p_tell (p := 200) (ty := 1) (key := 94) o13 (by decide) (by decide) (fun A14 o14 s => ?_))
  have o14 : xOp A14 (sK 13) := o14
  have s14 : xSame _ A14 [7, 8, 9, 10] := (s13.trans s).wide (by decide)
  clear s
  refine xP_s rfl rfl rfl ?_
  refine xP_s rfl rfl rfl ?_
  refine xP_s rfl rfl rfl ?_
  refine xP_s rfl rfl rfl ?_
  refine xP_cv rfl rfl rfl rfl rfl o14.obj (p_tell (p := 200) (ty := 3) (key := 45) o14 (by decide) (by decide) (fun A15 o15 s => ?_))
  have o15 : xOp A15 (sK 14) := o15
  have s15 : xSame _ A15 [7, 8, 9, 10] := (s14.trans s).wide (by decide)
  clear s
  refine xP_ret rfl rfl rfl ?_
  obtain ⟨fk, fp, ft, q7, q8, q9, q10, q11, q12⟩ := id o15
  have e := set4 s15 q7 q8 q9 q10
  subst e
  exact k fk fp ft o15
def nm6 : List Nat := [46, 91, 93, 123, 125, 44]
set_option maxRecDepth 100000 in
theorem p_partsNew {c0 c1 c2 c3 c4 c7 c8 c9 c10 : xC} (k : ∀ f : Nat → Int32, (∀ (i c : Nat), nm6[i]? = some c → c < 128 ∧ f i = nI c) → P (.inl none) ([c0, c1, c2, c3, c4, .inr (1, [.ref 6, .int (nI 6)]), .inl (.char, 4926, .inl f), c7, c8, c9, c10, .inr (4, [.ref 5, .ref 12, .ref 13, .ref 14, .ref 15, .ref 16, .ref 17, .int (nI 0)]), .inl (.int, 840, .inl fun _ => 0), .inl (.int, 840, .inl fun _ => 0), .inl (.int, 840, .inl fun _ => 0), .inl (.int, 840, .inl fun _ => 0), .inl (.int, 840, .inl fun _ => 0), .inl (.int, 840, .inl fun _ => 0)], 0)) : xM1 sc (d + 4) 56 [.ref 11, .ref 5] ([c0, c1, c2, c3, c4, .inr (1, [.ref 6, .int (nI ([] : List Nat).length)]), .inl (.char, 4926, .inl fun _ => 0), c7, c8, c9, c10, .inr (4, xdfs.getD 4 [])], 0) P := by
  have r0 : xRw [c0, c1, c2, c3, c4, .inr (1, [.ref 6, .int (nI ([] : List Nat).length)]), .inl (.char, 4926, .inl fun _ => 0), c7, c8, c9, c10, .inr (4, (xdfs.getD 4 []).set 0 (.ref 5))] 5 4926 [] := ⟨_, rfl, rfl, by decide, fun i c hi => by simp at hi⟩
  unfold xM1
  refine xP_s rfl rfl rfl ?_
  refine xP_s rfl rfl rfl ?_
  refine xP_s rfl rfl rfl ?_
  refine xP_s rfl rfl rfl ?_
  refine xP_s rfl rfl rfl ?_
  show xP sc (d + 4) 56 9 [(0, .ref 11), (1, .ref 5)] [] ([c0, c1, c2, c3, c4, .inr (1, [.ref 6, .int (nI ([] : List Nat).length)]), .inl (.char, 4926, .inl fun _ => 0), c7, c8, c9, c10, .inr (4, (xdfs.getD 4 []).set 0 (.ref 5))], 0) P
  refine xP_s rfl rfl rfl ?_
  refine xP_s rfl rfl rfl ?_
  refine xP_cv rfl rfl rfl rfl rfl r0.obj (p_add (c := 46) r0 (by decide) (by decide) (by decide) (by decide) (fun A1 r1 s1 => ?_))
  refine xP_s rfl rfl rfl ?_
  refine xP_s rfl rfl rfl ?_
  refine xP_cv rfl rfl rfl rfl rfl r1.obj (p_add (c := 91) r1 (by decide) (by decide) (by decide) (by decide) (fun A2 r2 s => ?_))
  have s2 : xSame _ A2 [5, 6] := (s1.trans s).wide (by decide)
  clear s
  refine xP_s rfl rfl rfl ?_
  refine xP_s rfl rfl rfl ?_
  refine xP_cv rfl rfl rfl rfl rfl r2.obj (p_add (c := 93) r2 (by decide) (by decide) (by decide) (by decide) (fun A3 r3 s => ?_))
  have s3 : xSame _ A3 [5, 6] := (s2.trans s).wide (by decide)
  clear s
  refine xP_s rfl rfl rfl ?_
  refine xP_s rfl rfl rfl ?_
  refine xP_cv rfl rfl rfl rfl rfl r3.obj (p_add (c := 123) r3 (by decide) (by decide) (by decide) (by decide) (fun A4 r4 s => ?_))
  have s4 : xSame _ A4 [5, 6] := (s3.trans s).wide (by decide)
  clear s
  refine xP_s rfl rfl rfl ?_
  refine xP_s rfl rfl rfl ?_
  refine xP_cv rfl rfl rfl rfl rfl r4.obj (p_add (c := 125) r4 (by decide) (by decide) (by decide) (by decide) (fun A5 r5 s => ?_))
  have s5 : xSame _ A5 [5, 6] := (s4.trans s).wide (by decide)
  clear s
  refine xP_s rfl rfl rfl ?_
  refine xP_s rfl rfl rfl ?_
  refine xP_cv rfl rfl rfl rfl rfl r5.obj (p_add (c := 44) r5 (by decide) (by decide) (by decide) (by decide) (fun A6 r6 s => ?_))
  have s6 : xSame _ A6 [5, 6] := (s5.trans s).wide (by decide)
  clear s
  obtain ⟨f, q1, q2, q3, q4⟩ := id r6
  have e := set2 s6 q1 q2 (by decide)
  subst e
  show xP sc (d + 4) 56 45 [(0, .ref 11), (1, .ref 5)] [] ([c0, c1, c2, c3, c4, .inr (1, [.ref 6, .int (nI 6)]), .inl (.char, 4926, .inl f), c7, c8, c9, c10, .inr (4, (xdfs.getD 4 []).set 0 (.ref 5))], 0) P
  refine xP_s rfl rfl rfl ?_
  refine xP_s rfl rfl rfl ?_
  refine xP_s rfl rfl rfl ?_
  refine xP_s rfl rfl rfl ?_
  show xP sc (d + 4) 56 54 [(0, .ref 11), (1, .ref 5)] [] ([c0, c1, c2, c3, c4, .inr (1, [.ref 6, .int (nI 6)]), .inl (.char, 4926, .inl f), c7, c8, c9, c10, .inr (4, ((xdfs.getD 4 []).set 0 (.ref 5)).set 1 (.ref 12)), .inl (.int, 840, .inl fun _ => 0)], 0) P
  refine xP_s rfl rfl rfl ?_
  refine xP_s rfl rfl rfl ?_
  refine xP_s rfl rfl rfl ?_
  refine xP_s rfl rfl rfl ?_
  show xP sc (d + 4) 56 63 [(0, .ref 11), (1, .ref 5)] [] ([c0, c1, c2, c3, c4, .inr (1, [.ref 6, .int (nI 6)]), .inl (.char, 4926, .inl f), c7, c8, c9, c10, .inr (4, (((xdfs.getD 4 []).set 0 (.ref 5)).set 1 (.ref 12)).set 2 (.ref 13)), .inl (.int, 840, .inl fun _ => 0), .inl (.int, 840, .inl fun _ => 0)], 0) P
  refine xP_s rfl rfl rfl ?_
  refine xP_s rfl rfl rfl ?_
  refine xP_s rfl rfl rfl ?_
  refine xP_s rfl rfl rfl ?_
  show xP sc (d + 4) 56 72 [(0, .ref 11), (1, .ref 5)] [] ([c0, c1, c2, c3, c4, .inr (1, [.ref 6, .int (nI 6)]), .inl (.char, 4926, .inl f), c7, c8, c9, c10, .inr (4, ((((xdfs.getD 4 []).set 0 (.ref 5)).set 1 (.ref 12)).set 2 (.ref 13)).set 3 (.ref 14)), .inl (.int, 840, .inl fun _ => 0), .inl (.int, 840, .inl fun _ => 0), .inl (.int, 840, .inl fun _ => 0)], 0) P
  refine xP_s rfl rfl rfl ?_
  refine xP_s rfl rfl rfl ?_
  refine xP_s rfl rfl rfl ?_
  refine xP_s rfl rfl rfl ?_
  show xP sc (d + 4) 56 81 [(0, .ref 11), (1, .ref 5)] [] ([c0, c1, c2, c3, c4, .inr (1, [.ref 6, .int (nI 6)]), .inl (.char, 4926, .inl f), c7, c8, c9, c10, .inr (4, (((((xdfs.getD 4 []).set 0 (.ref 5)).set 1 (.ref 12)).set 2 (.ref 13)).set 3 (.ref 14)).set 4 (.ref 15)), .inl (.int, 840, .inl fun _ => 0), .inl (.int, 840, .inl fun _ => 0), .inl (.int, 840, .inl fun _ => 0), .inl (.int, 840, .inl fun _ => 0)], 0) P
  refine xP_s rfl rfl rfl ?_
  refine xP_s rfl rfl rfl ?_
  refine xP_s rfl rfl rfl ?_
  refine xP_s rfl rfl rfl ?_
  show xP sc (d + 4) 56 90 [(0, .ref 11), (1, .ref 5)] [] ([c0, c1, c2, c3, c4, .inr (1, [.ref 6, .int (nI 6)]), .inl (.char, 4926, .inl f), c7, c8, c9, c10, .inr (4, ((((((xdfs.getD 4 []).set 0 (.ref 5)).set 1 (.ref 12)).set 2 (.ref 13)).set 3 (.ref 14)).set 4 (.ref 15)).set 5 (.ref 16)), .inl (.int, 840, .inl fun _ => 0), .inl (.int, 840, .inl fun _ => 0), .inl (.int, 840, .inl fun _ => 0), .inl (.int, 840, .inl fun _ => 0), .inl (.int, 840, .inl fun _ => 0)], 0) P
  refine xP_s rfl rfl rfl ?_
  refine xP_s rfl rfl rfl ?_
  refine xP_s rfl rfl rfl ?_
  refine xP_s rfl rfl rfl ?_
  show xP sc (d + 4) 56 99 [(0, .ref 11), (1, .ref 5)] [] ([c0, c1, c2, c3, c4, .inr (1, [.ref 6, .int (nI 6)]), .inl (.char, 4926, .inl f), c7, c8, c9, c10, .inr (4, (((((((xdfs.getD 4 []).set 0 (.ref 5)).set 1 (.ref 12)).set 2 (.ref 13)).set 3 (.ref 14)).set 4 (.ref 15)).set 5 (.ref 16)).set 6 (.ref 17)), .inl (.int, 840, .inl fun _ => 0), .inl (.int, 840, .inl fun _ => 0), .inl (.int, 840, .inl fun _ => 0), .inl (.int, 840, .inl fun _ => 0), .inl (.int, 840, .inl fun _ => 0), .inl (.int, 840, .inl fun _ => 0)], 0) P
  refine xP_s rfl rfl rfl ?_
  refine xP_s rfl rfl rfl ?_
  refine xP_s rfl rfl rfl ?_
  refine xP_ret rfl rfl rfl ?_
  exact k f q4
end CN
