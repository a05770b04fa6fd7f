-- what the pure machine comes to: rules for walks
def xstep (sc : xSc) (rec1 : Nat → Nat → Nat → xL → List Value → xH → Option (xO × xH)) (d mi pc : Nat) (ls : xL) (st : List Value) (h : xH) : Option (xO × xH) := match xrow mi pc with
  | none => none
  | some r => match xkd r with
    | 0 => match xs sc (xme mi).2.2.1 d h.2 r pc ls st h.1 with
      | none => none
      | some q => rec1 d mi q.1 q.2.1 q.2.2.1 (q.2.2.2, h.2)
    | 1 => match xret (xme mi).2.2.2.1 r.1 st with
      | none => none
      | some v => some (.inl v, h)
    | 2 => match d with
      | 0 => none
      | d' + 1 => match xcall r st h.1 with
        | none => none
        | some q => match rec1 d' r.2.2.1 0 (lv_args 0 q.1) [] h with
          | none => none
          | some (.inl v, h') => rec1 (d' + 1) mi (pc + 3) ls (v.toList ++ q.2) h'
          | some (.inr e, h') => match xhnd mi pc e with
            | none => none
            | some t => rec1 (d' + 1) mi t.1 (ls.filter fun z => !(z.1 == t.2) && !(z.1 + 1 == t.2 && z.2.category == 2)) [] h'
    | 4 => match d with
      | d' + 8 => if (st.map fun v => v.category).sum ≤ 8 then rec1 (d' + 8) mi (pc + 5) ls (.long r.2.2.2.2.2.2.1 :: st) h else none
      | _ => none
    | _ => match d with
      | _ + 8 => match st with
        | [] => some (.inr (r.2.2.1 - 1000), (h.1, h.2 + 1))
        | _ :: _ => none
      | _ => none
theorem xr_eq (sc : xSc) (n d mi pc : Nat) (ls : xL) (st : List Value) (h : xH) : xr sc (n + 1) d mi pc ls st h = xstep sc (xr sc n) d mi pc ls st h := by
  conv => lhs; unfold xr
  rfl
theorem xstep_mono {sc : xSc} {f1 f2 : Nat → Nat → Nat → xL → List Value → xH → Option (xO × xH)} (hm : ∀ d mi pc ls st h r, f1 d mi pc ls st h = some r → f2 d mi pc ls st h = some r) {d mi pc : Nat} {ls : xL} {st : List Value} {h : xH} {r : xO × xH} (hr : xstep sc f1 d mi pc ls st h = some r) : xstep sc f2 d mi pc ls st h = some r := by
  unfold xstep at hr ⊢
  cases hrow : xrow mi pc with
  | none =>
    rw [hrow] at hr
    cases hr
  | some r0 =>
    rw [hrow] at hr
    dsimp only at hr ⊢
    generalize xkd r0 = kk at hr ⊢
    match kk, hr with
    | 0, hr =>
      cases hq : xs sc (xme mi).2.2.1 d h.2 r0 pc ls st h.1 with
      | none =>
        rw [hq] at hr
        cases hr
      | some q =>
        rw [hq] at hr
        exact hm _ _ _ _ _ _ _ hr
    | 1, hr => exact hr
    | 2, hr =>
      match d, hr with
      | 0, hr => exact hr
      | d' + 1, hr =>
        dsimp only at hr ⊢
        cases hq : xcall r0 st h.1 with
        | none =>
          rw [hq] at hr
          cases hr
        | some q =>
          rw [hq] at hr
          dsimp only at hr ⊢
          cases hc : f1 d' r0.2.2.1 0 (lv_args 0 q.1) [] h with
          | none =>
            rw [hc] at hr
            cases hr
          | some z =>
            rw [hc] at hr
            rw [hm _ _ _ _ _ _ _ hc]
            obtain ⟨o, h1⟩ := z
            cases o with
            | inl v => exact hm _ _ _ _ _ _ _ hr
            | inr ev =>
              dsimp only at hr ⊢
              cases ht : xhnd mi pc ev with
              | none =>
                rw [ht] at hr
                cases hr
              | some t =>
                rw [ht] at hr
                exact hm _ _ _ _ _ _ _ hr
    | 3, hr => exact hr
    | 4, hr =>
      match d, hr with
      | d' + 8, hr =>
        change (if (st.map fun v => v.category).sum ≤ 8 then f1 (d' + 8) mi (pc + 5) ls (.long r0.2.2.2.2.2.2.1 :: st) h else none) = some r at hr
        change (if (st.map fun v => v.category).sum ≤ 8 then f2 (d' + 8) mi (pc + 5) ls (.long r0.2.2.2.2.2.2.1 :: st) h else none) = some r
        by_cases hcat : (st.map fun v => v.category).sum ≤ 8
        · rw [if_pos hcat] at hr ⊢
          exact hm _ _ _ _ _ _ _ hr
        · rw [if_neg hcat] at hr
          cases hr
      | 0, hr => cases hr
      | 1, hr => cases hr
      | 2, hr => cases hr
      | 3, hr => cases hr
      | 4, hr => cases hr
      | 5, hr => cases hr
      | 6, hr => cases hr
      | 7, hr => cases hr
    | k + 5, hr => exact hr
theorem xr_more (sc : xSc) : ∀ (n d mi pc : Nat) (ls : xL) (st : List Value) (h : xH) (r : xO × xH), xr sc n d mi pc ls st h = some r → xr sc (n + 1) d mi pc ls st h = some r
  | 0, _, _, _, _, _, _, _, hr => by cases hr
  | n + 1, d, mi, pc, ls, st, h, r, hr => by
    rw [xr_eq] at hr ⊢
    exact xstep_mono (xr_more sc n) hr
theorem xr_le {sc : xSc} {n k d mi pc : Nat} {ls : xL} {st : List Value} {h : xH} {r : xO × xH} (hr : xr sc n d mi pc ls st h = some r) (hk : n ≤ k) : xr sc k d mi pc ls st h = some r := by
  induction hk with
  | refl => exact hr
  | step _ ih => exact xr_more _ _ _ _ _ _ _ _ _ ih
def xP (sc : xSc) (d mi pc : Nat) (ls : xL) (st : List Value) (h : xH) (P : xO → xH → Prop) : Prop := ∃ (n : Nat) (o : xO) (h' : xH), xr sc n d mi pc ls st h = some (o, h') ∧ P o h'
/-- a method on its arguments -/
def xM1 (sc : xSc) (d mi : Nat) (As : List Value) (h : xH) (P : xO → xH → Prop) : Prop := xP sc d mi 0 (lv_args 0 As) [] h P
section XP
variable {sc : xSc} {d mi pc : Nat} {ls : xL} {st : List Value} {A : List xC} {g : Nat} {P : xO → xH → Prop}
theorem xP_mono {h : xH} {P' : xO → xH → Prop} (k : xP sc d mi pc ls st h P) (hi : ∀ o h', P o h' → P' o h') : xP sc d mi pc ls st h P' := by
  obtain ⟨n, o, h', e, hp⟩ := k
  exact ⟨n, o, h', e, hi _ _ hp⟩
theorem xP_s {r : xRow} {pc' : Nat} {ls' : xL} {st' : List Value} {A' : List xC} (hrow : xrow mi pc = some r) (hk : xkd r = 0) (hs : xs sc (xme mi).2.2.1 d g r pc ls st A = some (pc', ls', st', A')) (k : xP sc d mi pc' ls' st' (A', g) P) : xP sc d mi pc ls st (A, g) P := by
  obtain ⟨n, o, h', e, hp⟩ := k
  refine ⟨n + 1, o, h', ?_, hp⟩
  rw [xr_eq]
  unfold xstep
  simp only [hrow, hk, hs]
  exact e
theorem xP_ret {r : xRow} {v : Option Value} {h : xH} (hrow : xrow mi pc = some r) (hk : xkd r = 1) (hv : xret (xme mi).2.2.2.1 r.1 st = some v) (k : P (.inl v) h) : xP sc d mi pc ls st h P := by
  refine ⟨1, .inl v, h, ?_, k⟩
  rw [xr_eq]
  unfold xstep
  simp only [hrow, hk, hv]
theorem xP_call {r : xRow} {q : List Value × List Value} {h : xH} (hrow : xrow mi pc = some r) (hk : xkd r = 2) (hq : xcall r st h.1 = some q)
    (k : xM1 sc d r.2.2.1 q.1 h (fun o h1 => match o with
      | .inl v => xP sc (d + 1) mi (pc + 3) ls (v.toList ++ q.2) h1 P
      | .inr ev => ∃ t, xhnd mi pc ev = some t ∧ xP sc (d + 1) mi t.1 (ls.filter fun z => !(z.1 == t.2) && !(z.1 + 1 == t.2 && z.2.category == 2)) [] h1 P)) : xP sc (d + 1) mi pc ls st h P := by
  obtain ⟨n, o, h1, e, hp⟩ := k
  cases o with
  | inl v =>
    obtain ⟨n2, o2, h2, e2, hp2⟩ := hp
    refine ⟨(n + n2) + 1, o2, h2, ?_, hp2⟩
    rw [xr_eq]
    unfold xstep
    simp only [hrow, hk, hq, xr_le e (Nat.le_add_right n n2)]
    exact xr_le e2 (Nat.le_add_left n2 n)
  | inr ev =>
    obtain ⟨t, ht, n2, o2, h2, e2, hp2⟩ := hp
    refine ⟨(n + n2) + 1, o2, h2, ?_, hp2⟩
    rw [xr_eq]
    unfold xstep
    simp only [hrow, hk, hq, xr_le e (Nat.le_add_right n n2), ht]
    exact xr_le e2 (Nat.le_add_left n2 n)
/-- getfield, on a heap of which a cell is known -/
theorem xP_get {ix len ci k r3 : Nat} {rv : Int32} {rk : Int64} {sw : List (Int32 × Nat)} {a : Nat} {fs rest : List _} {v : Value} (hrow : xrow mi pc = some (.getfield ix, len, ci, k, r3, rv, rk, sw)) (hA : A[a]? = some (.inr (ci, fs))) (hv : fs[k]? = some v)
    (kk : xP sc d mi (pc + 3) ls (v :: rest) (A, g) P) : xP sc d mi pc ls (.ref a :: rest) (A, g) P := by
  refine xP_s hrow rfl ?_ kk
  simp [xs, xr1, xob, hA, hv]
theorem xP_put {ix len ci k r3 : Nat} {rv : Int32} {rk : Int64} {sw : List (Int32 × Nat)} {a : Nat} {fs rest : List _} {v : Value} (hrow : xrow mi pc = some (.putfield ix, len, ci, k, r3, rv, rk, sw)) (hA : A[a]? = some (.inr (ci, fs))) (hl : k < fs.length) (hf : xfit ((xtys.getD ci []).getD k .int) v = true)
    (kk : xP sc d mi (pc + 3) ls rest (A.set a (.inr (ci, fs.set k v)), g) P) : xP sc d mi pc ls (v :: .ref a :: rest) (A, g) P := by
  refine xP_s hrow rfl ?_ kk
  simp only [xs, xob, hA, if_pos hl, hf, if_true]
theorem xP_alen {len r1 r2 r3 : Nat} {rv : Int32} {rk : Int64} {sw : List (Int32 × Nat)} {a n : Nat} {ty : FieldType} {f : _} {rest : List Value} (hrow : xrow mi pc = some (.arraylength, len, r1, r2, r3, rv, rk, sw)) (hA : A[a]? = some (.inl (ty, n, f))) (hn : ¬ a = xscr)
    (kk : xP sc d mi (pc + 1) ls (.int (nI n) :: rest) (A, g) P) : xP sc d mi pc ls (.ref a :: rest) (A, g) P := by
  refine xP_s hrow rfl ?_ kk
  simp only [xs, xr1, if_neg hn, hA]
  rfl
theorem xP_ial {len r1 r2 r3 : Nat} {rv : Int32} {rk : Int64} {sw : List (Int32 × Nat)} {a n : Nat} {f : Nat → Int32} {i : Int32} {rest : List Value} (hrow : xrow mi pc = some (.iaload, len, r1, r2, r3, rv, rk, sw)) (hA : A[a]? = some (.inl (.int, n, .inl f))) (hn : ¬ a = xscr) (hi : xib i n = true)
    (kk : xP sc d mi (pc + 1) ls (.int (f i.toNatClampNeg) :: rest) (A, g) P) : xP sc d mi pc ls (.int i :: .ref a :: rest) (A, g) P := by
  refine xP_s hrow rfl ?_ kk
  simp only [xs, xri, if_neg hn, xarI, hA, hi, if_true]
theorem xP_cal {len r1 r2 r3 : Nat} {rv : Int32} {rk : Int64} {sw : List (Int32 × Nat)} {a n : Nat} {f : Nat → Int32} {i : Int32} {rest : List Value} (hrow : xrow mi pc = some (.caload, len, r1, r2, r3, rv, rk, sw)) (hA : A[a]? = some (.inl (.char, n, .inl f))) (hi : xib i n = true)
    (kk : xP sc d mi (pc + 1) ls (.int (f i.toNatClampNeg) :: rest) (A, g) P) : xP sc d mi pc ls (.int i :: .ref a :: rest) (A, g) P := by
  refine xP_s hrow rfl ?_ kk
  simp only [xs, xri, xarI, hA, hi, if_true]
theorem xP_lal {len r1 r2 r3 : Nat} {rv : Int32} {rk : Int64} {sw : List (Int32 × Nat)} {a n : Nat} {f : Nat → Int64} {i : Int32} {rest : List Value} (hrow : xrow mi pc = some (.laload, len, r1, r2, r3, rv, rk, sw)) (hA : A[a]? = some (.inl (.long, n, .inr (.inl f)))) (hi : xib i n = true)
    (kk : xP sc d mi (pc + 1) ls (.long (f i.toNatClampNeg) :: rest) (A, g) P) : xP sc d mi pc ls (.int i :: .ref a :: rest) (A, g) P := by
  refine xP_s hrow rfl ?_ kk
  simp only [xs, xri, xarL, hA, hi, if_true]
theorem xP_ias {len r1 r2 r3 : Nat} {rv : Int32} {rk : Int64} {sw : List (Int32 × Nat)} {a n : Nat} {f : Nat → Int32} {i x : Int32} {rest : List Value} (hrow : xrow mi pc = some (.iastore, len, r1, r2, r3, rv, rk, sw)) (hA : A[a]? = some (.inl (.int, n, .inl f))) (hi : xib i n = true)
    (kk : xP sc d mi (pc + 1) ls rest (A.set a (.inl (.int, n, .inl (upd f i.toNatClampNeg x))), g) P) : xP sc d mi pc ls (.int x :: .int i :: .ref a :: rest) (A, g) P := by
  refine xP_s hrow rfl ?_ kk
  simp only [xs, xi1, xri, xarI, hA, hi, if_true]
theorem xP_cas {len r1 r2 r3 : Nat} {rv : Int32} {rk : Int64} {sw : List (Int32 × Nat)} {a n : Nat} {f : Nat → Int32} {i x : Int32} {rest : List Value} (hrow : xrow mi pc = some (.castore, len, r1, r2, r3, rv, rk, sw)) (hA : A[a]? = some (.inl (.char, n, .inl f))) (hi : xib i n = true)
    (kk : xP sc d mi (pc + 1) ls rest (A.set a (.inl (.char, n, .inl (upd f i.toNatClampNeg (vp_nar .char x)))), g) P) : xP sc d mi pc ls (.int x :: .int i :: .ref a :: rest) (A, g) P := by
  refine xP_s hrow rfl ?_ kk
  simp only [xs, xi1, xri, xarI, hA, hi, if_true]
theorem xP_las {len r1 r2 r3 : Nat} {rv : Int32} {rk : Int64} {sw : List (Int32 × Nat)} {a n : Nat} {f : Nat → Int64} {i : Int32} {x : Int64} {rest : List Value} (hrow : xrow mi pc = some (.lastore, len, r1, r2, r3, rv, rk, sw)) (hA : A[a]? = some (.inl (.long, n, .inr (.inl f)))) (hi : xib i n = true)
    (kk : xP sc d mi (pc + 1) ls rest (A.set a (.inl (.long, n, .inr (.inl (vp_updL f i.toNatClampNeg x)))), g) P) : xP sc d mi pc ls (.long x :: .int i :: .ref a :: rest) (A, g) P := by
  refine xP_s hrow rfl ?_ kk
  simp only [xs, xl1, xri, xarL, hA, hi, if_true]
/-- a branch -/
theorem xP_if {c : Bool} {t f : Nat} {h : xH} (kt : c = true → xP sc d mi t ls st h P) (kf : c = false → xP sc d mi f ls st h P) : xP sc d mi (if c = true then t else f) ls st h P := by
  cases c with
  | true => exact kt rfl
  | false => exact kf rfl
/-- locals that are no longer read may go -/
theorem xib_nI {j n : Nat} (h : j < n) (hn : n < 2 ^ 31) : xib (nI j) n = true := by
  simp only [xib, Bool.and_eq_true, decide_eq_true_eq]
  rw [nI_toInt (by omega)]
  omega
end XP
