section XR
variable {p : Program} {l : Launch} {e : Env} {R : Room} {s : State} {m : MethodId} {args : Array Value} {below : List Frame} {meth : Method} {c : Code} {Q : State → Prop}
theorem xw_le {A : List xC} {k : Nat} {e0 e1 : xC} (h : A[k]? = some e0) (hz : xsz e1 = xsz e0) : A.length ≤ (A.set k e1).length ∧ (A.map xsz).sum ≤ ((A.set k e1).map xsz).sum := ⟨by simp, Nat.le_of_eq (xsum_set h hz).symm⟩
set_option maxHeartbeats 4000000 in
theorem xs_mono {sc : xSc} {nL d g pc : Nat} {r : xRow} {ls : xL} {st : List Value} {A : List xC} {q : xN} (hs : xs sc nL d g r pc ls st A = some q) : A.length ≤ q.2.2.2.length ∧ (A.map xsz).sum ≤ (q.2.2.2.map xsz).sum := by
  obtain ⟨i, len, r1, r2, r3, rv, rk, sw⟩ := r
  cases i <;> first
    | (cases hs; done)
    | (cases hs; exact ⟨Nat.le_refl _, Nat.le_refl _⟩)
    | (simp only [xs, xi1, xi2, xl1, xl2, xli, xr1, xri, xlki, xlkl, xlka, xarI, xarL, xob] at hs
       repeat' (split at hs)
       all_goals first
         | (cases hs; done)
         | (cases hs; exact ⟨Nat.le_refl _, Nat.le_refl _⟩)
         | (cases hs; rename_i hA _; exact xw_le hA rfl)
         | (cases hs; rename_i hA _ _; exact xw_le hA rfl)
         | (cases hs; rename_i hA _ _ _; exact xw_le hA (by simp [xsz]))
         | (cases hs; exact ⟨by simp, by simp⟩))
theorem xr_mono (sc : xSc) : ∀ (n d mi pc : Nat) (ls : xL) (st : List Value) (h : xH) (o : xO) (h' : xH), xr sc n d mi pc ls st h = some (o, h') → xcn h ≤ xcn h' ∧ xsn h ≤ xsn h'
  | 0, _, _, _, _, _, _, _, _, hr => by cases hr
  | n + 1, d, mi, pc, ls, st, h, o, h', hr => by
    unfold xr at hr
    split at hr
    · cases hr
    · rename_i r hrow
      split at hr
      · split at hr
        · cases hr
        · rename_i q hq
          have h1 := xs_mono hq
          have h2 := xr_mono sc n _ _ _ _ _ _ _ _ hr
          simp only [xcn, xsn] at h2 ⊢
          omega
      · split at hr
        · cases hr
        · cases hr
          exact ⟨Nat.le_refl _, Nat.le_refl _⟩
      · split at hr
        · cases hr
        · rename_i d'
          split at hr
          · cases hr
          · rename_i q hq
            split at hr
            · cases hr
            · rename_i v h1 hc
              have a1 := xr_mono sc n _ _ _ _ _ _ _ _ hc
              have a2 := xr_mono sc n _ _ _ _ _ _ _ _ hr
              omega
            · rename_i ev h1 hc
              split at hr
              · cases hr
              · have a1 := xr_mono sc n _ _ _ _ _ _ _ _ hc
                have a2 := xr_mono sc n _ _ _ _ _ _ _ _ hr
                omega
      · split at hr
        · split at hr
          · exact xr_mono sc n _ _ _ _ _ _ _ _ hr
          · cases hr
        · cases hr
      · split at hr
        · split at hr
          · cases hr
            simp only [xcn, xsn]
            omega
          · cases hr
        · cases hr
theorem xargs_map (b scr : Nat) : ∀ (vs : List Value) (i : Nat), lv_args i (vs.map (xv b scr)) = (lv_args i vs).map (xtv b scr)
  | [], _ => rfl
  | v :: vs, i => by
    simp only [List.map_cons, lv_args, xv_cat, xargs_map b scr vs]
theorem xsl_map (b scr : Nat) (vs : List Value) : (lg_sl (vs.map (xv b scr))).length = (lg_sl vs).length := by
  induction vs with
  | nil => rfl
  | cons v vs ih =>
    simp only [lg_sl, List.map_cons, List.flatMap_cons, List.length_append, xv_cat] at ih ⊢
    rw [ih]
    split <;> simp
/-- what a callee is given and gives back -/
def xPc (D : va_G) (K : xTy) (b scr : Nat) (sc : xSc) (h : xH) (As : List Value) : Array Value → State → Prop := fun v U =>
  v = (As.map (xv b scr)).toArray ∧ U.heap.size = b + xcn h ∧ h.1.length ≤ 1000 ∧ va_P D xCl (xw K b scr h.1) U.heap ∧ va_K D xCl (xtl K) U ∧ va_X scr sc.1 sc.2 U U.heap ∧ scr < b ∧ xex b U
def xQc (D : va_G) (K : xTy) (b scr : Nat) (v : Option Value) (h' : xH) : Array Value → State → Outcome → State → Prop := fun _ st oc t =>
  oc = .returned (v.map (xv b scr)) ∧ t.heap.size = b + xcn h' ∧ h'.1.length ≤ 1000 ∧ va_P D xCl (xw K b scr h'.1) t.heap ∧ ∀ q, q < b → t.heap[q]? = st.heap[q]?
def xRm (d mc ms : Nat) : Room := { frames := d, cells := mc, slots := ms, locals := 64 * d }
def xws (mi : Nat) : List Cond := Cond.code (xme mi).1 (xme mi).2.1 (xme mi).2.2.1 (xme mi).2.2.2.1 :: xTb
theorem xPc_blind {D : va_G} {K : xTy} {b scr : Nat} {sc : xSc} {h : xH} {As : List Value} : FrameBlind (xPc D K b scr sc h As) := by
  intro a U g mk q
  obtain ⟨q1, q2, q3, q4, q5, q6, q7, q8⟩ := q
  exact ⟨q1, q2, q3, q4, va_K.moved (u := U) (U := U.calling g mk a) (Vm.Alike.refl U.vm) q5, va_X.moved (u := U) (U := U.calling g mk a) (Vm.Alike.refl U.vm) q6, q7, q8⟩
theorem x_call {H : Heap} {locs : List Loc} {cells slots mc ms pc : Nat} {la : Array Slot} {st0 rest : List Value} {Qa : State → Outcome → State → Prop} {free : Addr → Prop}
    (hr : va_Run p l e R s m args below meth c H locs cells slots mc ms (F0 m pc la st0) rest Qa free)
    (kk : ∀ (v : Option Value) (st₀ t : State) (L : List Loc), st₀.heap = H → (∀ q ∈ L, free q.base) → Qa st₀ (.returned v) t → W p l e R s m args below meth c t.heap (locs ++ L) (cells + mc) (slots + ms) Q (F0 m (pc + 3) la (v.toList ++ rest))) :
    W p l e R s m args below meth c H locs cells slots Q (F0 m pc la st0) := by
  intro T hT X
  obtain ⟨v, st₀, t, T', L, h1, X', h2, h3, h4, h5, h6⟩ := hr T hT X
  obtain ⟨u, a1, a2⟩ := kk v st₀ t L h1 h2 h5 T' h3 X'
  exact ⟨u, h6 u a1, a2⟩
end XR
