-- the law at the pure machine: its room
section SZ
theorem xw_pre {A : List xC} {k : Nat} {e0 e1 : xC} (h : A[k]? = some e0) (hz : xsz e1 = xsz e0) : A.map xsz <+: (A.set k e1).map xsz := by
  have : (A.set k e1).map xsz = A.map xsz := by
    apply List.ext_getElem?
    intro j
    simp only [List.getElem?_map, List.getElem?_set]
    by_cases hj : k = j
    · subst hj
      rw [h]
      have hlt : k < A.length := (List.getElem?_eq_some_iff.mp h).1
      simp [hlt, hz]
    · simp [hj]
  rw [this]
  exact List.prefix_rfl
set_option maxHeartbeats 4000000 in
theorem xs_sizes {sc : xSc} {nL d g pc : Nat} {r : xRow} {ls : xL} {st : List Value} {A : List xC} {q : xN} (hs : xs sc nL d g r pc ls st A = some q) : A.map xsz <+: q.2.2.2.map xsz := by
  obtain ⟨i, len, r1, r2, r3, rv, rk, sw⟩ := r
  cases i <;> first
    | (cases hs; done)
    | (cases hs; exact List.prefix_rfl)
    | (simp only [xs, xi1, xi2, xl1, xl2, xli, xr1, xri, xlki, xlkl, xlka, xarI, xarL, xob] at hs
       repeat' (split at hs)
       all_goals first
         | (cases hs; done)
         | (cases hs; exact List.prefix_rfl)
         | (cases hs; rename_i hA _; exact xw_pre hA rfl)
         | (cases hs; rename_i hA _ _; exact xw_pre hA rfl)
         | (cases hs; rename_i hA _ _ _; exact xw_pre hA (by simp [xsz]))
         | (cases hs; rw [List.map_append]; exact List.prefix_append _ _))
theorem xr_sizes (sc : xSc) : ∀ (n d mi pc : Nat) (ls : xL) (st : List Value) (h : xH) (o : xO) (h' : xH), xr sc n d mi pc ls st h = some (o, h') → h.1.map xsz <+: h'.1.map xsz
  | 0, _, _, _, _, _, _, _, _, hr => by cases hr
  | n + 1, d, mi, pc, ls, st, h, o, h', hr => by
    unfold xr at hr
    split at hr
    · cases hr
    · rename_i r hrow
      split at hr
      · split at hr
        · cases hr
        · rename_i q hq
          exact (xs_sizes hq).trans (xr_sizes sc n _ _ _ _ _ _ _ _ hr)
      · split at hr
        · cases hr
        · cases hr
          exact List.prefix_rfl
      · split at hr
        · cases hr
        · rename_i d'
          split at hr
          · cases hr
          · rename_i q hq
            split at hr
            · cases hr
            · rename_i v h1 hc
              exact (xr_sizes sc n _ _ _ _ _ _ _ _ hc).trans (xr_sizes sc n _ _ _ _ _ _ _ _ hr)
            · rename_i ev h1 hc
              split at hr
              · cases hr
              · exact (xr_sizes sc n _ _ _ _ _ _ _ _ hc).trans (xr_sizes sc n _ _ _ _ _ _ _ _ hr)
      · split at hr
        · split at hr
          · exact xr_sizes sc n _ _ _ _ _ _ _ _ hr
          · cases hr
        · cases hr
      · split at hr
        · split at hr
          · cases hr
            exact List.prefix_rfl
          · cases hr
        · cases hr
variable {sc : xSc} {d : Nat}
theorem JA_len {A : List xC} (h : ∃ m, JA m A) : A.length = 54 := by
  obtain ⟨m, B, f, v, a, o, t, nm, sl, Ts, wr, N, X, p, b, hB, rfl, -⟩ := h
  unfold mH
  rw [List.length_append, List.length_cons, List.length_append, hB, mA_len]
  rfl
theorem xP_end {mi pc g : Nat} {ls : xL} {st : List Value} {A : List xC} (hA : (A.map xsz).length = 54) (hN : (A.map xsz).sum ≤ 100000) (k : xP sc d mi pc ls st (A, g) (fun o h' => o = .inl (some (.int 1)) ∧ h'.1.length = 54 ∧ h'.2 ≤ 512)) :
    xP sc d mi pc ls st (A, g) (fun o h' => o = .inl (some (.int 1)) ∧ xcn h' ≤ 601024 ∧ xsn h' ≤ 7293034) := by
  obtain ⟨n, o, h', e, e1, e2, e3⟩ := k
  have hp := xr_sizes sc n _ _ _ _ _ _ _ _ e
  have heq : A.map xsz = h'.1.map xsz := hp.eq_of_length (by rw [hA, List.length_map, e2])
  refine ⟨n, o, h', e, e1, ?_, ?_⟩
  · unfold xcn
    omega
  · unfold xsn
    rw [← heq]
    omega
set_option maxHeartbeats 1000000 in
set_option maxRecDepth 100000 in
theorem law_end (hs : sc.1 ≤ 2560) : xP sc (d + 130) 220 0 [(0, .ref 1000000000)] [] ([], 0) (fun o h' => o = .inl (some (.int 1)) ∧ xcn h' ≤ 601024 ∧ xsn h' ≤ 7293034) := by
  refine xP_s rfl rfl rfl ?_
  refine xP_s rfl rfl rfl ?_
  refine xP_call rfl rfl rfl (p_trNew (fun fk fp ft f6 ho hf => ?_))
  refine xP_s rfl rfl rfl ?_
  refine xP_s rfl rfl rfl ?_
  refine xP_s rfl rfl rfl ?_
  show xP sc (d + 130) 220 12 [(0, .ref 1000000000), (1, .ref 0)] [.ref 28, .ref 28] (B0 fk fp ft f6 ++ [.inr (7, xdfs.getD 7 [])], 0) _
  refine xP_call rfl rfl rfl (p_refNew rfl (fun v a o hz hv ha => ?_))
  refine xP_s rfl rfl rfl ?_
  refine xP_s rfl rfl rfl ?_
  refine xP_s rfl rfl rfl ?_
  refine xP_s rfl rfl rfl ?_
  refine xP_s rfl rfl rfl ?_
  refine xP_s rfl rfl rfl ?_
  refine xP_end ?_ ?_ (lw_loop hs (fun A g hJ hg => ⟨rfl, JA_len hJ, hg⟩) 512 0 _ 0 (by omega) (by omega) (by omega) (JA_0 ho hf hz hv ha))
  · rfl
  · show ([10, 2, 120, 2, 1200, 2, 4926, 4, 25, 25, 25, 8, 840, 840, 840, 840, 840, 840, 11, 120, 120, 120, 120, 120, 120, 5, 4, 40, 44, 120, 64, 64, 64, 64, 64, 1500, 1500, 4600, 41, 1000, 1000, 1000, 130, 32, 32, 32, 32, 32, 130, 900, 900, 2600, 2600, 1] : List Nat).sum ≤ 100000
    decide
end SZ
