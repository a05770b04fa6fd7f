-- the law, at the pure machine
section LM
variable {sc : xSc} {d g : Nat} {P : xO → xH → Prop}
theorem xP_swl {sc : xSc} {d mi g : Nat} {ls : xL} {A : List xC} {P : xO → xH → Prop} {st : List Value} {x : Int32} (h : ∀ pc', pc' = xsw 574 x [(0, 88), (1, 145), (2, 237), (3, 281), (4, 337), (5, 362), (6, 375), (7, 450), (8, 518)] → xP sc d mi pc' ls st (A, g) P) : xP sc d mi (xsw 574 x [(0, 88), (1, 145), (2, 237), (3, 281), (4, 337), (5, 362), (6, 375), (7, 450), (8, 518)]) ls st (A, g) P := h _ rfl
theorem xsw_or (x : Int32) : xsw 574 x [(0, 88), (1, 145), (2, 237), (3, 281), (4, 337), (5, 362), (6, 375), (7, 450), (8, 518)] ∈ [88, 145, 237, 281, 337, 362, 375, 450, 518, 574] := by
  simp only [xsw]
  repeat' split
  all_goals decide
set_option maxHeartbeats 1000000 in
set_option maxRecDepth 100000 in
theorem lw_loop (hs : sc.1 ≤ 2560) (kP : ∀ A g, (∃ m, JA m A) → g ≤ 512 → P (.inl (some (.int 1))) (A, g)) : ∀ (m i : Nat) (A : List xC) (g : Nat), sc.1 < i + 5 * (m + 1) → i ≤ 2565 → g + m ≤ 512 → JA m A → xP sc (d + 130) 220 23 (lL i) [] (A, g) P
  | m, i, A, g, hm, hi, hg, hJ => by
    have hI := toI i (by omega)
    have hN := toI sc.1 (by omega)
    have h5 : (nI sc.1 - 5).toInt = (sc.1 : Int) - 5 := by
      have e : (5 : Int32) = nI 5 := rfl
      by_cases q : 5 ≤ sc.1
      · rw [e, nI_subN q, toI _ (by omega)]
        omega
      · have : sc.1 = 0 ∨ sc.1 = 1 ∨ sc.1 = 2 ∨ sc.1 = 3 ∨ sc.1 = 4 := by omega
        rcases this with e | e | e | e | e <;> rw [e] <;> decide
    refine xP_s rfl rfl rfl ?_
    refine xP_s rfl rfl rfl ?_
    refine xP_s rfl rfl rfl ?_
    refine xP_s rfl rfl rfl ?_
    refine xP_s rfl rfl rfl ?_
    refine xP_s rfl rfl rfl ?_
    refine xP_if (fun hq => ?_) (fun hq => ?_)
    · have kk := kP A g ⟨m, hJ⟩ (by omega)
      repeat' first
        | refine xP_s rfl rfl rfl ?_
        | refine xP_ret rfl rfl rfl ?_
      exact kk
    · have z := xc_f hq
      dsimp only at z
      obtain ⟨k, rfl⟩ : ∃ k, m = k + 1 := ⟨m - 1, by omega⟩
      have nxt : ∀ A' g', g' ≤ g + 1 → JA k A' → xP sc (d + 130) 220 574 (lL i) [] (A', g') P := fun A' g' h1 h2 => by
        have go := lw_loop hs kP k (i + 5) A' g' (by omega) (by omega) (by omega) h2
        unfold lL at go
        rw [← show nI i + 5 = nI (i + 5) from nI_add i 5] at go
        refine xP_s rfl rfl rfl ?_
        refine xP_s rfl rfl rfl ?_
        exact go
      refine xP_s rfl rfl rfl ?_
      refine xP_s rfl rfl rfl ?_
      refine xP_scl rfl rfl (by omega) hs ?_
      refine xP_s rfl rfl rfl ?_
      refine xP_s rfl rfl rfl ?_
      refine xP_s rfl rfl rfl ?_
      refine xP_swl (fun pc' e => ?_)
      have hor := xsw_or (sc.2 i &&& 15)
      rw [← e] at hor
      clear e
      simp only [List.mem_cons, List.not_mem_nil, or_false] at hor
      rcases hor with rfl | rfl | rfl | rfl | rfl | rfl | rfl | rfl | rfl | rfl
      · exact lw_text (by omega) hs hJ nxt
      · exact lw_op (by omega) hs hJ nxt
      · exact lw_read (by omega) hs hJ nxt
      · exact lw_write (by omega) hs hJ nxt
      · exact lw_written (by omega) hs hJ nxt
      · exact lw_again (by omega) hs hJ nxt
      · exact lw_alike (by omega) hs hJ nxt
      · exact lw_look (by omega) hs hJ nxt
      · exact lw_count (by omega) hs hJ nxt
      · have hJ' : JA k A := by
          obtain ⟨B, f, v, a, o, t, nm, sl, Ts, wr, N, X, p, b, h1, h2, h3, h4, h5⟩ := hJ
          exact ⟨B, f, v, a, o, t, nm, sl, Ts, wr, N, X, p, b, h1, h2, h3, h4.less, h5⟩
        exact nxt A g (by omega) hJ'
theorem gSl_0 : gSl (sK 14) := ⟨uS_of (by decide), by decide⟩
theorem nmAt_d {nm l : List Nat} {z : Nat} (h : (nm.drop z).take l.length = l) (hz : z + l.length ≤ nm.length) : nmAt nm z l := by
  refine ⟨hz, fun i c hi => ?_⟩
  have li := (List.getElem?_eq_some_iff.mp hi).1
  rw [← h, List.getElem?_take, if_pos li, List.getElem?_drop] at hi
  exact hi
theorem nm0_6 : nm0 nm6 := ⟨nmAt_d rfl (by decide), nmAt_d rfl (by decide), nmAt_d rfl (by decide), nmAt_d rfl (by decide)⟩
set_option maxRecDepth 100000 in
theorem JA_0 {fk : Nat → Int64} {fp ft f6 : Nat → Int32} {v : Nat → Int32} {a : Nat → Nat → Int32} {o f : Nat → Int64} (ho : xOp (B0 fk fp ft f6) (sK 14)) (hf : ∀ (i c : Nat), nm6[i]? = some c → c < 128 ∧ f6 i = nI c) (hz : zOC v a o (sK 14)) (hv : vS (fun _ => 0) v [3]) (ha : aS (fun _ _ => 0) a [31, 32, 33, 34]) : JA 512 (mH (B0 fk fp ft f6) [oC f] v a o) := by
  have hB : (B0 fk fp ft f6).length = 28 := rfl
  have e0 : nI 0 = 0 := rfl
  have hv' : ∀ k, ¬ k = 3 → v k = nI 0 := fun k hk => by
    rw [hv k (by simp [hk])]
    rfl
  obtain ⟨gk, gp, gt, q7, q8, q9, q10, q11, q12⟩ := ho
  have ho' : xOp (mH (B0 fk fp ft f6) [oC f] v a o) (sK 14) := ⟨gk, gp, gt, (mH_lo hB (by decide)).trans q7, (mH_lo hB (by decide)).trans q8, (mH_lo hB (by decide)).trans q9, (mH_lo hB (by decide)).trans q10, q11, q12⟩
  refine ⟨B0 fk fp ft f6, f, v, a, o, [], nm6, sK 14, [], [], [], X0, [], [], hB, rfl, ?_, ?_, ?_⟩
  · refine ⟨rfl, ⟨_, rfl, fun i q hi => by simp at hi⟩, ⟨0, 0, 0, (_, _, _, _, _, _), (_, _, _, _, _, _), 0, 0, ⟨⟨_, rfl, rfl, by decide, fun i c hi => by simp at hi⟩, ⟨_, rfl, rfl, by decide, hf⟩, ho', ⟨by decide, rfl, rfl, rfl, rfl, rfl, rfl, rfl⟩, ⟨by decide, rfl, rfl, rfl, rfl, rfl, rfl, rfl⟩, rfl, by decide⟩, rfl⟩, ⟨_, rfl, rfl, by decide, fun i c hi => by simp at hi⟩, rfl, nm0_6⟩
  · have := X0_lt
    exact ⟨gSl_0, by decide, by decide, by decide, ⟨by decide, fun c hc => (by cases hc)⟩, ⟨rfl, Or.inl rfl⟩, fun q hq => (by cases hq), Or.inl rfl, ⟨fun u hu => (by cases hu), by decide⟩, fun u hu => hu, Nat.le_trans (Nat.add_le_add_right (Nat.add_le_add_right this _) _) (by decide)⟩
  · obtain ⟨M, m1, m2⟩ := id hz
    refine ⟨⟨⟨hv' 1 (by decide), by decide, fun i c hi => by simp at hi⟩, m1.zO, ⟨hv' 9 (by decide), hv' 12 (by decide), by decide, by decide, fun i j u hi => by simp at hi, fun i w hi => by simp at hi⟩, ⟨hv' 16 (by decide), by decide, fun i p hi => by simp at hi⟩, ⟨hv' 14 (by decide), by decide, fun i hi => ?_⟩⟩, hz, ⟨hv' 42 (by decide), by decide, fun i c hi => by simp at hi⟩⟩
    have : i = 0 := Nat.le_zero.mp hi
    rw [ha 38 (by decide), this]
    rfl
set_option maxHeartbeats 1000000 in
set_option maxRecDepth 100000 in
theorem law_pure (hs : sc.1 ≤ 2560) (kP : ∀ A g, (∃ m, JA m A) → g ≤ 512 → P (.inl (some (.int 1))) (A, g)) : xP sc (d + 130) 220 0 [(0, .ref 1000000000)] [] ([], 0) P := by
  refine xP_s rfl rfl rfl ?_
  refine xP_s rfl rfl rfl ?_
  refine xP_call rfl rfl rfl (p_trNew (fun fk fp ft f6 ho hf => ?_))
  refine xP_s rfl rfl rfl ?_
  refine xP_s rfl rfl rfl ?_
  refine xP_s rfl rfl rfl ?_
  show xP sc (d + 130) 220 12 [(0, .ref 1000000000), (1, .ref 0)] [.ref 28, .ref 28] (B0 fk fp ft f6 ++ [.inr (7, xdfs.getD 7 [])], 0) P
  refine xP_call rfl rfl rfl (p_refNew rfl (fun v a o hz hv ha => ?_))
  refine xP_s rfl rfl rfl ?_
  refine xP_s rfl rfl rfl ?_
  refine xP_s rfl rfl rfl ?_
  refine xP_s rfl rfl rfl ?_
  refine xP_s rfl rfl rfl ?_
  refine xP_s rfl rfl rfl ?_
  exact lw_loop hs kP 512 0 _ 0 (by omega) (by omega) (by omega) (JA_0 ho hf hz hv ha)
end LM
