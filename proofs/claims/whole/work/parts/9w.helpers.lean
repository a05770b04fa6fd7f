-- the law: its helpers
abbrev oC (f : Nat → Int64) : xC := .inl (.long, 1, .inr (.inl f))
section HP
variable {sc : xSc} {d g : Nat} {A A' B : List xC} {v : Nat → Int32} {a : Nat → Nat → Int32} {o : Nat → Int64} {f : Nat → Int64} {P : xO → xH → Prop} {t t' nm : List Nat} {sl sl' : List xSl} {Ts : List (List xIt × Nat)} {wr w : List Nat} {N X : List (List Nat)} {p b : List Nat} {m : Nat} {x y : Int32} {s : Int64}
theorem mH_o53 (hB : B.length = 28) : (mH B [oC f] v a o)[53]? = some (oC f) := by
  rw [mH_hi hB (by omega)]
  rfl
theorem mH_out (hB : B.length = 28) {f' : Nat → Int64} : (mH B [oC f] v a o).set 53 (oC f') = mH B [oC f'] v a o := by
  unfold mH
  rw [List.set_append_right _ _ (by omega), hB]
  rfl
theorem mH_of2 {l : List Nat} (hB : B.length = 28) (s : xSame (mH B [oC f] v a o) A' l) (hl : (l.all fun k => decide (k < 28)) = true) : ∃ B', B'.length = 28 ∧ A' = mH B' [oC f] v a o := by
  have hl' : ∀ k ∈ l, k < 28 := fun k hk => of_decide_eq_true (List.all_eq_true.mp hl k hk)
  obtain ⟨B', c', h1, h2⟩ := mH_of hB s (fun k hk => Or.inl (hl' k hk))
  have e : A'[53]? = some (oC f) := by
    rw [s.2 53 (fun q => by have := hl' 53 q; omega)]
    exact mH_o53 hB
  have e2 : A'[53]? = some c' := by
    rw [h2, mH_hi h1 (by omega)]
    rfl
  rw [e] at e2
  cases e2
  exact ⟨B', h1, h2⟩
theorem JC.setO (h : JC A t nm sl Ts wr) (ho : xOp A' sl') (s : xSame A A' [7, 8, 9, 10]) : JC A' t nm sl' Ts wr := by
  obtain ⟨h1, ⟨fr, r1, r2⟩, ⟨u, q, v, G, F, a, pr, ⟨w1, w2, w3, w4, w5, w6, w7⟩, w8⟩, h4, h5, h6⟩ := h
  exact ⟨(s.2 0 (by decide)).trans h1, ⟨fr, (s.2 27 (by decide)).trans r1, r2⟩, ⟨u, q, v, G, F, a, pr, ⟨w1.same s (by decide) (by decide), w2.same s (by decide) (by decide), ho, w4.same s (by decide), w5.same s (by decide) (by decide) (by decide) (by decide) (by decide) (by decide) (by decide), (s.2 25 (by decide)).trans w6, w7⟩, w8⟩, h4.same s (by decide) (by decide), (s.2 26 (by decide)).trans h5, h6⟩
theorem JC.setT (h : JC A t nm sl Ts wr) (ho : xRw A' 1 120 t') (s : xSame A A' [1, 2]) : JC A' t' nm sl Ts wr := by
  obtain ⟨h1, ⟨fr, r1, r2⟩, ⟨u, q, v, G, F, a, pr, ⟨w1, w2, w3, w4, w5, w6, w7⟩, w8⟩, h4, h5, h6⟩ := h
  exact ⟨(s.2 0 (by decide)).trans h1, ⟨fr, (s.2 27 (by decide)).trans r1, r2⟩, ⟨u, q, v, G, F, a, pr, ⟨ho, w2.same s (by decide) (by decide), w3.same s (by decide) (by decide) (by decide) (by decide), w4.same s (by decide), w5.same s (by decide) (by decide) (by decide) (by decide) (by decide) (by decide) (by decide), (s.2 25 (by decide)).trans w6, w7⟩, w8⟩, h4.same s (by decide) (by decide), (s.2 26 (by decide)).trans h5, h6⟩
theorem JC.setW (h : JC A t nm sl Ts wr) (ho : xRw A' 3 1200 w) (s : xSame A A' [3, 4]) : JC A' t nm sl Ts w := by
  obtain ⟨h1, ⟨fr, r1, r2⟩, ⟨u, q, v, G, F, a, pr, ⟨w1, w2, w3, w4, w5, w6, w7⟩, w8⟩, h4, h5, h6⟩ := h
  exact ⟨(s.2 0 (by decide)).trans h1, ⟨fr, (s.2 27 (by decide)).trans r1, r2⟩, ⟨u, q, v, G, F, a, pr, ⟨w1.same s (by decide) (by decide), w2.same s (by decide) (by decide), w3.same s (by decide) (by decide) (by decide) (by decide), w4.same s (by decide), w5.same s (by decide) (by decide) (by decide) (by decide) (by decide) (by decide) (by decide), (s.2 25 (by decide)).trans w6, w7⟩, w8⟩, ho, (s.2 26 (by decide)).trans h5, h6⟩
set_option maxRecDepth 100000 in
theorem h_op (hB : B.length = 28) (hJ : JC (mH B [oC f] v a o) t nm sl Ts wr)
    (kb : opBad x y s = true → P (.inl (some (.int 1))) (mH B [oC f] v a o, g + 1))
    (kt : opBad x y s = false → x.toInt = 0 → ∀ B1, B1.length = 28 → JC (mH B1 [oC f] v a o) t nm (takeS sl y.toInt.toNat (trm s)) Ts wr → P (.inl (some (.int 0))) (mH B1 [oC f] v a o, g))
    (kc : opBad x y s = false → ¬ x.toInt = 0 → canS sl y.toInt.toNat (trm s) = false → P (.inl (some (.int 2))) (mH B [oC f] v a o, g + 1))
    (ko : opBad x y s = false → ¬ x.toInt = 0 → canS sl y.toInt.toNat (trm s) = true → ∀ B1, B1.length = 28 → JC (mH B1 [oC f] v a o) t nm (tellS sl x.toInt.toNat y.toInt.toNat (trm s)) Ts wr → P (.inl (some (.int 0))) (mH B1 [oC f] v a o, g)) : xM1 sc (d + 9) 214 [.ref 0, .int x, .int y, .long s] (mH B [oC f] v a o, g) P := by
  have h0 := hJ.1
  have h0' := h0
  unfold xTo at h0'
  obtain ⟨_, _, ⟨_, _, _, _, _, _, _, ⟨_, _, w3, _⟩, _⟩, _⟩ := id hJ
  unfold xM1
  refine xP_s rfl rfl rfl ?_
  refine xP_s rfl rfl rfl ?_
  refine xP_s rfl rfl rfl ?_
  refine xP_s rfl rfl rfl ?_
  refine xP_cv rfl rfl rfl rfl rfl h0' (p_op h0 w3 (fun q => ?_) (fun q1 q2 A' s1 s2 => ?_) (fun q1 q2 q3 => ?_) (fun q1 q2 q3 A' s1 s2 => ?_))
  · refine ⟨_, rfl, ?_⟩
    repeat' first
      | refine xP_s rfl rfl rfl ?_
      | refine xP_ret rfl rfl rfl ?_
    exact kb q
  · obtain ⟨B1, b1, b2⟩ := mH_of2 hB s2 rfl
    subst b2
    repeat' first
      | refine xP_s rfl rfl rfl ?_
      | refine xP_ret rfl rfl rfl ?_
    exact kt q1 q2 B1 b1 (hJ.setO s1 s2)
  · refine ⟨_, rfl, ?_⟩
    repeat' first
      | refine xP_s rfl rfl rfl ?_
      | refine xP_ret rfl rfl rfl ?_
    exact kc q1 q2 q3
  · obtain ⟨B1, b1, b2⟩ := mH_of2 hB s2 rfl
    subst b2
    repeat' first
      | refine xP_s rfl rfl rfl ?_
      | refine xP_ret rfl rfl rfl ?_
    exact ko q1 q2 q3 B1 b1 (hJ.setO s1 s2)
set_option maxRecDepth 100000 in
theorem h_read (hB : B.length = 28) (hJ : JC (mH B [oC f] v a o) t nm sl Ts wr) (hP : JP t nm sl Ts wr N X p b (m + 1))
    (kb : wholeF sl t = none → ∀ B1, B1.length = 28 → JC (mH B1 [oC f] v a o) [] nm sl Ts wr → P (.inl (some (.int 1))) (mH B1 [oC f] v a o, g + 1))
    (kc : ∀ L D s', wholeF sl t = some (L, D, s') → (40 ≤ Ts.length ∨ 600 < tlen Ts + L.length) → ∀ B1, B1.length = 28 → JC (mH B1 [oC f] v a o) t nm sl Ts wr → P (.inl (some (.int 2))) (mH B1 [oC f] v a o, g + 1))
    (ko : ∀ L D s', wholeF sl t = some (L, D, s') → Ts.length < 40 → tlen Ts + L.length ≤ 600 → ∀ B1 f1 w, B1.length = 28 → w.length ≤ 120 → trP 14 L → f1 0 = (nI Ts.length).toInt64 → JC (mH B1 [oC f1] v a o) s' (nm ++ w) sl (Ts ++ [(L, D)]) wr → P (.inl (some (.int 0))) (mH B1 [oC f1] v a o, g)) : xM1 sc (d + 57) 215 [.ref 0, .ref 53] (mH B [oC f] v a o, g) P := by
  obtain ⟨p1, p2, p3, p4, p5, p6, p7, p8, p9, p10, p11⟩ := hP
  have erd : rdF sl t = wholeF sl t := rdF_w (fun e he => (p1.2 e he).1) p5.1
  obtain ⟨h0, hrt, ⟨u, q, vv, G, F, aa, pr, hw, hT⟩, h4, h5, h6⟩ := id hJ
  have h0' := h0
  unfold xTo at h0'
  unfold xM1
  refine xP_s rfl rfl rfl ?_
  refine xP_s rfl rfl rfl ?_
  refine xP_s rfl rfl rfl ?_
  refine xP_cv rfl rfl rfl rfl rfl h0' (p_read h0 p2 hrt hw h6 (fun e he => ⟨(p1.2 e he).1, (p1.2 e he).2.1, (p1.2 e he).2.2.1⟩) (fun e he => (p1.2 e he).2.2.2.2.2.2) p5.2 hT p3 (by omega) (fun e A' u p v G F' a pr s1 s2 s3 s4 => ?_) (fun L D s' e hf A' u p v G F' a pr s1 s2 s3 s4 => ?_) (fun L D s' e e1 e2 A' u p v G F' a pr w s1 s2 s3 s4 s5 s6 => ?_))
  · rw [erd] at e
    obtain ⟨B1, b1, b2⟩ := mH_of2 hB s4 rfl
    obtain ⟨fr, r1, r2⟩ := hrt
    have hJ' : JC A' [] nm sl Ts wr := ⟨s1, ⟨fr, (s4.2 27 (by decide)).trans r1, r2⟩, ⟨u, p, v, G, F', a, pr, s2, by have := hT.frame (r := []) s3; rwa [List.append_nil] at this⟩, h4.same s4 (by decide) (by decide), (s4.2 26 (by decide)).trans h5, h6⟩
    subst b2
    refine ⟨_, rfl, ?_⟩
    repeat' first
      | refine xP_s rfl rfl rfl ?_
      | refine xP_ret rfl rfl rfl ?_
    exact kb e B1 b1 hJ'
  · rw [erd] at e
    obtain ⟨B1, b1, b2⟩ := mH_of2 hB s4 rfl
    obtain ⟨fr, r1, r2⟩ := hrt
    have hJ' : JC A' t nm sl Ts wr := ⟨s1, ⟨fr, (s4.2 27 (by decide)).trans r1, r2⟩, ⟨u, p, v, G, F', a, pr, s2, by have := hT.frame (r := []) s3; rwa [List.append_nil] at this⟩, h4.same s4 (by decide) (by decide), (s4.2 26 (by decide)).trans h5, h6⟩
    subst b2
    refine ⟨_, rfl, ?_⟩
    repeat' first
      | refine xP_s rfl rfl rfl ?_
      | refine xP_ret rfl rfl rfl ?_
    exact kc L D s' e hf B1 b1 hJ'
  · rw [erd] at e
    obtain ⟨B1, b1, b2⟩ := mH_of2 hB s6 rfl
    have htr : trP 14 L := by
      obtain ⟨t1, _, _, _, t5, _⟩ := s5.at (i := Ts.length) (q := (L, D)) (by rw [List.getElem?_append_right (Nat.le_refl _), Nat.sub_self]; rfl)
      exact trP_mono t1.trP t5
    have hJ' : JC A' s' (nm ++ w) sl (Ts ++ [(L, D)]) wr := ⟨by rw [List.length_append]; exact s1, s2, ⟨u, p, v, G, F', a, pr, by rw [tlen_app]; exact s3, by rw [tlen_app]; exact s5⟩, h4.same s6 (by decide) (by decide), (s6.2 26 (by decide)).trans h5, h6.more⟩
    subst b2
    refine xP_s rfl rfl rfl ?_
    refine xP_las rfl (mH_o53 b1) rfl ?_
    rw [mH_out b1]
    repeat' first
      | refine xP_s rfl rfl rfl ?_
      | refine xP_ret rfl rfl rfl ?_
    exact ko L D s' e e1 e2 B1 _ w b1 s4 htr pk_lu (hJ'.same (mH_same b1 rfl rfl))
theorem JP.wrt1 (hP : JP t nm sl Ts wr N X p b m) {q : List xIt × Nat} (hq : q ∈ Ts) : ∃ w, (∀ R, wrt sl 14 1200 (q.1 ++ R) = (w, R)) ∧ w.length ≤ 1200 ∧ wrt sl 14 1200 q.1 = (w, []) := by
  obtain ⟨h1, h2, h3, h4, h5, h6, h7, h8, h9, h10, h11⟩ := hP
  obtain ⟨q1, q2, q3, q4⟩ := h7 q hq
  obtain ⟨o, w1, w3, w2, _⟩ := wrt_X (al := fun u => u ∈ X) (fun e he => (h1.2 e he).2.2.2.2.1) (h10 [45] (by simp [X0])) 14 14 q.1 q1 (Nat.le_refl _) (by decide) q2 1200
  have := w1 []
  rw [List.append_nil] at this
  exact ⟨o, w1, by omega, this⟩
set_option maxRecDepth 100000 in
theorem h_write (hB : B.length = 28) (hJ : JC (mH B [oC f] v a o) t nm sl Ts wr) (hP : JP t nm sl Ts wr N X p b (m + 1))
    (kb : ¬ (0 ≤ x.toInt ∧ x.toInt < Ts.length) → P (.inl (some (.int 1))) (mH B [oC f] v a o, g + 1))
    (ko : ∀ q w, 0 ≤ x.toInt → Ts[x.toInt.toNat]? = some q → (∀ R, wrt sl 14 1200 (q.1 ++ R) = (w, R)) → ∀ B1 f1, B1.length = 28 → f1 0 = (nI w.length).toInt64 → JC (mH B1 [oC f1] v a o) t nm sl Ts w → P (.inl (some (.int 0))) (mH B1 [oC f1] v a o, g)) : xM1 sc (d + 125) 216 [.ref 0, .int x, .ref 53] (mH B [oC f] v a o, g) P := by
  have hP0 := hP
  obtain ⟨p1, p2, p3, p4, p5, p6, p7, p8, p9, p10, p11⟩ := hP
  obtain ⟨h0, hrt, ⟨u, q, vv, G, F, aa, pr, hw, hT⟩, h4, h5, h6⟩ := id hJ
  have h0' := h0
  unfold xTo at h0'
  unfold xM1
  refine xP_s rfl rfl rfl ?_
  refine xP_s rfl rfl rfl ?_
  refine xP_s rfl rfl rfl ?_
  refine xP_s rfl rfl rfl ?_
  refine xP_cv rfl rfl rfl rfl rfl h0' (p_write h0 p2 hrt (nm := nm) (sl := sl) ⟨h5, hw.2.1, hw.2.2.1, hw.2.2.2.2.1⟩ hT h4 (fun e => ?_) (fun q hq => ?_) (fun q e1 e2 A' s1 s2 => ?_))
  · refine ⟨_, rfl, ?_⟩
    repeat' first
      | refine xP_s rfl rfl rfl ?_
      | refine xP_ret rfl rfl rfl ?_
    exact kb e
  · obtain ⟨w, _, w2, w3⟩ := hP0.wrt1 hq
    rw [w3]
    exact w2
  · obtain ⟨w, w1, w2, w3⟩ := hP0.wrt1 (List.mem_of_getElem? e2)
    rw [w3] at s1 ⊢
    obtain ⟨B1, b1, b2⟩ := mH_of2 hB s2 rfl
    have hJ' := hJ.setW s1 s2
    subst b2
    refine xP_s rfl rfl rfl ?_
    refine xP_las rfl (mH_o53 b1) rfl ?_
    rw [mH_out b1]
    repeat' first
      | refine xP_s rfl rfl rfl ?_
      | refine xP_ret rfl rfl rfl ?_
    exact ko q w e1 e2 w1 B1 _ b1 pk_lu (hJ'.same (mH_same b1 rfl rfl))
set_option maxRecDepth 100000 in
theorem h_alike (hB : B.length = 28) (hJ : JC (mH B [oC f] v a o) t nm sl Ts wr) (h40 : Ts.length ≤ 40)
    (kb : ¬ ((0 ≤ x.toInt ∧ x.toInt < Ts.length) ∧ (0 ≤ y.toInt ∧ y.toInt < Ts.length)) → P (.inl (some (.int 1))) (mH B [oC f] v a o, g + 1))
    (ko : ∀ q r, 0 ≤ x.toInt → 0 ≤ y.toInt → Ts[x.toInt.toNat]? = some q → Ts[y.toInt.toNat]? = some r → ∀ f1, f1 0 = (if decide (q.1 = r.1) = true then 1 else 0) → P (.inl (some (.int 0))) (mH B [oC f1] v a o, g)) : xM1 sc (d + 21) 217 [.ref 0, .int x, .int y, .ref 53] (mH B [oC f] v a o, g) P := by
  obtain ⟨h0, hrt, ⟨u, q, vv, G, F, aa, pr, hw, hT⟩, h4, h5, h6⟩ := id hJ
  have h0' := h0
  unfold xTo at h0'
  unfold xM1
  refine xP_s rfl rfl rfl ?_
  refine xP_s rfl rfl rfl ?_
  refine xP_s rfl rfl rfl ?_
  refine xP_s rfl rfl rfl ?_
  refine xP_s rfl rfl rfl ?_
  refine xP_cv rfl rfl rfl rfl rfl h0' (p_alike h0 h40 hrt hw.2.1 hw.2.2.2.2.1 hT (fun e => ?_) (fun q r e1 e2 e3 e4 => ?_))
  · refine ⟨_, rfl, ?_⟩
    repeat' first
      | refine xP_s rfl rfl rfl ?_
      | refine xP_ret rfl rfl rfl ?_
    exact kb e
  · have ko := ko q r e1 e2 e3 e4
    cases hd : decide (q.1 = r.1) with
    | true =>
      rw [hd] at ko
      refine xP_s rfl rfl rfl ?_
      refine xP_s rfl rfl rfl ?_
      refine xP_s rfl rfl rfl ?_
      refine xP_las rfl (mH_o53 hB) rfl ?_
      rw [mH_out hB]
      repeat' first
        | refine xP_s rfl rfl rfl ?_
        | refine xP_ret rfl rfl rfl ?_
      exact ko _ pk_lu
    | false =>
      rw [hd] at ko
      refine xP_s rfl rfl rfl ?_
      refine xP_s rfl rfl rfl ?_
      refine xP_las rfl (mH_o53 hB) rfl ?_
      rw [mH_out hB]
      repeat' first
        | refine xP_s rfl rfl rfl ?_
        | refine xP_ret rfl rfl rfl ?_
      exact ko _ pk_lu
set_option maxRecDepth 100000 in
theorem h_look (hB : B.length = 28) (hJ : JC (mH B [oC f] v a o) t nm sl Ts wr) (h40 : Ts.length ≤ 40)
    (kb : ¬ (0 ≤ x.toInt ∧ x.toInt < Ts.length) → P (.inl (some (.int 1))) (mH B [oC f] v a o, g + 1))
    (kc : (0 ≤ x.toInt ∧ x.toInt < Ts.length) → ¬ (0 ≤ y.toInt ∧ y.toInt ≤ 3) → P (.inl (some (.int 2))) (mH B [oC f] v a o, g + 1))
    (ko : ∀ q, 0 ≤ x.toInt → Ts[x.toInt.toNat]? = some q → (0 ≤ y.toInt ∧ y.toInt ≤ 3) → ∀ (z : Int32) f1, z.toInt = lkV q y.toInt → f1 0 = z.toInt64 → P (.inl (some (.int 0))) (mH B [oC f1] v a o, g)) : xM1 sc (d + 9) 218 [.ref 0, .int x, .int y, .ref 53] (mH B [oC f] v a o, g) P := by
  obtain ⟨h0, hrt, ⟨u, q, vv, G, F, aa, pr, hw, hT⟩, h4, h5, h6⟩ := id hJ
  have h0' := h0
  unfold xTo at h0'
  unfold xM1
  refine xP_s rfl rfl rfl ?_
  refine xP_s rfl rfl rfl ?_
  refine xP_s rfl rfl rfl ?_
  refine xP_s rfl rfl rfl ?_
  refine xP_s rfl rfl rfl ?_
  refine xP_cv rfl rfl rfl rfl rfl h0' (p_look h0 h40 hrt hw.2.1 hw.2.2.2.2.1 hT (fun e => ?_) (fun e1 e2 => ?_) (fun q e1 e2 e3 z e4 => ?_))
  · refine ⟨_, rfl, ?_⟩
    repeat' first
      | refine xP_s rfl rfl rfl ?_
      | refine xP_ret rfl rfl rfl ?_
    exact kb e
  · refine ⟨_, rfl, ?_⟩
    repeat' first
      | refine xP_s rfl rfl rfl ?_
      | refine xP_ret rfl rfl rfl ?_
    exact kc e1 e2
  · refine xP_s rfl rfl rfl ?_
    refine xP_las rfl (mH_o53 hB) rfl ?_
    rw [mH_out hB]
    repeat' first
      | refine xP_s rfl rfl rfl ?_
      | refine xP_ret rfl rfl rfl ?_
    exact ko q e1 e2 e3 z _ e4 pk_lu
set_option maxRecDepth 100000 in
theorem h_count (hB : B.length = 28) (hJ : JC (mH B [oC f] v a o) t nm sl Ts wr)
    (kb : ¬ (0 ≤ x.toInt ∧ x.toInt ≤ 3) → P (.inl (some (.int 1))) (mH B [oC f] v a o, g + 1))
    (ko : ∀ (z : Int32) f1, (x.toInt = 0 → z = nI t.length) → (x.toInt = 1 → z = nI Ts.length) → (x.toInt = 2 → z = nI (tlen Ts)) → (x.toInt = 3 → z = nI sl.length - 1) → (0 ≤ x.toInt ∧ x.toInt ≤ 3) → f1 0 = z.toInt64 → P (.inl (some (.int 0))) (mH B [oC f1] v a o, g)) : xM1 sc (d + 9) 219 [.ref 0, .int x, .ref 53] (mH B [oC f] v a o, g) P := by
  obtain ⟨h0, hrt, ⟨u, q, vv, G, F, aa, pr, hw, hT⟩, h4, h5, h6⟩ := id hJ
  have h0' := h0
  unfold xTo at h0'
  have fin : ∀ z : Int32, (x.toInt = 0 → z = nI t.length) → (x.toInt = 1 → z = nI Ts.length) → (x.toInt = 2 → z = nI (tlen Ts)) → (x.toInt = 3 → z = nI sl.length - 1) → (0 ≤ x.toInt ∧ x.toInt ≤ 3) → xP sc (d + 9) 219 7 [(0, .ref 0), (1, .int x), (2, .ref 53)] [.int z, .int 0, .ref 53] (mH B [oC f] v a o, g) P := fun z z0 z1 z2 z3 z4 => by
    refine xP_s rfl rfl rfl ?_
    refine xP_las rfl (mH_o53 hB) rfl ?_
    rw [mH_out hB]
    repeat' first
      | refine xP_s rfl rfl rfl ?_
      | refine xP_ret rfl rfl rfl ?_
    exact ko z _ z0 z1 z2 z3 z4 pk_lu
  unfold xM1
  refine xP_s rfl rfl rfl ?_
  refine xP_s rfl rfl rfl ?_
  refine xP_s rfl rfl rfl ?_
  refine xP_s rfl rfl rfl ?_
  refine xP_cv rfl rfl rfl rfl rfl h0' (p_count (Ts := Ts) h0 hw.1 hw.2.2.2.2.1 hw.2.2.1 (fun e => ?_) (fun e => ?_) (fun e => ?_) (fun e => ?_) (fun e => ?_))
  · refine ⟨_, rfl, ?_⟩
    repeat' first
      | refine xP_s rfl rfl rfl ?_
      | refine xP_ret rfl rfl rfl ?_
    exact kb e
  · exact fin _ (fun _ => rfl) (fun q => by omega) (fun q => by omega) (fun q => by omega) (by omega)
  · exact fin _ (fun q => by omega) (fun _ => rfl) (fun q => by omega) (fun q => by omega) (by omega)
  · exact fin _ (fun q => by omega) (fun q => by omega) (fun _ => rfl) (fun q => by omega) (by omega)
  · exact fin _ (fun q => by omega) (fun q => by omega) (fun q => by omega) (fun _ => rfl) (by omega)
end HP
