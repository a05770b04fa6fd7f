-- the text taken apart: tokens in their rows
def xGa (G G' : xG) (u : Nat) : Prop := ∀ j, j < u → G'.1 j = G.1 j ∧ G'.2.1 j = G.2.1 j ∧ G'.2.2.1 j = G.2.2.1 j ∧ G'.2.2.2.1 j = G.2.2.2.1 j ∧ G'.2.2.2.2.1 j = G.2.2.2.2.1 j ∧ G'.2.2.2.2.2 j = G.2.2.2.2.2 j
theorem xGa.refl (G : xG) (u : Nat) : xGa G G u := fun _ _ => ⟨rfl, rfl, rfl, rfl, rfl, rfl⟩
theorem xGa.trans {G G' G2 : xG} {u u' : Nat} (h : xGa G G' u) (h' : xGa G' G2 u') (hu : u ≤ u') : xGa G G2 u := fun j hj => by
  obtain ⟨a1, a2, a3, a4, a5, a6⟩ := h j hj
  obtain ⟨b1, b2, b3, b4, b5, b6⟩ := h' j (by omega)
  exact ⟨b1.trans a1, b2.trans a2, b3.trans a3, b4.trans a4, b5.trans a5, b6.trans a6⟩
theorem xTn_ga (G : xG) (u : Nat) (x1 : Int32) (p e : Nat) (x4 x5 : Int32) (key : Int64) : xGa G (xTn G u x1 p e x4 x5 key) u := fun j hj => by
  have h : j ≠ u := by omega
  exact ⟨pk_un h, pk_un h, pk_un h, pk_un h, pk_un h, pk_ln h⟩
/-- the rows of a token -/
def tkE (t nm : List Nat) (G : xG) (j p : Nat) (vs : List (List Nat)) (q : xTok) : Prop :=
  G.1 j = nI q.1 ∧ G.2.1 j = nI p ∧ G.2.2.1 j = nI (t.length - q.2.2.2.length) ∧
  (q.1 = 1 → ∃ z, G.2.2.2.1 j = nI z ∧ G.2.2.2.2.1 j = nI q.2.2.1.length ∧ nmAt nm z q.2.2.1 ∧ G.2.2.2.2.2 j = kL q.2.2.1) ∧
  (q.1 = 2 → G.2.2.2.1 j = nI (vno vs q.2.2.1) ∧ vtx t G j q.2.2.1) ∧
  (q.1 = 3 → G.2.2.2.1 j = nI q.2.1) ∧
  (q.1 = 4 → G.2.2.2.1 j = nI (p + 1) ∧ G.2.2.2.2.1 j = nI q.2.2.1.length) ∧
  (q.1 = 5 → G.2.2.2.1 j = nI q.2.1) ∧ (¬ q.1 = 1 → G.2.2.2.2.2 j = if q.1 = 5 ∧ q.2.1 = 44 then 44 else 0)
theorem vtx.ga {t : List Nat} {G G' : xG} {j u : Nat} {w : List Nat} (h : vtx t G j w) (hg : xGa G G' u) (hj : j < u) : vtx t G' j w := by
  obtain ⟨b, h1, h2, h3, h4⟩ := h
  obtain ⟨a1, a2, a3, a4, a5, a6⟩ := hg j hj
  exact ⟨b, a2.trans h1, h2, h3, a5.trans h4⟩
theorem tkE.ga {t nm r : List Nat} {G G' : xG} {j p u : Nat} {vs : List (List Nat)} {q : xTok} (h : tkE t nm G j p vs q) (hg : xGa G G' u) (hj : j < u) : tkE t (nm ++ r) G' j p vs q := by
  obtain ⟨h1, h2, h3, h4, h5, h6, h7, h8, h9⟩ := h
  have hg2 := hg
  obtain ⟨a1, a2, a3, a4, a5, a6⟩ := hg j hj
  refine ⟨a1.trans h1, a2.trans h2, a3.trans h3, fun z => ?_, fun z => ⟨a4.trans (h5 z).1, (h5 z).2.ga hg2 hj⟩, fun z => a4.trans (h6 z), fun z => ⟨a4.trans (h7 z).1, a5.trans (h7 z).2⟩, fun z => a4.trans (h8 z), fun z => a6.trans (h9 z)⟩
  obtain ⟨y, y1, y2, y3, y4⟩ := h4 z
  exact ⟨y, a4.trans y1, a5.trans y2, y3.more, a6.trans y4⟩
def vsx (vs : List (List Nat)) (q : xTok) : List (List Nat) := if q.1 = 2 then vnx vs q.2.2.1 else vs
theorem getElem?_snoc {vs : List (List Nat)} {w w' : List Nat} {i : Nat} (h : (vs ++ [w])[i]? = some w') : vs[i]? = some w' ∨ (i = vs.length ∧ w' = w) := by
  rw [List.getElem?_append] at h
  split at h
  · exact Or.inl h
  · have hl := (List.getElem?_eq_some_iff.mp h).1
    simp at hl
    have e : i - vs.length = 0 := by omega
    rw [e] at h
    have := Option.some.inj h
    exact Or.inr ⟨by omega, this.symm⟩
/-- variables, a token more -/
theorem vt_step {t nm : List Nat} {G G' : xG} {u p : Nat} {vs : List (List Nat)} {q : xTok} (h : xVT t G u vs) (hg : xGa G G' u) (hq : tkE t nm G' u p vs q) (hq7 : q.1 < 6) : xVT t G' (u + 1) (vsx vs q) := by
  obtain ⟨h1, h2, h3, h4⟩ := h
  have hk : (G'.1 u).toInt = (q.1 : Int) := by rw [hq.1, nI_toInt (by omega)]
  have old : ∀ j, j < u → (G'.1 j).toInt = 2 → ∃ w i, vtx t G' j w ∧ G'.2.2.2.1 j = nI i ∧ vs[i]? = some w := by
    intro j hj hk2
    obtain ⟨a1, a2, a3, a4, a5, a6⟩ := hg j hj
    obtain ⟨w, i, z1, z2, z3⟩ := h1 j hj (by rw [← a1]; exact hk2)
    exact ⟨w, i, z1.ga hg hj, a4.trans z2, z3⟩
  have old2 : ∀ (i : Nat) (w : List Nat), vs[i]? = some w → ¬ w = [95] → ∃ j, j < u + 1 ∧ (G'.1 j).toInt = 2 ∧ vtx t G' j w := by
    intro i w hi hw
    obtain ⟨j, z1, z2, z3⟩ := h2 i w hi hw
    exact ⟨j, by omega, by rw [(hg j z1).1]; exact z2, z3.ga hg z1⟩
  unfold vsx
  split
  next h2k =>
    obtain ⟨v1, v2⟩ := hq.2.2.2.2.1 h2k
    generalize hw : q.2.2.1 = w at v1 v2 ⊢
    have new : vno vs w = vs.length → vnx vs w = vs ++ [w] → (¬ w = [95] → ∀ (i : Nat), ¬ vs[i]? = some w) → xVT t G' (u + 1) (vnx vs w) := by
      intro e1 e2 hn
      rw [e2]
      refine ⟨fun j hj hk2 => ?_, fun i w' hi hw' => ?_, fun i i' w' hi hi' hw' => ?_, by simp; omega⟩
      · by_cases e : j = u
        · subst e
          exact ⟨w, vs.length, v2, by rw [v1, e1], by simp⟩
        · obtain ⟨w', i, z1, z2, z3⟩ := old j (by omega) hk2
          exact ⟨w', i, z1, z2, by rw [List.getElem?_append_left (List.getElem?_eq_some_iff.mp z3).1]; exact z3⟩
      · rcases getElem?_snoc hi with z | ⟨z1, z2⟩
        · exact old2 i w' z hw'
        · subst z2
          exact ⟨u, by omega, by rw [hk, h2k]; rfl, v2⟩
      · rcases getElem?_snoc hi with z | ⟨z1, z2⟩
        · rcases getElem?_snoc hi' with y | ⟨y1, y2⟩
          · exact h3 i i' w' z y hw'
          · exact absurd (y2 ▸ z) (hn (y2 ▸ hw') i)
        · rcases getElem?_snoc hi' with y | ⟨y1, y2⟩
          · exact absurd (z2 ▸ y) (hn (z2 ▸ hw') i')
          · omega
    by_cases h95 : w = [95]
    · exact new (by unfold vno; rw [if_pos h95]) (by unfold vnx; rw [if_pos h95]) (fun z => absurd h95 z)
    · cases hx : vix w vs 0 with
      | none => exact new (by unfold vno; rw [if_neg h95, hx]) (by unfold vnx; rw [if_neg h95, hx]) (fun _ i => vix_none hx i)
      | some j =>
        have e1 : vno vs w = j := by unfold vno; rw [if_neg h95, hx]
        have e2 : vnx vs w = vs := by unfold vnx; rw [if_neg h95, hx]
        rw [e2]
        refine ⟨fun j' hj hk2 => ?_, old2, h3, by omega⟩
        by_cases e : j' = u
        · subst e
          exact ⟨w, j, v2, by rw [v1, e1], by have := (vix_some hx).2; simpa using this⟩
        · exact old j' (by omega) hk2
  next h2k =>
    refine ⟨fun j hj hk2 => ?_, old2, h3, by omega⟩
    by_cases e : j = u
    · subst e
      rw [hk] at hk2
      exact absurd (by omega) h2k
    · exact old j (by omega) hk2
theorem tw_take (f : Nat → Bool) : ∀ l : List Nat, l.take (l.takeWhile f).length = l.takeWhile f
  | [] => rfl
  | c :: l => by
    cases h : f c
    · rw [List.takeWhile_cons_of_neg (by simp [h])]
      rfl
    · rw [List.takeWhile_cons_of_pos h, List.length_cons, List.take_succ_cons, tw_take f l]
theorem spn {t s : List Nat} {p : Nat} (f : Nat → Bool) (hd : t.drop p = s) (hp : p ≤ t.length) : p ≤ t.length - (s.dropWhile f).length ∧ t.length - (s.dropWhile f).length ≤ t.length ∧ (t.drop p).take (t.length - (s.dropWhile f).length - p) = s.takeWhile f ∧ t.drop (t.length - (s.dropWhile f).length) = s.dropWhile f := by
  have e : s = s.takeWhile f ++ s.dropWhile f := List.takeWhile_append_dropWhile.symm
  obtain ⟨h1, h2, h3⟩ := sfx_drop hd hp e
  have hl : s.length = t.length - p := by rw [← hd, List.length_drop]
  have hl2 : s.length = (s.takeWhile f).length + (s.dropWhile f).length := by
    conv => lhs; rw [e]
    rw [List.length_append]
  refine ⟨h2, h3, ?_, h1⟩
  rw [hd, show t.length - (s.dropWhile f).length - p = (s.takeWhile f).length by omega]
  exact tw_take f s
theorem p_isLargeN {sc : xSc} {d g c : Nat} {A : List xC} {b : Bool} {P : xO → xH → Prop} (hb : isLg c = b) (hc : c < 2 ^ 31) (k : P (.inl (some (.int (xb b)))) (A, g)) : xM1 sc d 202 [.int (nI c)] (A, g) P := by
  refine p_isLarge ?_
  rw [show iIn 65 90 (nI c) = isLg c from iIn_nI (lo := 65) (hi := 90) hc, hb]
  exact k
theorem p_isDigitN {sc : xSc} {d g c : Nat} {A : List xC} {b : Bool} {P : xO → xH → Prop} (hb : isDg c = b) (hc : c < 2 ^ 31) (k : P (.inl (some (.int (xb b)))) (A, g)) : xM1 sc d 203 [.int (nI c)] (A, g) P := by
  refine p_isDigit ?_
  rw [show iIn 48 57 (nI c) = isDg c from iIn_nI (lo := 48) (hi := 57) hc, hb]
  exact k
theorem p_isPunctN {sc : xSc} {d g c : Nat} {A : List xC} {b : Bool} {P : xO → xH → Prop} (hb : isPn c = b) (hc : c < 128) (k : P (.inl (some (.int (xb b)))) (A, g)) : xM1 sc d 206 [.int (nI c)] (A, g) P := by
  refine p_isPunctuation ?_
  rw [pnI_nI c hc, hb]
  exact k
/-- what a name's rows say -/
theorem tkE_name {t nm w z : List Nat} {G : xG} {u p : Nat} {vs : List (List Nat)} : tkE t (nm ++ w) (xTn G u 1 p (t.length - z.length) (nI nm.length) (nI w.length) (kL w)) u p vs (1, 0, w, z) := by
  refine ⟨pk_us, pk_us, pk_us, fun _ => ⟨nm.length, pk_us, pk_us, ⟨by simp, fun i c hi => ?_⟩, pk_lu⟩, fun h => by simp at h, fun h => by simp at h, fun h => by simp at h, fun h => by simp at h, fun h => absurd rfl h⟩
  rw [List.getElem?_append_right (by omega)]
  simpa using hi
theorem kL_0 : kL [] = 0 := rfl
set_option maxRecDepth 100000 in
theorem p_scanToken {sc : xSc} {d g u p v : Nat} {A : List xC} {G : xG} {t nm s : List Nat} {vs : List (List Nat)} {P : xO → xH → Prop} (ht : xTk A u p v G) (hs : xRw A 1 120 t) (hn : xRw A 5 4926 nm) (hvt : xVT t G u vs) (hv : v = vs.length) (hu : u < 120) (hd : t.drop p = s) (hp : p ≤ t.length) (hr : nm.length + s.length ≤ 4926)
    (k0 : ∀ A' u' p' v' G' w', 6 ≤ (lexT s).1 → xTk A' u' p' v' G' → xRw A' 5 4926 (nm ++ w') → xSame A A' [5, 6, 18, 19, 20, 21, 22, 23, 24] → P (.inl (some (.int 0))) (A', g))
    (k1 : ∀ A' G' w', (lexT s).1 < 6 → xTk A' (u + 1) (t.length - (lexT s).2.2.2.length) (vsx vs (lexT s)).length G' → xGa G G' u → tkE t (nm ++ w') G' u p vs (lexT s) → xRw A' 5 4926 (nm ++ w') → w'.length + (lexT s).2.2.2.length ≤ s.length → xSame A A' [5, 6, 18, 19, 20, 21, 22, 23, 24] → P (.inl (some (.int 1))) (A', g)) : xM1 sc (d + 5) 99 [.ref 18] (A, g) P := by
  have h18 := ht.2.1
  have hl := hs.len
  have hsl : s.length = t.length - p := by rw [← hd, List.length_drop]
  have h0 : ∀ q, lexT s = q → 6 ≤ q.1 → ∀ A' w', xTk A' u p v G → xRw A' 5 4926 (nm ++ w') → xSame A A' [5, 6, 18, 19, 20, 21, 22, 23, 24] → P (.inl (some (.int 0))) (A', g) := fun q e h6 A' w' z1 z2 z3 => k0 A' u p v G w' (by rw [e]; exact h6) z1 z2 z3
  unfold xM1
  refine xP_s rfl rfl rfl ?_
  refine xP_get rfl h18 rfl ?_
  refine xP_s rfl rfl rfl ?_
  refine xP_get rfl h18 rfl ?_
  refine xP_cv rfl rfl rfl rfl rfl hs.obj (p_at hs (by decide) (by decide) ?_)
  rw [cAt_sfx0 hd (by omega)]
  refine xP_s rfl rfl rfl ?_
  refine xP_s rfl rfl rfl ?_
  refine xP_get rfl h18 rfl ?_
  refine xP_s rfl rfl rfl ?_
  refine xP_get rfl h18 rfl ?_
  refine xP_s rfl rfl rfl ?_
  refine xP_s rfl rfl rfl ?_
  rw [nI_1]
  refine xP_cv rfl rfl rfl rfl rfl hs.obj (p_at hs (by decide) (by decide) ?_)
  rw [cAt_sfx hd (by omega)]
  cases s with
  | nil =>
    repeat' first
      | refine xP_s rfl rfl rfl ?_
      | refine xP_call rfl rfl rfl (p_isSmall ?_)
      | refine xP_call rfl rfl rfl (p_isLarge ?_)
      | refine xP_call rfl rfl rfl (p_isDigit ?_)
      | refine xP_call rfl rfl rfl (p_isSign ?_)
      | refine xP_call rfl rfl rfl (p_isPunctuation ?_)
      | refine xP_ret rfl rfl rfl ?_
    exact h0 _ rfl (by decide) A [] ht (by rw [List.append_nil]; exact hn) (xSame.refl _ _)
  | cons c r =>
    obtain ⟨hd1, hlt⟩ := drop_s hd
    have hch : ∀ x ∈ c :: r, x < 128 := fun x hx => hs.chr x (List.mem_of_mem_drop (hd ▸ hx))
    have hchr : ∀ x ∈ r, x < 128 := fun x hx => hch x (List.mem_cons_of_mem _ hx)
    have hc128 := hch c List.mem_cons_self
    have hC : (nI c).toInt = (c : Int) := nI_toInt (by omega)
    have h95 : (95 : Int32).toInt = 95 := rfl
    rw [oc_0, oc_s]
    -- a plain name: from the end e on
    have plain : ∀ (e : Nat) (w z : List Nat), p ≤ e → e ≤ t.length → (t.drop p).take (e - p) = w → e = t.length - z.length → w.length + z.length = (c :: r).length → lexT (c :: r) = (if w.length ≤ 24 then (1, 0, w, z) else wrg) → ∀ (P' : xO → xH → Prop), (∀ A', P (.inl (some (.int 0))) (A', g) → P' (.inl (some (.int 0))) (A', g)) → (∀ A', P (.inl (some (.int 1))) (A', g) → P' (.inl (some (.int 1))) (A', g)) → xM1 sc (d + 4) 103 [.ref 18, .int (nI e)] (A, g) P' := by
      intro e w z e1 e2 e3 e4 e5 e6 P' p0 p1
      subst e4
      have hwl : w.length = t.length - z.length - p := by
        rw [← e3, List.length_take, List.length_drop]
        omega
      refine p_addPlainName ht hs hn hu e1 e2 e3 (by omega) (fun hz A' z1 z2 z3 => p0 A' ?_) (fun hz A' z1 z2 z3 => p1 A' ?_)
      · rw [if_neg (by omega)] at e6
        exact h0 _ e6 (by decide) A' w z1 z2 z3
      · rw [if_pos hz] at e6
        rw [e6] at k1
        exact k1 A' _ w (by simp) (by rw [hv] at z1; exact z1) (xTn_ga _ _ _ _ _ _ _ _) tkE_name z2 (by dsimp only; omega) z3
    have vr : lexT (c :: r) = (if ((c :: r).takeWhile isWd).length ≤ 24 then (2, 0, (c :: r).takeWhile isWd, (c :: r).dropWhile isWd) else wrg) → xP sc (d + 5) 99 56 [(0, .ref 18), (1, .int (nI c)), (2, .int (oc r 0))] [] (A, g) P := by
      intro e0
      obtain ⟨s1, s2, s3, s4⟩ := spn isWd hd hp
      have hwz : ((c :: r).takeWhile isWd).length + ((c :: r).dropWhile isWd).length = (c :: r).length := by rw [← List.length_append, List.takeWhile_append_dropWhile]
      refine xP_s rfl rfl rfl ?_
      refine xP_s rfl rfl rfl ?_
      refine xP_s rfl rfl rfl ?_
      refine xP_cv rfl rfl rfl rfl rfl h18 (p_behindRow (b := false) ht hs hd hp ?_)
      refine xP_cv rfl rfl rfl rfl rfl h18 (p_tkVariable ht hs hvt hv hu s1 s2 s3 (fun hz => ?_) (fun hz A' z1 z2 => ?_))
      · repeat' first
          | refine xP_s rfl rfl rfl ?_
          | refine xP_ret rfl rfl rfl ?_
        rw [if_neg (by omega)] at e0
        exact h0 _ e0 (by decide) A [] ht (by rw [List.append_nil]; exact hn) (xSame.refl _ _)
      · repeat' first
          | refine xP_s rfl rfl rfl ?_
          | refine xP_ret rfl rfl rfl ?_
        rw [if_pos hz] at e0
        rw [e0] at k1
        refine k1 A' _ [] (by simp) z1 (xTn_ga _ _ _ _ _ _ _ _) ⟨pk_us, pk_us, pk_us, fun h => by simp at h, fun _ => ⟨pk_us, p, pk_us, ?_, ?_, pk_us⟩, fun h => by simp at h, fun h => by simp at h, fun h => by simp at h, fun _ => pk_lu⟩ (by rw [List.append_nil]; exact hn.same z2 (by decide) (by decide)) (by rw [List.length_nil]; dsimp only; omega) (z2.wide (by decide))
        · dsimp only
          omega
        · dsimp only
          rw [hd]
          exact tw_take isWd (c :: r)
    have rest : isSm c = false → ¬ (isLg c = true ∨ c = 95) → xP sc (d + 5) 99 66 [(0, .ref 18), (1, .int (nI c)), (2, .int (oc r 0))] [] (A, g) P := by
      intro hsm hlg
      have g1 : ¬ isSm c = true := by rw [hsm]; decide
      cases hdg : isDg c
      · have g3 : ¬ isDg c = true := by rw [hdg]; decide
        cases hsg : isSg c
        · have g4 : ¬ isSg c = true := by rw [hsg]; decide
          have h39 : (39 : Int32).toInt = 39 := rfl
          have h34 : (34 : Int32).toInt = 34 := rfl
          have h33 : (33 : Int32).toInt = 33 := rfl
          have h59 : (59 : Int32).toInt = 59 := rfl
          have h91 : (91 : Int32).toInt = 91 := rfl
          have h93 : (93 : Int32).toInt = 93 := rfl
          have h123 : (123 : Int32).toInt = 123 := rfl
          have h125 : (125 : Int32).toInt = 125 := rfl
          have h44 : (44 : Int32).toInt = 44 := rfl
          have o93 : (oc r 0).toInt = 93 ↔ r.head? = some 93 := oc_hd 93 hchr
          have o125 : (oc r 0).toInt = 125 ↔ r.head? = some 125 := oc_hd 125 hchr
          refine xP_s rfl rfl rfl ?_
          refine xP_call rfl rfl rfl (p_isDigitN hdg (by omega) ?_)
          refine xP_s rfl rfl rfl ?_
          refine xP_s rfl rfl rfl ?_
          refine xP_call rfl rfl rfl (p_isSignN hsg (by omega) ?_)
          refine xP_s rfl rfl rfl ?_
          refine xP_s rfl rfl rfl ?_
          refine xP_s rfl rfl rfl ?_
          refine xP_s rfl rfl rfl ?_
          refine xP_if (fun hc => ?_) (fun hc => ?_)
          · have n39 := xc_t hc
            dsimp only at n39
            refine xP_s rfl rfl rfl ?_
            refine xP_s rfl rfl rfl ?_
            refine xP_s rfl rfl rfl ?_
            refine xP_if (fun hc => ?_) (fun hc => ?_)
            · have n34 := xc_t hc
              dsimp only at n34
              have solo : (c = 33 ∨ c = 59) → xP sc (d + 5) 99 153 [(0, .ref 18), (1, .int (nI c)), (2, .int (oc r 0))] [] (A, g) P := by
                intro hcc
                have e0 : lexT (c :: r) = (1, 0, [c], r) := by
                  rw [lexT_cons]
                  rw [if_neg g1, if_neg hlg, if_neg g3, if_neg g4, if_neg (by omega), if_neg (by omega), if_pos hcc]
                refine xP_s rfl rfl rfl ?_
                refine xP_s rfl rfl rfl ?_
                refine xP_get rfl h18 rfl ?_
                refine xP_s rfl rfl rfl ?_
                refine xP_s rfl rfl rfl ?_
                rw [nI_1]
                refine xP_cv rfl rfl rfl rfl rfl h18 (plain (p + 1) [c] r (by omega) (by omega) (by rw [hd, Nat.add_sub_cancel_left]; rfl) (drop_len hd1 (by omega)) (by simp; omega) (by rw [e0]; rfl) _ (fun A' z => ?_) (fun A' z => ?_))
                · repeat' first
                    | refine xP_s rfl rfl rfl ?_
                    | refine xP_ret rfl rfl rfl ?_
                  exact z
                · repeat' first
                    | refine xP_s rfl rfl rfl ?_
                    | refine xP_ret rfl rfl rfl ?_
                  exact z
              refine xP_s rfl rfl rfl ?_
              refine xP_s rfl rfl rfl ?_
              refine xP_s rfl rfl rfl ?_
              refine xP_if (fun hc => ?_) (fun hc => ?_)
              · have := xc_t hc
                dsimp only at this
                exact solo (by omega)
              · have n33 := xc_f hc
                dsimp only at n33
                refine xP_s rfl rfl rfl ?_
                refine xP_s rfl rfl rfl ?_
                refine xP_s rfl rfl rfl ?_
                refine xP_if (fun hc => ?_) (fun hc => ?_)
                · have n59 := xc_t hc
                  dsimp only at n59
                  have g7 : ¬ (c = 33 ∨ c = 59) := by omega
                  have pair : ((c = 91 ∧ r.head? = some 93) ∨ (c = 123 ∧ r.head? = some 125)) → xP sc (d + 5) 99 188 [(0, .ref 18), (1, .int (nI c)), (2, .int (oc r 0))] [] (A, g) P := by
                    intro hcc
                    have e0 : lexT (c :: r) = (1, 0, (c :: r).take 2, r.tail) := by
                      rw [lexT_cons]
                      rw [if_neg g1, if_neg hlg, if_neg g3, if_neg g4, if_neg (by omega), if_neg (by omega), if_neg g7, if_pos hcc]
                    cases r with
                    | nil =>
                      rcases hcc with z | z
                      · cases z.2
                      · cases z.2
                    | cons c2 r2 =>
                      obtain ⟨hd2, hlt2⟩ := drop_s hd1
                      refine xP_s rfl rfl rfl ?_
                      refine xP_s rfl rfl rfl ?_
                      refine xP_get rfl h18 rfl ?_
                      refine xP_s rfl rfl rfl ?_
                      refine xP_s rfl rfl rfl ?_
                      rw [show nI p + 2 = nI (p + 2) from nI_add p 2]
                      refine xP_cv rfl rfl rfl rfl rfl h18 (plain (p + 2) [c, c2] r2 (by omega) (by omega) (by rw [hd, Nat.add_sub_cancel_left]; rfl) (drop_len hd2 (by omega)) (by simp; omega) (by rw [e0]; rfl) _ (fun A' z => ?_) (fun A' z => ?_))
                      · repeat' first
                          | refine xP_s rfl rfl rfl ?_
                          | refine xP_ret rfl rfl rfl ?_
                        exact z
                      · repeat' first
                          | refine xP_s rfl rfl rfl ?_
                          | refine xP_ret rfl rfl rfl ?_
                        exact z
                  have mark : ¬ ((c = 91 ∧ r.head? = some 93) ∨ (c = 123 ∧ r.head? = some 125)) → xP sc (d + 5) 99 199 [(0, .ref 18), (1, .int (nI c)), (2, .int (oc r 0))] [] (A, g) P := by
                    intro hcc
                    cases hpn : isPn c
                    · have e0 : lexT (c :: r) = wrg := by
                        rw [lexT_cons]
                        rw [if_neg g1, if_neg hlg, if_neg g3, if_neg g4, if_neg (by omega), if_neg (by omega), if_neg g7, if_neg hcc, if_neg (by rw [hpn]; decide)]
                      repeat' first
                        | refine xP_s rfl rfl rfl ?_
                        | refine xP_call rfl rfl rfl (p_isPunctN hpn hc128 ?_)
                        | refine xP_ret rfl rfl rfl ?_
                      exact h0 _ e0 (by decide) A [] ht (by rw [List.append_nil]; exact hn) (xSame.refl _ _)
                    · have e0 : lexT (c :: r) = (5, c, [], r) := by
                        rw [lexT_cons]
                        rw [if_neg g1, if_neg hlg, if_neg g3, if_neg g4, if_neg (by omega), if_neg (by omega), if_neg g7, if_neg hcc, if_pos hpn]
                      have er : p + 1 = t.length - r.length := drop_len hd1 (by omega)
                      have fin : ∀ A' key, key = (if 5 = 5 ∧ c = 44 then 44 else 0) → xTk A' (u + 1) (p + 1) v (xTn G u 5 p (p + 1) (nI c) 1 key) → xSame A A' [18, 19, 20, 21, 22, 23, 24] → P (.inl (some (.int 1))) (A', g) := by
                        intro A' key hkey z1 z2
                        rw [e0] at k1
                        refine k1 A' _ [] (by simp) (by rw [er, hv] at z1; exact z1) (xTn_ga _ _ _ _ _ _ _ _) ⟨pk_us, pk_us, pk_us, fun h => by simp at h, fun h => by simp at h, fun h => by simp at h, fun h => by simp at h, fun _ => pk_us, fun _ => pk_lu.trans hkey⟩ (by rw [List.append_nil]; exact hn.same z2 (by decide) (by decide)) (by simp) (z2.wide (by decide))
                      refine xP_s rfl rfl rfl ?_
                      refine xP_call rfl rfl rfl (p_isPunctN hpn hc128 ?_)
                      refine xP_s rfl rfl rfl ?_
                      refine xP_s rfl rfl rfl ?_
                      refine xP_s rfl rfl rfl ?_
                      refine xP_s rfl rfl rfl ?_
                      refine xP_get rfl h18 rfl ?_
                      refine xP_s rfl rfl rfl ?_
                      refine xP_s rfl rfl rfl ?_
                      rw [nI_1]
                      refine xP_s rfl rfl rfl ?_
                      refine xP_s rfl rfl rfl ?_
                      refine xP_s rfl rfl rfl ?_
                      refine xP_s rfl rfl rfl ?_
                      refine xP_s rfl rfl rfl ?_
                      refine xP_if (fun hc => ?_) (fun hc => ?_)
                      · have z44 := xc_t hc
                        dsimp only at z44
                        refine xP_s rfl rfl rfl ?_
                        refine xP_cv rfl rfl rfl rfl rfl h18 (p_tadd ht hu (fun A1 q1 q2 => ?_))
                        repeat' first
                          | refine xP_s rfl rfl rfl ?_
                          | refine xP_ret rfl rfl rfl ?_
                        exact fin A1 0 (by rw [if_neg (by omega)]) q1 q2
                      · have z44 := xc_f hc
                        dsimp only at z44
                        refine xP_s rfl rfl rfl ?_
                        refine xP_s rfl rfl rfl ?_
                        refine xP_cv rfl rfl rfl rfl rfl h18 (p_tadd ht hu (fun A1 q1 q2 => ?_))
                        repeat' first
                          | refine xP_s rfl rfl rfl ?_
                          | refine xP_ret rfl rfl rfl ?_
                        exact fin A1 44 (by rw [if_pos ⟨rfl, by omega⟩]) q1 q2
                  have brace : ¬ (c = 91 ∧ r.head? = some 93) → xP sc (d + 5) 99 176 [(0, .ref 18), (1, .int (nI c)), (2, .int (oc r 0))] [] (A, g) P := by
                    intro hb
                    refine xP_s rfl rfl rfl ?_
                    refine xP_s rfl rfl rfl ?_
                    refine xP_s rfl rfl rfl ?_
                    refine xP_if (fun hc => ?_) (fun hc => ?_)
                    · have z1 := xc_t hc
                      dsimp only at z1
                      exact mark (fun z => by
                        rcases z with z | z
                        · exact hb z
                        · omega)
                    · have z1 := xc_f hc
                      dsimp only at z1
                      refine xP_s rfl rfl rfl ?_
                      refine xP_s rfl rfl rfl ?_
                      refine xP_s rfl rfl rfl ?_
                      refine xP_if (fun hc => ?_) (fun hc => ?_)
                      · have z2 := xc_t hc
                        dsimp only at z2
                        exact mark (fun z => by
                          rcases z with z | z
                          · exact hb z
                          · exact z2 (o125.mpr z.2))
                      · have z2 := xc_f hc
                        dsimp only at z2
                        exact pair (Or.inr ⟨by omega, o125.mp z2⟩)
                  refine xP_s rfl rfl rfl ?_
                  refine xP_s rfl rfl rfl ?_
                  refine xP_s rfl rfl rfl ?_
                  refine xP_if (fun hc => ?_) (fun hc => ?_)
                  · have z1 := xc_t hc
                    dsimp only at z1
                    exact brace (by omega)
                  · have z1 := xc_f hc
                    dsimp only at z1
                    refine xP_s rfl rfl rfl ?_
                    refine xP_s rfl rfl rfl ?_
                    refine xP_s rfl rfl rfl ?_
                    refine xP_if (fun hc => ?_) (fun hc => ?_)
                    · have z2 := xc_t hc
                      dsimp only at z2
                      exact pair (Or.inl ⟨by omega, o93.mp z2⟩)
                    · have z2 := xc_f hc
                      dsimp only at z2
                      exact brace (fun z => z2 (o93.mpr z.2))
                · have := xc_f hc
                  dsimp only at this
                  exact solo (by omega)
            · have c34 := xc_f hc
              dsimp only at c34
              have e0 : lexT (c :: r) = (match strq r with | some q => if q.1.length ≤ 12 then (4, 0, q.1, q.2) else wrg | none => wrg) := by
                rw [lexT_cons]
                rw [if_neg g1, if_neg hlg, if_neg g3, if_neg g4, if_neg (by omega), if_pos (by omega)]
                rfl
              refine xP_s rfl rfl rfl ?_
              refine xP_cv rfl rfl rfl rfl rfl h18 (p_tkString ht hs hu hd1 (by omega) (fun z => ?_) (fun A1 q q1 q2 q3 q4 => ?_))
              · repeat' first
                  | refine xP_s rfl rfl rfl ?_
                  | refine xP_ret rfl rfl rfl ?_
                refine h0 wrg ?_ (by decide) A [] ht (by rw [List.append_nil]; exact hn) (xSame.refl _ _)
                rw [e0]
                rcases z with z | ⟨q, z, z2⟩
                · rw [z]
                · rw [z]
                  dsimp only
                  rw [if_neg (by omega)]
              · repeat' first
                  | refine xP_s rfl rfl rfl ?_
                  | refine xP_ret rfl rfl rfl ?_
                rw [q1] at e0
                dsimp only at e0
                rw [if_pos q2] at e0
                obtain ⟨w, ew, hw, _⟩ := strq_sfx q1
                have hrl : r.length = w.length + q.2.length := by
                  conv => lhs; rw [ew]
                  rw [List.length_append]
                rw [e0] at k1
                refine k1 A1 _ [] (by simp) (by rw [hv] at q3; exact q3) (xTn_ga _ _ _ _ _ _ _ _) ⟨pk_us, pk_us, pk_us, fun h => by simp at h, fun h => by simp at h, fun h => by simp at h, fun _ => ⟨pk_us, pk_us⟩, fun h => by simp at h, fun _ => pk_lu⟩ (by rw [List.append_nil]; exact hn.same q4 (by decide) (by decide)) (by simp; omega) (q4.wide (by decide))
          · have c39 := xc_f hc
            dsimp only at c39
            have e0 : lexT (c :: r) = (match qt 120 r with | some q => if q.1.length ≤ 24 then (1, 0, q.1, q.2) else wrg | none => wrg) := by
              rw [lexT_cons]
              rw [if_neg g1, if_neg hlg, if_neg g3, if_neg g4, if_pos (by omega)]
              rfl
            rw [List.length_cons] at hsl hr
            refine xP_s rfl rfl rfl ?_
            refine xP_cv rfl rfl rfl rfl rfl h18 (p_addQuotedName ht hs hn hu hd1 (by omega) (by omega) (fun A1 w' z z1 z2 z3 => ?_) (fun A1 q q1 q2 q3 q4 q5 => ?_))
            · repeat' first
                | refine xP_s rfl rfl rfl ?_
                | refine xP_ret rfl rfl rfl ?_
              refine h0 wrg ?_ (by decide) A1 w' z1 z2 z3
              rw [e0]
              rcases z with z | ⟨q, z, z2⟩
              · rw [z]
              · rw [z]
                dsimp only
                rw [if_neg (by omega)]
            · repeat' first
                | refine xP_s rfl rfl rfl ?_
                | refine xP_ret rfl rfl rfl ?_
              rw [q1] at e0
              dsimp only at e0
              rw [if_pos q2] at e0
              obtain ⟨w, ew, hw⟩ := qt_sfx q1
              have hrl : r.length = w.length + q.2.length := by
                conv => lhs; rw [ew]
                rw [List.length_append]
              rw [e0] at k1
              exact k1 A1 _ q.1 (by simp) (by rw [hv] at q3; exact q3) (xTn_ga _ _ _ _ _ _ _ _) tkE_name q4 (by simp; omega) q5
        · -- signs
          obtain ⟨s1, s2, s3, s4⟩ := spn isSg hd hp
          have hwz : ((c :: r).takeWhile isSg).length + ((c :: r).dropWhile isSg).length = (c :: r).length := by rw [← List.length_append, List.takeWhile_append_dropWhile]
          have htw : (c :: r).takeWhile isSg = c :: r.takeWhile isSg := List.takeWhile_cons_of_pos hsg
          have hch2 : ∀ x ∈ (c :: r).dropWhile isSg, x < 128 := fun x hx => hch x ((List.dropWhile_sublist isSg).subset hx)
          generalize hz : (c :: r).dropWhile isSg = z at s1 s2 s3 s4 hwz hch2
          generalize hw : (c :: r).takeWhile isSg = w at s3 hwz htw
          have o32 : (oc z 0).toInt = 32 ↔ z.head? = some 32 := oc_hd 32 hch2
          have o37 : (oc z 0).toInt = 37 ↔ z.head? = some 37 := oc_hd 37 hch2
          have om : (oc z 0).toInt = -1 ↔ z.head? = none := by
            cases z with
            | nil => simp [oc]
            | cons x y =>
              have := hch2 x List.mem_cons_self
              simp [oc_0, nI_toInt (show x < 2 ^ 31 by omega)]
          have hwl : w.length = 1 + (r.takeWhile isSg).length := by rw [htw, List.length_cons]; omega
          have hcond : (t.length - z.length = p + 1 ∧ (oc (c :: r) 0).toInt = 46 ∧ ((oc z 0).toInt = 32 ∨ (oc z 0).toInt = 37 ∨ (oc z 0).toInt = -1)) ↔ (w = [46] ∧ (z.head? = none ∨ z.head? = some 32 ∨ z.head? = some 37)) := by
            rw [o32, o37, om, oc_0, hC]
            constructor
            · intro ⟨z1, z2, z3⟩
              refine ⟨?_, ?_⟩
              · have hl0 : (r.takeWhile isSg).length = 0 := by omega
                rw [htw, List.length_eq_zero_iff.mp hl0, show c = 46 by omega]
              · rcases z3 with z3 | z3 | z3
                · exact Or.inr (Or.inl z3)
                · exact Or.inr (Or.inr z3)
                · exact Or.inl z3
            · intro ⟨z1, z2⟩
              rw [htw] at z1
              have e1 := (List.cons.inj z1).1
              have e2 := (List.cons.inj z1).2
              rw [e2, List.length_nil] at hwl
              refine ⟨by omega, by omega, ?_⟩
              rcases z2 with z2 | z2 | z2
              · exact Or.inr (Or.inr z2)
              · exact Or.inl z2
              · exact Or.inr (Or.inl z2)
          have e0 : lexT (c :: r) = (if w = [46] ∧ (z.head? = none ∨ z.head? = some 32 ∨ z.head? = some 37) then (0, 0, [], z) else if w.length ≤ 24 then (1, 0, w, z) else wrg) := by
            rw [lexT_cons]
            rw [if_neg g1, if_neg hlg, if_neg g3, if_pos hsg, hw, hz]
          refine xP_s rfl rfl rfl ?_
          refine xP_call rfl rfl rfl (p_isDigitN hdg (by omega) ?_)
          refine xP_s rfl rfl rfl ?_
          refine xP_s rfl rfl rfl ?_
          refine xP_call rfl rfl rfl (p_isSignN hsg (by omega) ?_)
          refine xP_s rfl rfl rfl ?_
          refine xP_s rfl rfl rfl ?_
          refine xP_s rfl rfl rfl ?_
          refine xP_cv rfl rfl rfl rfl rfl h18 (p_behindRow (b := true) ht hs hd hp ?_)
          rw [show (c :: r).dropWhile (spf true) = z from hz]
          refine xP_s rfl rfl rfl ?_
          refine xP_s rfl rfl rfl ?_
          refine xP_s rfl rfl rfl ?_
          refine xP_cv rfl rfl rfl rfl rfl h18 (p_isEnd (b := decide (w = [46] ∧ (z.head? = none ∨ z.head? = some 32 ∨ z.head? = some 37))) ht hs hd s4 s1 s2 (by rw [decide_eq_true_eq]; exact hcond.symm) ?_)
          by_cases hE : w = [46] ∧ (z.head? = none ∨ z.head? = some 32 ∨ z.head? = some 37)
          · rw [decide_eq_true hE]
            rw [if_pos hE] at e0
            rw [e0] at k1
            refine xP_s rfl rfl rfl ?_
            refine xP_s rfl rfl rfl ?_
            refine xP_s rfl rfl rfl ?_
            refine xP_s rfl rfl rfl ?_
            refine xP_s rfl rfl rfl ?_
            refine xP_s rfl rfl rfl ?_
            refine xP_s rfl rfl rfl ?_
            refine xP_cv rfl rfl rfl rfl rfl h18 (p_tadd ht hu (fun A1 q1 q2 => ?_))
            repeat' first
              | refine xP_s rfl rfl rfl ?_
              | refine xP_ret rfl rfl rfl ?_
            exact k1 A1 _ [] (by simp) (by rw [hv] at q1; exact q1) (xTn_ga _ _ _ _ _ _ _ _) ⟨pk_us, pk_us, pk_us, fun h => by simp at h, fun h => by simp at h, fun h => by simp at h, fun h => by simp at h, fun h => by simp at h, fun _ => pk_lu⟩ (by rw [List.append_nil]; exact hn.same q2 (by decide) (by decide)) (by rw [List.length_nil]; dsimp only; omega) (q2.wide (by decide))
          · rw [decide_eq_false hE]
            rw [if_neg hE] at e0
            refine xP_s rfl rfl rfl ?_
            refine xP_s rfl rfl rfl ?_
            refine xP_s rfl rfl rfl ?_
            refine xP_cv rfl rfl rfl rfl rfl h18 (plain _ w z s1 s2 s3 rfl hwz e0 _ (fun A' y => ?_) (fun A' y => ?_))
            · repeat' first
                | refine xP_s rfl rfl rfl ?_
                | refine xP_ret rfl rfl rfl ?_
              exact y
            · repeat' first
                | refine xP_s rfl rfl rfl ?_
                | refine xP_ret rfl rfl rfl ?_
              exact y
      · -- a number
        have e0 : lexT (c :: r) = (match lexN c r with | some q => (3, q.1, [], q.2) | none => wrg) := by
          rw [lexT_cons]
          rw [if_neg g1, if_neg hlg, if_pos hdg]
          rfl
        refine xP_s rfl rfl rfl ?_
        refine xP_call rfl rfl rfl (p_isDigitN hdg (by omega) ?_)
        refine xP_s rfl rfl rfl ?_
        refine xP_s rfl rfl rfl ?_
        refine xP_s rfl rfl rfl ?_
        refine xP_s rfl rfl rfl ?_
        refine xP_cv rfl rfl rfl rfl rfl h18 (p_tkInteger ht hs hu hd (fun z => ?_) (fun A1 q q1 q2 q3 => ?_))
        · repeat' first
            | refine xP_s rfl rfl rfl ?_
            | refine xP_ret rfl rfl rfl ?_
          exact h0 wrg (by rw [e0, z]) (by decide) A [] ht (by rw [List.append_nil]; exact hn) (xSame.refl _ _)
        · repeat' first
            | refine xP_s rfl rfl rfl ?_
            | refine xP_ret rfl rfl rfl ?_
          rw [q1] at e0
          dsimp only at e0
          obtain ⟨w, ew, hw⟩ := lexN_sfx hdg q1
          have hrl : (c :: r).length = w.length + q.2.length := by
            conv => lhs; rw [ew]
            rw [List.length_append]
          rw [e0] at k1
          exact k1 A1 _ [] (by simp) (by rw [hv] at q2; exact q2) (xTn_ga _ _ _ _ _ _ _ _) ⟨pk_us, pk_us, pk_us, fun h => by simp at h, fun h => by simp at h, fun _ => pk_us, fun h => by simp at h, fun h => by simp at h, fun _ => pk_lu⟩ (by rw [List.append_nil]; exact hn.same q3 (by decide) (by decide)) (by rw [List.length_nil]; dsimp only; omega) (q3.wide (by decide))
    cases hsm : isSm c
    · have g1 : ¬ isSm c = true := by rw [hsm]; decide
      have ev : (isLg c = true ∨ c = 95) → lexT (c :: r) = (if ((c :: r).takeWhile isWd).length ≤ 24 then (2, 0, (c :: r).takeWhile isWd, (c :: r).dropWhile isWd) else wrg) := by
        intro hh
        rw [lexT_cons]
        rw [if_neg g1, if_pos hh]
      refine xP_s rfl rfl rfl ?_
      refine xP_s rfl rfl rfl ?_
      refine xP_call rfl rfl rfl (p_isSmallN hsm (by omega) ?_)
      refine xP_s rfl rfl rfl ?_
      refine xP_s rfl rfl rfl ?_
      cases hlg : isLg c
      · refine xP_call rfl rfl rfl (p_isLargeN hlg (by omega) ?_)
        refine xP_s rfl rfl rfl ?_
        refine xP_s rfl rfl rfl ?_
        refine xP_s rfl rfl rfl ?_
        refine xP_s rfl rfl rfl ?_
        refine xP_if (fun hc => ?_) (fun hc => ?_)
        · have z := xc_t hc
          dsimp only at z
          exact rest hsm (fun y => by
            rcases y with y | y
            · rw [hlg] at y
              cases y
            · omega)
        · have z := xc_f hc
          dsimp only at z
          exact vr (ev (Or.inr (by omega)))
      · refine xP_call rfl rfl rfl (p_isLargeN hlg (by omega) ?_)
        have go := vr (ev (Or.inl hlg))
        repeat' first
          | exact go
          | refine xP_s rfl rfl rfl ?_
    · obtain ⟨s1, s2, s3, s4⟩ := spn isWd hd hp
      have hwz : ((c :: r).takeWhile isWd).length + ((c :: r).dropWhile isWd).length = (c :: r).length := by rw [← List.length_append, List.takeWhile_append_dropWhile]
      have e0 : lexT (c :: r) = (if ((c :: r).takeWhile isWd).length ≤ 24 then (1, 0, (c :: r).takeWhile isWd, (c :: r).dropWhile isWd) else wrg) := by
        rw [lexT_cons]
        rw [if_pos hsm]
      refine xP_s rfl rfl rfl ?_
      refine xP_s rfl rfl rfl ?_
      refine xP_call rfl rfl rfl (p_isSmallN hsm (by omega) ?_)
      refine xP_s rfl rfl rfl ?_
      refine xP_s rfl rfl rfl ?_
      refine xP_s rfl rfl rfl ?_
      refine xP_s rfl rfl rfl ?_
      refine xP_cv rfl rfl rfl rfl rfl h18 (p_behindRow (b := false) ht hs hd hp ?_)
      refine xP_cv rfl rfl rfl rfl rfl h18 (plain _ _ _ s1 s2 s3 rfl hwz e0 _ (fun A' y => ?_) (fun A' y => ?_))
      · repeat' first
          | refine xP_s rfl rfl rfl ?_
          | refine xP_ret rfl rfl rfl ?_
        exact y
      · repeat' first
          | refine xP_s rfl rfl rfl ?_
          | refine xP_ret rfl rfl rfl ?_
        exact y
