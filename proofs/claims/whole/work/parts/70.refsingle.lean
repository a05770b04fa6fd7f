-- the reference: single, quotes
section MX
variable {sc : xSc} {d g : Nat} {A B C : List xC} {v : Nat → Int32} {a : Nat → Nat → Int32} {o : Nat → Int64} {t : List Nat} {P : xO → xH → Prop}
theorem zK_1 {v' : Nat → Int32} {a' : Nat → Nat → Int32} {i : Nat} {w s : List Nat} (hi : i ≤ t.length) (h120 : t.length ≤ 120) (hs : s.length + i = t.length) (h20 : v' 20 = 4) (h22 : v' 22 = nI i) (hw : zH v' a' w) : zK t v' a' (1, 0, w, s) :=
  ⟨by simp, h20, ⟨i, by omega, h22, fun _ => by dsimp only; omega⟩, fun _ => hw, fun h => absurd h (by simp)⟩
set_option maxRecDepth 100000 in
theorem pn_no {c : Nat} (hc : c < 128) (h : c ≠ 40 ∧ c ≠ 41 ∧ c ≠ 91 ∧ c ≠ 93 ∧ c ≠ 123 ∧ c ≠ 125 ∧ c ≠ 44 ∧ c ≠ 124) : isPn c = false := by
  have : ∀ c, c < 128 → c ≠ 40 ∧ c ≠ 41 ∧ c ≠ 91 ∧ c ≠ 93 ∧ c ≠ 123 ∧ c ≠ 125 ∧ c ≠ 44 ∧ c ≠ 124 → isPn c = false := by decide
  exact this c hc h
set_option maxHeartbeats 4000000 in
set_option maxRecDepth 100000 in
theorem q_single {p c : Nat} {r : List Nat} (hB : B.length = 28) (ht : zT v a t) (hd : t.drop p = c :: r) (hp : p ≤ t.length) (hw : zH v a [])
    (h1 : isSm c = false) (h2 : ¬ (isLg c = true ∨ c = 95)) (h3 : isDg c = false) (h4 : isSg c = false) (h5 : ¬ c = 39) (h6 : ¬ c = 34)
    (k : ∀ v' a', zK t v' a' (lexT (c :: r)) → vS v v' [20, 22, 23, 25] → aS a a' [42] → P (.inl none) (mH B C v' a' o, g)) : xM1 sc (d + 1) 159 [.ref 28, .int (nI p), .int (nI c)] (mH B C v a o, g) P := by
  have h120 := ht.2.1
  have hl := drop_l2 hd hp
  rw [List.length_cons] at hl
  obtain ⟨hd1, hp1⟩ := drop_c hd
  have hlt : c < 128 := by
    have := ht.lt p
    rwa [oz_0 hd] at this
  have hlt1 : oz r 0 < 128 := by
    have := ht.lt (p + 1)
    rwa [oz_0 hd1] at this
  have hC := toI c (by omega)
  have hC1 := toI (oz r 0) (by omega)
  rw [lexT_cons, if_neg (by simp [h1]), if_neg h2, if_neg (by simp [h3]), if_neg (by simp [h4]), if_neg h5, if_neg h6] at k
  have c33 : (33 : Int32).toInt = 33 := rfl
  have c59 : (59 : Int32).toInt = 59 := rfl
  have c40 : (40 : Int32).toInt = 40 := rfl
  have c41 : (41 : Int32).toInt = 41 := rfl
  have c91 : (91 : Int32).toInt = 91 := rfl
  have c93 : (93 : Int32).toInt = 93 := rfl
  have c123 : (123 : Int32).toInt = 123 := rfl
  have c125 : (125 : Int32).toInt = 125 := rfl
  have c44 : (44 : Int32).toInt = 44 := rfl
  have c124 : (124 : Int32).toInt = 124 := rfl
  have hvs : ∀ x, vS v (upd v 20 x) [20, 22, 23, 25] := fun x => (vS.u v 20 x).wide (by decide)
  -- two characters
  have two : ((c = 91 ∧ r.head? = some 93) ∨ (c = 123 ∧ r.head? = some 125)) → xP sc (d + 1) 159 32 [(0, .ref 28), (1, .int (nI p)), (2, .int (nI c)), (3, .int (nI (oz r 0)))] [] (mH B C v a o, g) P := by
    intro hh
    rw [if_neg (by omega), if_pos hh] at k
    obtain ⟨b, r2, hr⟩ : ∃ b r2, r = b :: r2 := by
      cases r with
      | nil => rcases hh with y | y <;> cases y.2
      | cons b r2 => exact ⟨b, r2, rfl⟩
    subst hr
    rw [List.length_cons] at hl
    refine xP_s rfl rfl rfl ?_
    refine xP_s rfl rfl rfl ?_
    refine xP_s rfl rfl rfl ?_
    refine xP_s rfl rfl rfl ?_
    refine xP_s rfl rfl rfl ?_
    refine xP_s rfl rfl rfl ?_
    refine xP_s rfl rfl rfl ?_
    refine xP_zp rfl hB rfl rfl ?_
    refine xP_s rfl rfl rfl ?_
    refine xP_s rfl rfl rfl ?_
    refine xP_cv rfl rfl rfl rfl rfl (mH_28 hB) (q_keep hB (hw.same (vS.u _ _ _) (aS.refl _ []) (by decide) (by decide)) (by decide) hlt (fun v1 a1 z1 z2 z3 => ?_))
    refine xP_s rfl rfl rfl ?_
    refine xP_s rfl rfl rfl ?_
    refine xP_s rfl rfl rfl ?_
    refine xP_s rfl rfl rfl ?_
    refine xP_cv rfl rfl rfl rfl rfl (mH_28 hB) (q_keep hB z1 (by simp) hlt1 (fun v2 a2 y1 y2 y3 => ?_))
    refine xP_s rfl rfl rfl ?_
    refine xP_s rfl rfl rfl ?_
    refine xP_s rfl rfl rfl ?_
    refine xP_s rfl rfl rfl ?_
    refine xP_s rfl rfl rfl ?_
    refine xP_s rfl rfl rfl ?_
    refine xP_s rfl rfl rfl ?_
    rw [nI_p2]
    refine xP_zp rfl hB rfl rfl ?_
    repeat' first
      | refine xP_s rfl rfl rfl ?_
      | refine xP_ret rfl rfl rfl ?_
    have f1 : vS v v2 [20, 22, 23, 25] := (hvs 4).trans ((z2.trans y2).wide (by decide))
    have e20 : v2 20 = 4 := by rw [y2 20 (by decide), z2 20 (by decide), upd_s]
    exact k _ _ (zK_1 (i := p + 2) (by omega) h120 (by rw [List.tail_cons]; omega) (by rw [upd_n (by decide)]; exact e20) upd_s (y1.same (vS.u _ _ _) (aS.refl _ []) (by decide) (by decide))) (f1.up (by decide)) (z3.trans y3)
  have one : (c = 33 ∨ c = 59) → xP sc (d + 1) 159 56 [(0, .ref 28), (1, .int (nI p)), (2, .int (nI c)), (3, .int (nI (oz r 0))), (4, .int 0)] [] (mH B C v a o, g) P := by
    intro hh
    rw [if_pos hh] at k
    refine xP_s rfl rfl rfl ?_
    refine xP_s rfl rfl rfl ?_
    refine xP_zp rfl hB rfl rfl ?_
    refine xP_s rfl rfl rfl ?_
    refine xP_s rfl rfl rfl ?_
    refine xP_cv rfl rfl rfl rfl rfl (mH_28 hB) (q_keep hB (hw.same (vS.u _ _ _) (aS.refl _ []) (by decide) (by decide)) (by decide) hlt (fun v1 a1 z1 z2 z3 => ?_))
    refine xP_s rfl rfl rfl ?_
    refine xP_s rfl rfl rfl ?_
    refine xP_s rfl rfl rfl ?_
    refine xP_s rfl rfl rfl ?_
    refine xP_s rfl rfl rfl ?_
    refine xP_s rfl rfl rfl ?_
    refine xP_s rfl rfl rfl ?_
    refine xP_s rfl rfl rfl ?_
    rw [nI_p1]
    refine xP_zp rfl hB rfl rfl ?_
    repeat' first
      | refine xP_s rfl rfl rfl ?_
      | refine xP_ret rfl rfl rfl ?_
    have f1 : vS v v1 [20, 22, 23, 25] := (hvs 4).trans (z2.wide (by decide))
    have e20 : v1 20 = 4 := by rw [z2 20 (by decide), upd_s]
    exact k _ _ (zK_1 (i := p + 1) (by omega) h120 (by omega) (by rw [upd_n (by decide)]; exact e20) upd_s (z1.same (vS.u _ _ _) (aS.refl _ []) (by decide) (by decide))) (f1.up (by decide)) z3
  have oth : ¬ ((c = 91 ∧ r.head? = some 93) ∨ (c = 123 ∧ r.head? = some 125)) → xP sc (d + 1) 159 36 [(0, .ref 28), (1, .int (nI p)), (2, .int (nI c)), (3, .int (nI (oz r 0)))] [] (mH B C v a o, g) P := by
    intro hh
    have pun : ¬ (c = 33 ∨ c = 59) → isPn c = true → xP sc (d + 1) 159 141 [(0, .ref 28), (1, .int (nI p)), (2, .int (nI c)), (3, .int (nI (oz r 0))), (4, .int 0)] [] (mH B C v a o, g) P := by
      intro hn hb
      rw [if_neg hn, if_neg hh, if_pos hb] at k
      refine xP_s rfl rfl rfl ?_
      refine xP_s rfl rfl rfl ?_
      refine xP_s rfl rfl rfl ?_
      refine xP_s rfl rfl rfl ?_
      refine xP_s rfl rfl rfl ?_
      refine xP_s rfl rfl rfl ?_
      refine xP_s rfl rfl rfl ?_
      refine xP_s rfl rfl rfl ?_
      refine xP_zp rfl hB rfl rfl ?_
      refine xP_s rfl rfl rfl ?_
      refine xP_s rfl rfl rfl ?_
      refine xP_zp rfl hB rfl rfl ?_
      refine xP_s rfl rfl rfl ?_
      refine xP_s rfl rfl rfl ?_
      refine xP_s rfl rfl rfl ?_
      refine xP_s rfl rfl rfl ?_
      rw [nI_p1]
      refine xP_zp rfl hB rfl rfl ?_
      repeat' first
        | refine xP_s rfl rfl rfl ?_
        | refine xP_ret rfl rfl rfl ?_
      refine k _ _ ⟨by simp, by rw [upd_n (by decide), upd_n (by decide), upd_s]; rfl, ⟨p + 1, by omega, upd_s, fun _ => by dsimp only; omega⟩, fun h => absurd h (by simp), fun _ => by rw [upd_n (by decide), upd_s]⟩ (((hvs _).up (by decide)).up (by decide)) (aS.refl _ _)
    have non : ¬ (c = 33 ∨ c = 59) → isPn c = false → xP sc (d + 1) 159 145 [(0, .ref 28), (1, .int (nI p)), (2, .int (nI c)), (3, .int (nI (oz r 0))), (4, .int 0)] [] (mH B C v a o, g) P := by
      intro hn hb
      rw [if_neg hn, if_neg hh, if_neg (by simp [hb])] at k
      refine xP_s rfl rfl rfl ?_
      refine xP_s rfl rfl rfl ?_
      refine xP_s rfl rfl rfl ?_
      refine xP_s rfl rfl rfl ?_
      refine xP_s rfl rfl rfl ?_
      refine xP_s rfl rfl rfl ?_
      refine xP_zp rfl hB rfl rfl ?_
      refine xP_s rfl rfl rfl ?_
      refine xP_s rfl rfl rfl ?_
      refine xP_zp rfl hB rfl rfl ?_
      refine xP_s rfl rfl rfl ?_
      refine xP_s rfl rfl rfl ?_
      refine xP_s rfl rfl rfl ?_
      refine xP_s rfl rfl rfl ?_
      rw [nI_p1]
      refine xP_zp rfl hB rfl rfl ?_
      repeat' first
        | refine xP_s rfl rfl rfl ?_
        | refine xP_ret rfl rfl rfl ?_
      exact k _ _ (zK_7 (i := p + 1) (by omega) (by rw [upd_n (by decide), upd_n (by decide), upd_s]) upd_s) (((hvs _).up (by decide)).up (by decide)) (aS.refl _ _)
    clear two hh k hw
    refine xP_s rfl rfl rfl ?_
    refine xP_s rfl rfl rfl ?_
    refine xP_s rfl rfl rfl ?_
    refine xP_s rfl rfl rfl ?_
    refine xP_s rfl rfl rfl ?_
    refine xP_s rfl rfl rfl ?_
    refine xP_s rfl rfl rfl ?_
    refine xP_if (fun b1 => ?_) (fun b1 => ?_)
    · have z := xc_t b1
      dsimp only at z
      exact one (Or.inl (by omega))
    · have z1 := xc_f b1
      dsimp only at z1
      refine xP_s rfl rfl rfl ?_
      refine xP_s rfl rfl rfl ?_
      refine xP_s rfl rfl rfl ?_
      refine xP_if (fun b2 => ?_) (fun b2 => ?_)
      · have z2 := xc_t b2
        dsimp only at z2
        have hn : ¬ (c = 33 ∨ c = 59) := fun q => by omega
        refine xP_s rfl rfl rfl ?_
        refine xP_s rfl rfl rfl ?_
        refine xP_s rfl rfl rfl ?_
        refine xP_if (fun b3 => ?_) (fun b3 => ?_)
        · have z3 := xc_t b3
          dsimp only at z3
          exact pun hn (by rw [show c = 40 by omega]; decide)
        have z3 := xc_f b3
        dsimp only at z3
        refine xP_s rfl rfl rfl ?_
        refine xP_s rfl rfl rfl ?_
        refine xP_s rfl rfl rfl ?_
        refine xP_if (fun b4 => ?_) (fun b4 => ?_)
        · have z4 := xc_t b4
          dsimp only at z4
          exact pun hn (by rw [show c = 41 by omega]; decide)
        have z4 := xc_f b4
        dsimp only at z4
        refine xP_s rfl rfl rfl ?_
        refine xP_s rfl rfl rfl ?_
        refine xP_s rfl rfl rfl ?_
        refine xP_if (fun b5 => ?_) (fun b5 => ?_)
        · have z5 := xc_t b5
          dsimp only at z5
          exact pun hn (by rw [show c = 91 by omega]; decide)
        have z5 := xc_f b5
        dsimp only at z5
        refine xP_s rfl rfl rfl ?_
        refine xP_s rfl rfl rfl ?_
        refine xP_s rfl rfl rfl ?_
        refine xP_if (fun b6 => ?_) (fun b6 => ?_)
        · have z6 := xc_t b6
          dsimp only at z6
          exact pun hn (by rw [show c = 93 by omega]; decide)
        have z6 := xc_f b6
        dsimp only at z6
        refine xP_s rfl rfl rfl ?_
        refine xP_s rfl rfl rfl ?_
        refine xP_s rfl rfl rfl ?_
        refine xP_if (fun b7 => ?_) (fun b7 => ?_)
        · have z7 := xc_t b7
          dsimp only at z7
          exact pun hn (by rw [show c = 123 by omega]; decide)
        have z7 := xc_f b7
        dsimp only at z7
        refine xP_s rfl rfl rfl ?_
        refine xP_s rfl rfl rfl ?_
        refine xP_s rfl rfl rfl ?_
        refine xP_if (fun b8 => ?_) (fun b8 => ?_)
        · have z8 := xc_t b8
          dsimp only at z8
          exact pun hn (by rw [show c = 125 by omega]; decide)
        have z8 := xc_f b8
        dsimp only at z8
        refine xP_s rfl rfl rfl ?_
        refine xP_s rfl rfl rfl ?_
        refine xP_s rfl rfl rfl ?_
        refine xP_if (fun b9 => ?_) (fun b9 => ?_)
        · have z9 := xc_t b9
          dsimp only at z9
          exact pun hn (by rw [show c = 44 by omega]; decide)
        have z9 := xc_f b9
        dsimp only at z9
        refine xP_s rfl rfl rfl ?_
        refine xP_s rfl rfl rfl ?_
        refine xP_s rfl rfl rfl ?_
        refine xP_if (fun b10 => ?_) (fun b10 => ?_)
        · have z10 := xc_t b10
          dsimp only at z10
          exact non hn (pn_no hlt ⟨by omega, by omega, by omega, by omega, by omega, by omega, by omega, by omega⟩)
        · have z10 := xc_f b10
          dsimp only at z10
          exact pun hn (by rw [show c = 124 by omega]; decide)
      · have z2 := xc_f b2
        dsimp only at z2
        exact one (Or.inr (by omega))
  unfold xM1
  refine xP_s rfl rfl rfl ?_
  refine xP_s rfl rfl rfl ?_
  refine xP_s rfl rfl rfl ?_
  refine xP_s rfl rfl rfl ?_
  rw [nI_p1]
  refine xP_cv rfl rfl rfl rfl rfl (mH_28 hB) (q_charAt hB ht (by omega) (oz_0 hd1) ?_)
  have at20 : ¬ (c = 91 ∧ r.head? = some 93) → xP sc (d + 1) 159 20 [(0, .ref 28), (1, .int (nI p)), (2, .int (nI c)), (3, .int (nI (oz r 0)))] [] (mH B C v a o, g) P := by
    intro hh
    refine xP_s rfl rfl rfl ?_
    refine xP_s rfl rfl rfl ?_
    refine xP_s rfl rfl rfl ?_
    refine xP_if (fun b1 => ?_) (fun b1 => ?_)
    · have z := xc_t b1
      dsimp only at z
      refine oth (fun q => ?_)
      rcases q with y | y
      · exact hh y
      · omega
    · have z := xc_f b1
      dsimp only at z
      refine xP_s rfl rfl rfl ?_
      refine xP_s rfl rfl rfl ?_
      refine xP_s rfl rfl rfl ?_
      refine xP_if (fun b2 => ?_) (fun b2 => ?_)
      · have z2 := xc_t b2
        dsimp only at z2
        refine oth (fun q => ?_)
        rcases q with y | y
        · exact hh y
        · refine z2 ?_
          rw [(hd_oz (by decide)).mp y.2]
          rfl
      · have z2 := xc_f b2
        dsimp only at z2
        exact two (Or.inr ⟨by omega, (hd_oz (by decide)).mpr (by omega)⟩)
  refine xP_s rfl rfl rfl ?_
  refine xP_s rfl rfl rfl ?_
  refine xP_s rfl rfl rfl ?_
  refine xP_s rfl rfl rfl ?_
  refine xP_if (fun b1 => ?_) (fun b1 => ?_)
  · have z := xc_t b1
    dsimp only at z
    exact at20 (fun q => by omega)
  · have z := xc_f b1
    dsimp only at z
    refine xP_s rfl rfl rfl ?_
    refine xP_s rfl rfl rfl ?_
    refine xP_s rfl rfl rfl ?_
    refine xP_if (fun b2 => ?_) (fun b2 => ?_)
    · have z2 := xc_t b2
      dsimp only at z2
      exact two (Or.inl ⟨by omega, (hd_oz (by decide)).mpr (by omega)⟩)
    · have z2 := xc_f b2
      dsimp only at z2
      refine at20 (fun q => z2 ?_)
      rw [(hd_oz (by decide)).mp q.2]
      rfl
-- quotes
set_option maxRecDepth 100000 in
theorem q_qEnd {x1 x2 y3 : Int32} {ex : xL} (hb : ndB (([(0, Value.ref 28), (1, .int x1), (2, .int x2), (3, .int y3), (4, .int 1)] ++ ex).map Prod.fst) = true)
    (k : xP sc d 162 220 [(0, .ref 28), (1, .int x1), (2, .int x2), (3, .int y3), (4, .int 1)] [] (A, g) P) : xP sc d 162 217 ([(0, .ref 28), (1, .int x1), (2, .int x2), (3, .int y3), (4, .int 1)] ++ ex) [] (A, g) P := by
  refine xP_more ex hb ?_
  refine xP_s rfl rfl rfl ?_
  refine xP_s rfl rfl rfl ?_
  refine xP_s rfl rfl rfl ?_
  exact k
set_option maxRecDepth 100000 in
theorem q_qWrong {x1 x2 y3 : Int32} {ex : xL} (hb : ndB (([(0, Value.ref 28), (1, .int x1), (2, .int x2), (3, .int y3), (4, .int 0)] ++ ex).map Prod.fst) = true) (hB : B.length = 28) (h20 : v 20 = 7)
    (k : xP sc d 162 220 [(0, .ref 28), (1, .int x1), (2, .int x2), (3, .int y3), (4, .int 0)] [] (mH B C v a o, g) P) : xP sc d 162 217 ([(0, .ref 28), (1, .int x1), (2, .int x2), (3, .int y3), (4, .int 0)] ++ ex) [] (mH B C v a o, g) P := by
  refine xP_more ex hb ?_
  refine xP_s rfl rfl rfl ?_
  refine xP_s rfl rfl rfl ?_
  refine xP_s rfl rfl rfl ?_
  refine xP_s rfl rfl rfl ?_
  refine xP_zg rfl hB rfl h20 ?_
  refine xP_s rfl rfl rfl ?_
  refine xP_s rfl rfl rfl ?_
  exact k
set_option maxRecDepth 100000 in
theorem q_qGo {x1 x2 y3 : Int32} {ex : xL} (hb : ndB (([(0, Value.ref 28), (1, .int x1), (2, .int x2), (3, .int y3), (4, .int 0)] ++ ex).map Prod.fst) = true)
    (k : xP sc d 162 27 [(0, .ref 28), (1, .int x1), (2, .int x2), (3, .int y3), (4, .int 0)] [] (A, g) P) : xP sc d 162 217 ([(0, .ref 28), (1, .int x1), (2, .int x2), (3, .int y3), (4, .int 0)] ++ ex) [] (A, g) P := by
  refine xP_more ex hb ?_
  refine xP_s rfl rfl rfl ?_
  exact k
def esV (e : Nat) : Nat := if e = 110 then 10 else if e = 116 then 9 else e
theorem esV_lt {e : Nat} (h : e < 128) : esV e < 128 := by
  unfold esV
  split
  · decide
  · split
    · decide
    · exact h
theorem esc_V {e x : Nat} (h : esc e = some x) : esV e = x := by
  unfold esc at h
  unfold esV
  split at h
  next q => rw [if_pos q]; cases h; rfl
  next q =>
    rw [if_neg q]
    split at h
    next q2 => rw [if_pos q2]; cases h; rfl
    next q2 =>
      rw [if_neg q2]
      split at h
      next => cases h; rfl
      next => cases h
-- behind a backslash: the character kept
set_option maxRecDepth 100000 in
theorem q_qKeep {x1 x2 y3 x5 x7 : Int32} {e : Nat} {w : List Nat} (hB : B.length = 28) (hw : zH v a w) (hl : w.length < 130) (he : e < 128)
    (k : ∀ v' a', zH v' a' (w ++ [esV e]) → vS v v' [25] → aS a a' [42] → xP sc (d + 1) 162 180 [(0, .ref 28), (1, .int x1), (2, .int x2), (3, .int y3), (4, .int 0), (5, .int x5), (6, .int (nI e)), (7, .int x7)] [] (mH B C v' a' o, g) P) :
    xP sc (d + 1) 162 150 [(0, .ref 28), (1, .int x1), (2, .int x2), (3, .int y3), (4, .int 0), (5, .int x5), (6, .int (nI e)), (7, .int x7)] [] (mH B C v a o, g) P := by
  have hE := toI e (by omega)
  have h110 : (110 : Int32).toInt = 110 := rfl
  have h116 : (116 : Int32).toInt = 116 := rfl
  have keep : xP sc (d + 1) 162 177 [(0, .ref 28), (1, .int x1), (2, .int x2), (3, .int y3), (4, .int 0), (5, .int x5), (6, .int (nI e)), (7, .int x7)] [.int (nI (esV e)), .ref 28] (mH B C v a o, g) P :=
    xP_cv rfl rfl rfl rfl rfl (mH_28 hB) (q_keep hB hw hl (esV_lt he) (fun v1 a1 z1 z2 z3 => k v1 a1 z1 z2 z3))
  refine xP_s rfl rfl rfl ?_
  refine xP_s rfl rfl rfl ?_
  refine xP_s rfl rfl rfl ?_
  refine xP_s rfl rfl rfl ?_
  refine xP_if (fun b1 => ?_) (fun b1 => ?_)
  · have z := xc_t b1
    dsimp only at z
    refine xP_s rfl rfl rfl ?_
    refine xP_s rfl rfl rfl ?_
    refine xP_s rfl rfl rfl ?_
    refine xP_if (fun b2 => ?_) (fun b2 => ?_)
    · have z2 := xc_t b2
      dsimp only at z2
      have q : esV e = e := by
        unfold esV
        rw [if_neg (by omega), if_neg (by omega)]
      rw [q] at keep
      refine xP_s rfl rfl rfl ?_
      exact keep
    · have z2 := xc_f b2
      dsimp only at z2
      have q : e = 116 := by omega
      subst q
      refine xP_s rfl rfl rfl ?_
      refine xP_s rfl rfl rfl ?_
      exact keep
  · have z2 := xc_f b1
    dsimp only at z2
    have q : e = 110 := by omega
    subst q
    refine xP_s rfl rfl rfl ?_
    refine xP_s rfl rfl rfl ?_
    exact keep
end MX
