-- the reference: scan
def q39 (s : List Nat) : Bool := match s with
  | c :: _ => decide (c = 39)
  | [] => false
theorem sTk_1 (r : List Nat) : ¬ (sTk r).1 = 1 := by
  unfold sTk
  cases strq r with
  | none => decide
  | some q =>
    dsimp only
    split
    · simp
    · decide
theorem nT_1 (c : Nat) (r : List Nat) : ¬ (nT c r).1 = 1 := by
  unfold nT
  cases lexN c r with
  | none => decide
  | some q => simp
theorem sm_no : ∀ c, c < 128 → isSm c = true → ¬ c = 39 := by decide
section MZ
variable {sc : xSc} {d g : Nat} {A B C : List xC} {v : Nat → Int32} {a : Nat → Nat → Int32} {o : Nat → Int64} {t : List Nat} {P : xO → xH → Prop}
theorem zK_2 {v' : Nat → Int32} {a' : Nat → Nat → Int32} {i : Nat} {w s : List Nat} (hi : i ≤ t.length) (h120 : t.length ≤ 120) (hs : s.length + i = t.length) (h20 : v' 20 = 2) (h22 : v' 22 = nI i) (hw : zH v' a' w) : zK t v' a' (2, 0, w, s) :=
  ⟨by simp, h20, ⟨i, by omega, h22, fun _ => by dsimp only; omega⟩, fun _ => hw, fun h => absurd h (by simp)⟩
set_option maxHeartbeats 4000000 in
set_option maxRecDepth 100000 in
theorem q_scanAt {x1 : Int32} {q : Nat} {s : List Nat} (hB : B.length = 28) (ht : zT v a t) (hd : t.drop q = s) (hp : q ≤ t.length) (hw : zH v a []) (h24 : v 24 = 0)
    (k : ∀ v' a', zK t v' a' (lexT s) → ((lexT s).1 = 1 → v' 24 = xb (q39 s)) → vS v v' [20, 22, 23, 24, 25] → aS a a' [42] → P (.inl none) (mH B C v' a' o, g)) :
    xP sc (d + 3) 157 32 [(0, .ref 28), (1, .int x1), (2, .int (nI q)), (3, .int (nI (oz s 0)))] [] (mH B C v a o, g) P := by
  have h120 := ht.2.1
  have hl := drop_l2 hd hp
  have hQ := toI q (by omega)
  have hL := toI t.length (by omega)
  have c24 : (24 : Int32).toInt = 24 := rfl
  have c39 : (39 : Int32).toInt = 39 := rfl
  have c34 : (34 : Int32).toInt = 34 := rfl
  refine xP_s rfl rfl rfl ?_
  refine xP_s rfl rfl rfl ?_
  refine xP_zg rfl hB rfl ht.1 ?_
  refine xP_s rfl rfl rfl ?_
  refine xP_if (fun b1 => ?_) (fun b1 => ?_)
  · refine xP_s rfl rfl rfl ?_
    refine xP_s rfl rfl rfl ?_
    refine xP_zg rfl hB rfl ht.1 ?_
    refine xP_s rfl rfl rfl ?_
    refine xP_if (fun b2 => ?_) (fun b2 => ?_)
    · have z := xc_t b2
      dsimp only at z
      cases s with
      | nil =>
        rw [List.length_nil] at hl
        omega
      | cons c r =>
        rw [List.length_cons] at hl
        have hlt : c < 128 := by
          have := ht.lt q
          rwa [oz_0 hd] at this
        have hC := toI c (by omega)
        rw [oz_c]
        -- a word
        have word : ∀ y : Bool, isSm c = y → (isSm c || isGr c) = true → xP sc (d + 3) 157 90 [(0, .ref 28), (1, .int x1), (2, .int (nI q)), (3, .int (nI c))] [] (mH B C v a o, g) P := by
          intro y hy hg
          have fin : ∀ w : Nat → Int32, vS v w [20] → w 20 = nI (tkN (if y = true then 1 else 2)) → xP sc (d + 3) 157 106 [(0, .ref 28), (1, .int x1), (2, .int (nI q)), (3, .int (nI c))] [] (mH B C w a o, g) P := by
            intro w hvw hw20
            have htw : zT w a t := ht.same hvw (aS.refl _ []) (by decide) (by decide)
            have hww : zH w a [] := hw.same hvw (aS.refl _ []) (by decide) (by decide)
            refine xP_s rfl rfl rfl ?_
            refine xP_s rfl rfl rfl ?_
            refine xP_s rfl rfl rfl ?_
            refine xP_cv rfl rfl rfl rfl rfl (mH_28 hB) (q_word hB htw hd hp hww (by rw [List.length_nil, List.length_cons]; omega) (fun v1 a1 z1 z2 z3 => ?_))
            rw [List.nil_append] at z1
            have hwl := wh_len (f := isWd) (c :: r)
            rw [List.length_cons] at hwl
            have hWl := toI ((c :: r).takeWhile isWd).length (by omega)
            have f1 : vS v v1 [20, 22, 23, 24, 25] := (hvw.wide (by decide)).trans (z2.wide (by decide))
            have e20 : v1 20 = nI (tkN (if y = true then 1 else 2)) := by rw [z2 20 (by decide)]; exact hw20
            have e24 : v1 24 = 0 := by rw [z2 24 (by decide), hvw 24 (by decide)]; exact h24
            refine xP_zp rfl hB rfl rfl ?_
            refine xP_s rfl rfl rfl ?_
            refine xP_zg rfl hB rfl ((upd_n (by decide)).trans z1.1) ?_
            refine xP_s rfl rfl rfl ?_
            refine xP_s rfl rfl rfl ?_
            have eL : lexT (c :: r) = (if ((c :: r).takeWhile isWd).length ≤ 24 then ((if y = true then 1 else 2), 0, (c :: r).takeWhile isWd, (c :: r).dropWhile isWd) else wrg) := by
              rw [lexT_cons]
              cases y with
              | true => rw [if_pos hy]; rfl
              | false =>
                rw [if_neg (by simp [hy]), if_pos (by
                  rw [hy] at hg
                  simpa [isGr] using hg)]
                rfl
            rw [eL] at k
            refine xP_if (fun b3 => ?_) (fun b3 => ?_)
            · have z4 := xc_t b3
              dsimp only at z4
              rw [if_pos (by omega)] at k
              repeat' first
                | refine xP_s rfl rfl rfl ?_
                | refine xP_ret rfl rfl rfl ?_
              cases y with
              | true =>
                refine k _ _ (zK_1 (i := q + ((c :: r).takeWhile isWd).length) (by omega) h120 (by omega) ((upd_n (by decide)).trans e20) upd_s (z1.same (vS.u _ _ _) (aS.refl _ []) (by decide) (by decide))) (fun _ => ?_) (f1.up (by decide)) z3
                rw [upd_n (by decide), e24]
                have : ¬ c = 39 := sm_no c hlt hy
                simp [q39, this, xb]
              | false =>
                exact k _ _ (zK_2 (i := q + ((c :: r).takeWhile isWd).length) (by omega) h120 (by omega) ((upd_n (by decide)).trans e20) upd_s (z1.same (vS.u _ _ _) (aS.refl _ []) (by decide) (by decide))) (fun h => absurd h (by simp)) (f1.up (by decide)) z3
            · have z4 := xc_f b3
              dsimp only at z4
              rw [if_neg (by omega)] at k
              refine xP_s rfl rfl rfl ?_
              refine xP_s rfl rfl rfl ?_
              refine xP_zp rfl hB rfl rfl ?_
              repeat' first
                | refine xP_s rfl rfl rfl ?_
                | refine xP_ret rfl rfl rfl ?_
              exact k _ _ (zK_7 (i := q + ((c :: r).takeWhile isWd).length) (by omega) upd_s ((upd_n (by decide)).trans upd_s)) (fun h => absurd h (by decide)) ((f1.up (by decide)).up (by decide)) z3
          refine xP_s rfl rfl rfl ?_
          refine xP_s rfl rfl rfl ?_
          refine xP_call rfl rfl rfl (q_isSmall hlt ?_)
          rw [hy]
          refine xP_s rfl rfl rfl ?_
          rw [xb_eq0]
          refine xP_if (fun b3 => ?_) (fun b3 => ?_)
          · cases y with
            | true => exact absurd b3 (by decide)
            | false =>
              refine xP_s rfl rfl rfl ?_
              refine xP_zp rfl hB rfl rfl ?_
              exact fin _ (vS.u _ _ _) upd_s
          · cases y with
            | false => exact absurd b3 (by decide)
            | true =>
              refine xP_s rfl rfl rfl ?_
              refine xP_s rfl rfl rfl ?_
              refine xP_zp rfl hB rfl rfl ?_
              exact fin _ (vS.u _ _ _) upd_s
        refine xP_s rfl rfl rfl ?_
        refine xP_call rfl rfl rfl (q_isSmall hlt ?_)
        refine xP_s rfl rfl rfl ?_
        rw [xb_ne0]
        refine xP_if (fun b3 => ?_) (fun b3 => ?_)
        · exact word true b3 (by rw [b3]; rfl)
        refine xP_s rfl rfl rfl ?_
        refine xP_call rfl rfl rfl (q_isGreat hlt ?_)
        refine xP_s rfl rfl rfl ?_
        rw [xb_eq0]
        refine xP_if (fun b4 => ?_) (fun b4 => ?_)
        · have hgr : isGr c = false := by simpa using b4
          have hg2 : ¬ (isLg c = true ∨ c = 95) := by
            intro h
            have : isGr c = true := by simpa [isGr] using h
            rw [hgr] at this
            cases this
          refine xP_s rfl rfl rfl ?_
          refine xP_call rfl rfl rfl (q_isDigit hlt ?_)
          refine xP_s rfl rfl rfl ?_
          rw [xb_eq0]
          refine xP_if (fun b5 => ?_) (fun b5 => ?_)
          · have hdg : isDg c = false := by simpa using b5
            refine xP_s rfl rfl rfl ?_
            refine xP_call rfl rfl rfl (q_isSign hlt ?_)
            refine xP_s rfl rfl rfl ?_
            rw [xb_eq0]
            refine xP_if (fun b6 => ?_) (fun b6 => ?_)
            · have hsg : isSg c = false := by simpa using b6
              have single : ¬ c = 39 → ¬ c = 34 → xP sc (d + 3) 157 184 [(0, .ref 28), (1, .int x1), (2, .int (nI q)), (3, .int (nI c))] [] (mH B C v a o, g) P := by
                intro h39 h34
                refine xP_s rfl rfl rfl ?_
                refine xP_s rfl rfl rfl ?_
                refine xP_s rfl rfl rfl ?_
                refine xP_cv rfl rfl rfl rfl rfl (mH_28 hB) (q_single (r := r) hB ht hd hp hw b3 hg2 hdg hsg h39 h34 (fun v' a' z1 z2 z3 => ?_))
                repeat' first
                  | refine xP_s rfl rfl rfl ?_
                  | refine xP_ret rfl rfl rfl ?_
                refine k v' a' z1 (fun _ => ?_) (z2.wide (by decide)) z3
                rw [z2 24 (by decide), h24]
                simp [q39, h39, xb]
              refine xP_s rfl rfl rfl ?_
              refine xP_s rfl rfl rfl ?_
              refine xP_s rfl rfl rfl ?_
              refine xP_if (fun b7 => ?_) (fun b7 => ?_)
              · have z7 := xc_t b7
                dsimp only at z7
                have ec : c = 39 := by omega
                subst ec
                have eL : lexT (39 :: r) = qTk r := by
                  rw [lexT_cons, if_neg (by decide), if_neg (by decide), if_neg (by decide), if_neg (by decide), if_pos rfl]
                  rfl
                rw [eL] at k
                refine xP_s rfl rfl rfl ?_
                refine xP_s rfl rfl rfl ?_
                refine xP_s rfl rfl rfl ?_
                refine xP_cv rfl rfl rfl rfl rfl (mH_28 hB) (q_quotes39 hB ht hd hp hw (fun v' a' z1 z2 z3 z4 => ?_))
                repeat' first
                  | refine xP_s rfl rfl rfl ?_
                  | refine xP_ret rfl rfl rfl ?_
                exact k v' a' z1 (fun _ => z2) (z3.wide (by decide)) z4
              · have z7 := xc_f b7
                dsimp only at z7
                refine xP_s rfl rfl rfl ?_
                refine xP_s rfl rfl rfl ?_
                refine xP_s rfl rfl rfl ?_
                refine xP_if (fun b8 => ?_) (fun b8 => ?_)
                · have z8 := xc_t b8
                  dsimp only at z8
                  exact single (by omega) (by omega)
                · have z8 := xc_f b8
                  dsimp only at z8
                  have ec : c = 34 := by omega
                  subst ec
                  have eL : lexT (34 :: r) = sTk r := by
                    rw [lexT_cons, if_neg (by decide), if_neg (by decide), if_neg (by decide), if_neg (by decide), if_neg (by decide), if_pos rfl]
                    rfl
                  rw [eL] at k
                  refine xP_s rfl rfl rfl ?_
                  refine xP_s rfl rfl rfl ?_
                  refine xP_s rfl rfl rfl ?_
                  refine xP_cv rfl rfl rfl rfl rfl (mH_28 hB) (q_quotes34 hB ht hd hp hw (fun v' a' z1 z2 z3 z4 => ?_))
                  repeat' first
                    | refine xP_s rfl rfl rfl ?_
                    | refine xP_ret rfl rfl rfl ?_
                  exact k v' a' z1 (fun h => absurd h (sTk_1 r)) (z3.wide (by decide)) z4
            · have hsg : isSg c = true := by simpa using b6
              refine xP_s rfl rfl rfl ?_
              refine xP_s rfl rfl rfl ?_
              refine xP_cv rfl rfl rfl rfl rfl (mH_28 hB) (q_signs (r := r) hB ht hd hp hsg hw (fun v' a' z1 z2 z3 => ?_))
              repeat' first
                | refine xP_s rfl rfl rfl ?_
                | refine xP_ret rfl rfl rfl ?_
              refine k v' a' z1 (fun _ => ?_) (z2.wide (by decide)) z3
              rw [z2 24 (by decide), h24]
              have : ¬ c = 39 := fun h => by rw [h] at hsg; exact absurd hsg (by decide)
              simp [q39, this, xb]
          · have hdg : isDg c = true := by simpa using b5
            have eL : lexT (c :: r) = nT c r := by
              rw [lexT_cons, if_neg (by simp [b3]), if_neg hg2, if_pos hdg]
              rfl
            rw [eL] at k
            refine xP_s rfl rfl rfl ?_
            refine xP_s rfl rfl rfl ?_
            refine xP_cv rfl rfl rfl rfl rfl (mH_28 hB) (q_number hB ht hd hp (fun v' z1 z2 => ?_))
            repeat' first
              | refine xP_s rfl rfl rfl ?_
              | refine xP_ret rfl rfl rfl ?_
            exact k v' a z1 (fun h => absurd h (nT_1 c r)) (z2.wide (by decide)) (aS.refl _ _)
        · exact word false b3 (by rw [b3]; simpa using b4)
    · have z := xc_f b2
      dsimp only at z
      have es : s = [] := List.length_eq_zero_iff.mp (by omega)
      subst es
      refine xP_s rfl rfl rfl ?_
      refine xP_s rfl rfl rfl ?_
      refine xP_zp rfl hB rfl rfl ?_
      refine xP_s rfl rfl rfl ?_
      refine xP_s rfl rfl rfl ?_
      refine xP_zp rfl hB rfl rfl ?_
      repeat' first
        | refine xP_s rfl rfl rfl ?_
        | refine xP_ret rfl rfl rfl ?_
      exact k _ _ ⟨by decide, (upd_n (by decide)).trans upd_s, ⟨q, by omega, upd_s, fun h => absurd h (by decide)⟩, fun h => absurd h (by decide), fun h => absurd h (by decide)⟩ (fun h => absurd h (by decide)) (((vS.u v 20 _).wide (by decide)).up (by decide)) (aS.refl _ _)
  · have z := xc_f b1
    dsimp only at z
    omega
set_option maxRecDepth 100000 in
theorem q_scanWrong {x1 x3 : Int32} {q : Nat} (hB : B.length = 28) (ht : zT v a t) (hq : t.length < q) (hq2 : q ≤ 1000)
    (k : ∀ v', zK t v' a wrg → vS v v' [20, 22] → P (.inl none) (mH B C v' a o, g)) :
    xP sc (d + 3) 157 32 [(0, .ref 28), (1, .int x1), (2, .int (nI q)), (3, .int x3)] [] (mH B C v a o, g) P := by
  have h120 := ht.2.1
  have hQ := toI q (by omega)
  have hL := toI t.length (by omega)
  refine xP_s rfl rfl rfl ?_
  refine xP_s rfl rfl rfl ?_
  refine xP_zg rfl hB rfl ht.1 ?_
  refine xP_s rfl rfl rfl ?_
  refine xP_if (fun b1 => ?_) (fun b1 => ?_)
  · have z := xc_t b1
    dsimp only at z
    omega
  · refine xP_s rfl rfl rfl ?_
    refine xP_s rfl rfl rfl ?_
    refine xP_zp rfl hB rfl rfl ?_
    refine xP_s rfl rfl rfl ?_
    refine xP_s rfl rfl rfl ?_
    refine xP_zp rfl hB rfl rfl ?_
    repeat' first
      | refine xP_s rfl rfl rfl ?_
      | refine xP_ret rfl rfl rfl ?_
    exact k _ (zK_7 (i := q) (by omega) ((upd_n (by decide)).trans upd_s) upd_s) (((vS.u v 20 _).wide (by decide)).up (by decide))
theorem z4v (v : Nat → Int32) (x : Int32) : vS v (upd (upd (upd (upd v 25 0) 24 0) 23 0) 21 x) [20, 21, 22, 23, 24, 25] := ((((vS.u v 25 0).wide (by decide)).up (by decide)).up (by decide)).up (by decide)
set_option maxHeartbeats 4000000 in
set_option maxRecDepth 100000 in
theorem q_scan {p : Nat} {s : List Nat} (hB : B.length = 28) (ht : zT v a t) (hd : t.drop p = s) (hp : p ≤ t.length)
    (k : ∀ v' a', zK t v' a' (nx s) → ((nx s).1 = 1 → v' 24 = xb (qd s)) → vS v v' [20, 21, 22, 23, 24, 25] → aS a a' [42] → P (.inl none) (mH B C v' a' o, g)) : xM1 sc (d + 3) 157 [.ref 28, .int (nI p)] (mH B C v a o, g) P := by
  have h120 := ht.2.1
  have hl := drop_l2 hd hp
  unfold xM1
  refine xP_s rfl rfl rfl ?_
  refine xP_s rfl rfl rfl ?_
  refine xP_cv rfl rfl rfl rfl rfl (mH_28 hB) (q_behindLayout hB ht hd hp ?_)
  refine xP_s rfl rfl rfl ?_
  refine xP_s rfl rfl rfl ?_
  refine xP_s rfl rfl rfl ?_
  refine xP_zp rfl hB rfl rfl ?_
  refine xP_s rfl rfl rfl ?_
  refine xP_s rfl rfl rfl ?_
  refine xP_zp rfl hB rfl rfl ?_
  refine xP_s rfl rfl rfl ?_
  refine xP_s rfl rfl rfl ?_
  refine xP_zp rfl hB rfl rfl ?_
  refine xP_s rfl rfl rfl ?_
  refine xP_s rfl rfl rfl ?_
  refine xP_zp rfl hB rfl rfl ?_
  have hv1 := z4v v (nI (lyR t s 121))
  have e25 : upd (upd (upd (upd v 25 0) 24 0) 23 0) 21 (nI (lyR t s 121)) 25 = nI 0 := by rw [upd_n (by decide), upd_n (by decide), upd_n (by decide), upd_s]; rfl
  have e24 : upd (upd (upd (upd v 25 0) 24 0) 23 0) 21 (nI (lyR t s 121)) 24 = 0 := by rw [upd_n (by decide), upd_n (by decide), upd_s]
  generalize upd (upd (upd (upd v 25 0) 24 0) 23 0) 21 (nI (lyR t s 121)) = w at *
  have htw : zT w a t := ht.same hv1 (aS.refl _ []) (by decide) (by decide)
  have hww : zH w a [] := ⟨e25, by decide, fun i c h => by cases h⟩
  cases hy : lay 121 s with
  | none =>
    have e1 : lyR t s 121 = 200 := by
      unfold lyR
      rw [hy]
    have e2 : nx s = wrg := by
      unfold nx
      rw [hy]
    rw [e2] at k
    rw [e1]
    refine xP_s rfl rfl rfl ?_
    refine xP_s rfl rfl rfl ?_
    refine xP_cv rfl rfl rfl rfl rfl (mH_28 hB) (q_charAt hB htw (by decide) rfl ?_)
    refine xP_s rfl rfl rfl ?_
    exact q_scanWrong hB htw (by omega) (by decide) (fun v' z1 z2 => k v' a z1 (fun h => absurd h (by decide)) (hv1.trans (z2.wide (by decide))) (aS.refl _ _))
  | some s' =>
    obtain ⟨w0, ew⟩ := lay_len hy
    have hls := congrArg List.length ew
    rw [List.length_append] at hls
    have e1 : lyR t s 121 = t.length - s'.length := by
      unfold lyR
      rw [hy]
    have e2 : nx s = lexT s' := by
      unfold nx
      rw [hy]
    have e3 : qd s = q39 s' := by
      unfold qd q39
      rw [hy]
      cases s' <;> rfl
    rw [e2, e3] at k
    have hd' : t.drop (t.length - s'.length) = s' := by
      rw [show t.length - s'.length = p + w0.length by omega, ← List.drop_drop, hd, ew]
      exact List.drop_left
    rw [e1]
    refine xP_s rfl rfl rfl ?_
    refine xP_s rfl rfl rfl ?_
    refine xP_cv rfl rfl rfl rfl rfl (mH_28 hB) (q_charAt hB htw (by omega) (oz_0 hd') ?_)
    refine xP_s rfl rfl rfl ?_
    exact q_scanAt hB htw hd' (by omega) hww e24 (fun v' a' z1 z2 z3 z4 => k v' a' z1 z2 (hv1.trans (z3.wide (by decide))) z4)
set_option maxRecDepth 100000 in
theorem q_scanF {p : Nat} (hB : B.length = 28) (ht : zT v a t) (hp : t.length < p) (hp2 : p ≤ 1000)
    (k : ∀ v', zK t v' a wrg → vS v v' [20, 21, 22, 23, 24, 25] → P (.inl none) (mH B C v' a o, g)) : xM1 sc (d + 3) 157 [.ref 28, .int (nI p)] (mH B C v a o, g) P := by
  have h120 := ht.2.1
  unfold xM1
  refine xP_s rfl rfl rfl ?_
  refine xP_s rfl rfl rfl ?_
  refine xP_cv rfl rfl rfl rfl rfl (mH_28 hB) (q_behindLayoutF hB ht hp (by omega) ?_)
  refine xP_s rfl rfl rfl ?_
  refine xP_s rfl rfl rfl ?_
  refine xP_s rfl rfl rfl ?_
  refine xP_zp rfl hB rfl rfl ?_
  refine xP_s rfl rfl rfl ?_
  refine xP_s rfl rfl rfl ?_
  refine xP_zp rfl hB rfl rfl ?_
  refine xP_s rfl rfl rfl ?_
  refine xP_s rfl rfl rfl ?_
  refine xP_zp rfl hB rfl rfl ?_
  refine xP_s rfl rfl rfl ?_
  refine xP_s rfl rfl rfl ?_
  refine xP_zp rfl hB rfl rfl ?_
  have hv1 := z4v v (nI p)
  generalize upd (upd (upd (upd v 25 0) 24 0) 23 0) 21 (nI p) = w at *
  have htw : zT w a t := ht.same hv1 (aS.refl _ []) (by decide) (by decide)
  refine xP_s rfl rfl rfl ?_
  refine xP_s rfl rfl rfl ?_
  refine xP_cv rfl rfl rfl rfl rfl (mH_28 hB) (q_charAt hB htw (by omega) rfl ?_)
  refine xP_s rfl rfl rfl ?_
  exact q_scanWrong hB htw hp hp2 (fun v' z1 z2 => k v' z1 (hv1.trans (z2.wide (by decide))))
end MZ
