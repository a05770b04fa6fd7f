-- the reference: the loop of write
def KH (sc : xSc) (d g : Nat) (B C : List xC) (o : Nat → Int64) (P : xO → xH → Prop) (sl : List xSl) (N : List (List Nat)) (Q : List xIt) (x1 : Int32) (v0 : Nat → Int32) (a0 : Nat → Nat → Int32) (S : List (Int32 × Int32)) (w : List Nat) : Prop := ∀ v a, zY sl N Q v a o S w → vS v0 v [37, 40] → aS a0 a [49, 50, 51] → xP sc (d + 6) 193 49 [(0, .ref 28), (1, .int x1)] [] (mH B C v a o, g) P
/-- what is asked of a claim on the pile and what is written -/
def KC (sl : List xSl) (N : List (List Nat)) (Q : List xIt) (K : List (Int32 × Int32) → List Nat → Prop) : Prop :=
  (∀ (c : Nat) (x y : Int32) S w, xcmp .ge x 0 = false → -x = nI c → c < 128 → w.length < 2600 → K S (w ++ [c]) → K ((x, y) :: S) w) ∧
  (∀ (j : Nat) (l : List Nat) S w, N[j]? = some l → w.length + (nmW l).length ≤ 2590 → K S (w ++ nmW l) → K ((nI j, 6000) :: S) w) ∧
  (∀ (r : Nat) (L R : List xIt) (q : xIt) S w, Q.drop (r + 1) = L ++ q :: R → isTm L → okP q → okIt q → S.length + 5 ≤ 900 → w.length + 1 ≤ 2600 → r < 1000 → K (lsS S r (r + 1 + L.length) q) (w ++ [44]) → K ((nI r, 5000) :: S) w) ∧
  (∀ (r : Nat) (p : xIt) (Y : Nat) S w, Q[r]? = some p → okP p → okIt p → p.1 ≤ 2 → Y < 4000 → S.length + 2 ≤ 900 → w.length + (lfW p).length ≤ 2570 → K (brS (brB sl p Y) S) (brW (brB sl p Y) w ++ lfW p) → K ((nI r, nI Y) :: S) w) ∧
  (∀ (r : Nat) (p : xIt) (Y : Nat) (L R : List xIt) (q : xIt) S w, Q[r]? = some p → okP p → okIt p → isDotP p = true → Q.drop (r + 1) = L ++ q :: R → isTm L → okP q → okIt q → Y < 4000 → S.length + 7 ≤ 900 → w.length + 4 ≤ 2590 → K (lsS (brS (brB sl p Y) S) r (r + 1 + L.length) q) (brW (brB sl p Y) w ++ [91]) → K ((nI r, nI Y) :: S) w) ∧
  (∀ (r : Nat) (p : xIt) (Y : Nat) S w, Q[r]? = some p → okP p → okIt p → isBrcP p = true → Y < 4000 → S.length + 5 ≤ 900 → w.length + 4 ≤ 2590 → K ((nI (r + 1), 1200) :: (-125, 0) :: brS (brB sl p Y) S) (brW (brB sl p Y) w ++ [123]) → K ((nI r, nI Y) :: S) w) ∧
  (∀ (r : Nat) (p : xIt) (Y : Nat) (e : xSl) (L L' R : List xIt) (q : xIt) S w, Q[r]? = some p → okP p → okIt p → slF sl p = some e → isDotP p = false → isBrcP p = false → isTm L → L = q :: L' → okP q → okIt q → Q.drop (r + 1) = L ++ R → Y < 4000 → S.length + 9 ≤ 900 → w.length + (nmW p.2.2.1).length ≤ 2570 →
    (p.2.2.2 = 1 → opP sl (kP p) = some e → K ((nI (r + 1), nI (2000 + (oRight (some e)).toNat)) :: brS (brB sl p Y) S) (brW (brB sl p Y) w ++ (nmW p.2.2.1 ++ [32]))) →
    (p.2.2.2 = 1 → opP sl (kP p) = none → opB sl (kP p) = some e → ∀ j : Nat, N[j]? = some p.2.2.1 → K ((nI (r + 1), nI (2000 + lfN sl q e)) :: (-32, 0) :: (nI j, 6000) :: brS (brB sl p Y) S) (brW (brB sl p Y) w)) →
    (p.2.2.2 = 2 → opB sl (kP p) = some e → ∀ j : Nat, N[j]? = some p.2.2.1 → K (if kP p = 44 then (nI (r + 1), nI (2000 + lfN sl q e)) :: (-44, 6000) :: (nI (r + 1 + L.length), nI (2000 + (oRight (some e)).toNat)) :: brS (brB sl p Y) S else (nI (r + 1), nI (2000 + lfN sl q e)) :: (-32, 0) :: (nI j, 6000) :: (-32, 0) :: (nI (r + 1 + L.length), nI (2000 + (oRight (some e)).toNat)) :: brS (brB sl p Y) S) (brW (brB sl p Y) w)) → K ((nI r, nI Y) :: S) w) ∧
  (∀ (r : Nat) (p : xIt) (Y : Nat) (As : List (List xIt)) (R : List xIt) S w, Q[r]? = some p → okP p → okIt p → p.1 = 3 → slF sl p = none → isDotP p = false → isBrcP p = false → p.2.2.2 = As.length → (∀ A ∈ As, isTm A) → Q.drop (r + 1) = As.flatten ++ R → Y < 4000 → S.length + 2 * As.length + 6 ≤ 900 → w.length + (nmW p.2.2.1).length ≤ 2570 → K (agS ((-41, 0) :: brS (brB sl p Y) S) (ixs (r + 1) As)) (brW (brB sl p Y) w ++ (nmW p.2.2.1 ++ [40])) → K ((nI r, nI Y) :: S) w)
theorem xM1_mono {sc : xSc} {d mi : Nat} {As : List Value} {h : xH} {P P' : xO → xH → Prop} (k : xM1 sc d mi As h P) (hi : ∀ o h', P o h' → P' o h') : xM1 sc d mi As h P' := by
  unfold xM1 at k ⊢
  exact xP_mono k hi
section WM2
variable {sc : xSc} {d g : Nat} {B C : List xC} {o : Nat → Int64} {P : xO → xH → Prop} {N : List (List Nat)} {Q : List xIt} {sl : List xSl} {x1 : Int32} {v0 : Nat → Int32} {a0 : Nat → Nat → Int32} {S : List (Int32 × Int32)} {w : List Nat}
set_option maxRecDepth 100000 in
theorem kh_pop {x y : Int32} (hB : B.length = 28) (hl : S.length + 1 ≤ 900) (k : ∀ v a, zY sl N Q v a o S w → vS v0 v [37, 40] → aS a0 a [49, 50, 51] → xP sc (d + 6) 193 86 [(0, .ref 28), (1, .int x1), (2, .int x), (3, .int y)] [] (mH B C v a o, g) P) : KH sc d g B C o P sl N Q x1 v0 a0 ((x, y) :: S) w := by
  intro v a hY fv fa
  obtain ⟨h37, hp, _⟩ := hY.2.2.2.1
  have h37 : v 37 = nI (S.length + 1) := h37
  have em : nI (S.length + 1) - 1 = nI S.length := nIm1 (n := S.length + 1) (by omega)
  have hSl := toI (S.length + 1) (by omega)
  have c0 : (0 : Int32).toInt = 0 := rfl
  have hv : vS v (upd v 37 (nI S.length)) [37] := vS.u _ _ _
  have kk := k (upd v 37 (nI S.length)) a (hY.pi hv (aS.refl _ _) upd_s hp.2.2 (by omega)) (fv.up (by decide)) fa
  refine xP_s rfl rfl rfl ?_
  refine xP_zg rfl hB rfl h37 ?_
  refine xP_s rfl rfl rfl ?_
  refine xP_if (fun c1 => ?_) (fun c1 => ?_)
  · have q := xc_t c1
    dsimp only at q
    omega
  · refine xP_s rfl rfl rfl ?_
    refine xP_s rfl rfl rfl ?_
    refine xP_zg rfl hB rfl h37 ?_
    refine xP_s rfl rfl rfl ?_
    refine xP_s rfl rfl rfl ?_
    rw [em]
    refine xP_zp rfl hB rfl rfl ?_
    refine xP_s rfl rfl rfl ?_
    refine xP_get rfl (mH_28 hB) rfl ?_
    refine xP_s rfl rfl rfl ?_
    refine xP_zg rfl hB rfl upd_s ?_
    refine xP_zl (n := 900) rfl hB rfl rfl (by omega) hp.1 ?_
    refine xP_s rfl rfl rfl ?_
    refine xP_s rfl rfl rfl ?_
    refine xP_get rfl (mH_28 hB) rfl ?_
    refine xP_s rfl rfl rfl ?_
    refine xP_zg rfl hB rfl upd_s ?_
    refine xP_zl (n := 900) rfl hB rfl rfl (by omega) hp.2.1 ?_
    refine xP_s rfl rfl rfl ?_
    exact kk
set_option maxRecDepth 100000 in
theorem kh_back {x y : Int32} {v : Nat → Int32} {a : Nat → Nat → Int32} (k : KH sc d g B C o P sl N Q x1 v0 a0 S w) (hY : zY sl N Q v a o S w) (fv : vS v0 v [37, 40]) (fa : aS a0 a [49, 50, 51]) : xP sc (d + 6) 193 141 [(0, .ref 28), (1, .int x1), (2, .int x), (3, .int y)] [] (mH B C v a o, g) P := by
  have kk := xP_more [(2, .int x), (3, .int y)] rfl (k v a hY fv fa)
  refine xP_s rfl rfl rfl ?_
  exact kk
-- a part: what may come of it
set_option maxRecDepth 100000 in
theorem kh_prt {r Y : Nat} {p : xIt} (hB : B.length = 28) (hl : S.length + 1 ≤ 900) (hw : w.length + 1 ≤ 2600) (hr : Q[r]? = some p) (hr2 : r < 1000) (hp : okP p) (hi : okIt p) (h46 : ∀ e ∈ sl, ¬ e.1 = 46) (h32 : ∀ e ∈ sl, ¬ e.1 = 32123) (hY4 : Y < 4000)
    (k : ∀ v a x3 x5, zY sl N Q v a o (brS (brB sl p Y) S) (brW (brB sl p Y) w) → vS v0 v [37, 40] → aS a0 a [49, 50, 51] → xP sc (d + 5) 188 67 [(0, .ref 28), (1, .int (nI r)), (2, .int (nI Y)), (3, .int x3), (4, .int (nI (slP (slF sl p)))), (5, .int x5)] [] (mH B C v a o, g) (fun oc h' => oc = .inl none ∧ xP sc (d + 6) 193 141 [(0, .ref 28), (1, .int x1), (2, .int (nI r)), (3, .int (nI Y))] [] h' P)) : KH sc d g B C o P sl N Q x1 v0 a0 ((nI r, nI Y) :: S) w := by
  refine kh_pop hB hl (fun v a hY fv fa => ?_)
  have hR := toI r (by omega)
  have hYi := toI Y (by omega)
  have c0 : (0 : Int32).toInt = 0 := rfl
  have c5 : (5000 : Int32).toInt = 5000 := rfl
  have c6 : (6000 : Int32).toInt = 6000 := rfl
  refine xP_s rfl rfl rfl ?_
  refine xP_s rfl rfl rfl ?_
  refine xP_if (fun c1 => ?_) (fun c1 => ?_)
  · refine xP_s rfl rfl rfl ?_
    refine xP_s rfl rfl rfl ?_
    refine xP_s rfl rfl rfl ?_
    refine xP_if (fun c2 => ?_) (fun c2 => ?_)
    · refine xP_s rfl rfl rfl ?_
      refine xP_s rfl rfl rfl ?_
      refine xP_s rfl rfl rfl ?_
      refine xP_if (fun c3 => ?_) (fun c3 => ?_)
      · refine xP_s rfl rfl rfl ?_
        refine xP_s rfl rfl rfl ?_
        refine xP_s rfl rfl rfl ?_
        have hd := q_partHd (sc := sc) (d := d) (g := g) (C := C) (P := fun oc h' => oc = .inl none ∧ xP sc (d + 6) 193 141 [(0, .ref 28), (1, .int x1), (2, .int (nI r)), (3, .int (nI Y))] [] h' P) hB hY hr hp hi h46 h32 hY4 hl hw (fun v' a' x3 x5 y1 y2 y3 => k v' a' x3 x5 y1 (fv.trans y2) (fa.trans y3))
        refine xP_cv rfl rfl rfl rfl rfl (mH_28 hB) (xM1_mono hd (fun oc h' z => ?_))
        obtain ⟨z1, z2⟩ := z
        rw [z1]
        exact z2
      · have q := xc_f c3
        dsimp only at q
        omega
    · have q := xc_f c2
      dsimp only at q
      omega
  · have q := xc_f c1
    dsimp only at q
    omega
set_option maxHeartbeats 8000000 in
set_option maxRecDepth 100000 in
theorem KH_C (hB : B.length = 28) (hN : N.length ≤ 1500) (hQ : Q.length ≤ 1000) (h46 : ∀ e ∈ sl, ¬ e.1 = 46) (h32 : ∀ e ∈ sl, ¬ e.1 = 32123) : KC sl N Q (KH sc d g B C o P sl N Q x1 v0 a0) := by
  have getr : ∀ {r : Nat} {p : xIt}, Q[r]? = some p → r < 1000 := fun h => by
    have := (List.getElem?_eq_some_iff.mp h).1
    omega
  refine ⟨?_, ?_, ?_, ?_, ?_, ?_, ?_, ?_⟩
  · -- a character
    intro c x y S w hx hn hc hw k v a hY fv fa
    have hl : S.length + 1 ≤ 900 := hY.2.2.2.1.2.2
    refine kh_pop hB hl (fun v a hY fv fa => ?_) v a hY fv fa
    refine xP_s rfl rfl rfl ?_
    refine xP_s rfl rfl rfl ?_
    rw [hx]
    refine xP_s rfl rfl rfl ?_
    refine xP_s rfl rfl rfl ?_
    refine xP_s rfl rfl rfl ?_
    rw [hn]
    refine xP_cv rfl rfl rfl rfl rfl (mH_28 hB) (y_out hB hY hw hc (fun v1 a1 y1 y2 y3 => ?_))
    have kk := kh_back (x := x) (y := y) k y1 (fv.trans y2) (fa.trans y3)
    refine xP_s rfl rfl rfl ?_
    exact kk
  · -- a name
    intro j l S w hj hw k v a hY fv fa
    have hl : S.length + 1 ≤ 900 := hY.2.2.2.1.2.2
    have hjl := (List.getElem?_eq_some_iff.mp hj).1
    have hJ := toI j (by omega)
    have c0 : (0 : Int32).toInt = 0 := rfl
    refine kh_pop hB hl (fun v a hY fv fa => ?_) v a hY fv fa
    refine xP_s rfl rfl rfl ?_
    refine xP_s rfl rfl rfl ?_
    refine xP_if (fun c1 => ?_) (fun c1 => ?_)
    · refine xP_s rfl rfl rfl ?_
      refine xP_s rfl rfl rfl ?_
      refine xP_s rfl rfl rfl ?_
      refine xP_s rfl rfl rfl ?_
      refine xP_s rfl rfl rfl ?_
      refine xP_cv rfl rfl rfl rfl rfl (mH_28 hB) (y_name hB hY hj hw (fun v1 a1 y1 y2 y3 => ?_))
      have kk := kh_back (x := nI j) (y := 6000) k y1 (fv.trans y2) (fa.trans y3)
      refine xP_s rfl rfl rfl ?_
      exact kk
    · have q := xc_f c1
      dsimp only at q
      omega
  · -- a list goes on
    intro r L R q S w hd hL hp hi hS hw hr k v a hY fv fa
    have hR := toI r (by omega)
    have c0 : (0 : Int32).toInt = 0 := rfl
    refine kh_pop hB (by omega) (fun v a hY fv fa => ?_) v a hY fv fa
    refine xP_s rfl rfl rfl ?_
    refine xP_s rfl rfl rfl ?_
    refine xP_if (fun c1 => ?_) (fun c1 => ?_)
    · refine xP_s rfl rfl rfl ?_
      refine xP_s rfl rfl rfl ?_
      refine xP_s rfl rfl rfl ?_
      refine xP_s rfl rfl rfl ?_
      refine xP_s rfl rfl rfl ?_
      refine xP_s rfl rfl rfl ?_
      refine xP_s rfl rfl rfl ?_
      refine xP_s rfl rfl rfl ?_
      refine xP_cv rfl rfl rfl rfl rfl (mH_28 hB) (y_out (c := 44) hB hY (by omega) (by decide) (fun v1 a1 y1 y2 y3 => ?_))
      refine xP_s rfl rfl rfl ?_
      refine xP_s rfl rfl rfl ?_
      refine xP_cv rfl rfl rfl rfl rfl (mH_28 hB) (q_list hB y1 hd hL hp hi (by omega) (fun v2 a2 u1 u2 u3 => ?_))
      have kk := kh_back (x := nI r) (y := 5000) k u1 ((fv.trans y2).trans u2) ((fa.trans y3).trans u3)
      refine xP_s rfl rfl rfl ?_
      exact kk
    · have q := xc_f c1
      dsimp only at q
      omega
  · -- no compound
    intro r p Y S w hr hp hi h2 hY4 hS hw k
    have hwl := brW_len (brB sl p Y) w
    refine kh_prt hB (by omega) (by omega) hr (getr hr) hp hi h46 h32 hY4 (fun v a x3 x5 hY fv fa => ?_)
    exact q_partLeaf hB hY hr hp h2 (by omega) (fun v' a' y1 y2 y3 => ⟨rfl, kh_back k y1 (fv.trans y2) (fa.trans y3)⟩)
  · -- a list
    intro r p Y L R q S w hr hp hi hdt hd hL hqp hqi hY4 hS hw k
    have hwl := brW_len (brB sl p Y) w
    have hsl := brS_len (brB sl p Y) S
    have h3 : p.1 = 3 := by
      unfold isDotP at hdt
      simp only [Bool.and_eq_true, decide_eq_true_eq] at hdt
      exact hdt.1
    refine kh_prt hB (by omega) (by omega) hr (getr hr) hp hi h46 h32 hY4 (fun v a x3 x5 hY fv fa => ?_)
    refine q_part3 hB hY hr h3 ?_
    refine xP_s rfl rfl rfl ?_
    refine xP_s rfl rfl rfl ?_
    refine xP_s rfl rfl rfl ?_
    refine xP_s rfl rfl rfl ?_
    refine xP_s rfl rfl rfl ?_
    refine xP_cv rfl rfl rfl rfl rfl (mH_28 hB) (q_isNamed (c := 46) (e := 0) (n := 2) hB hY.2.1 hY.2.2.1 hr (by decide) (by decide) (by decide) ?_)
    rw [nmd_dot hp hi (by omega), hdt]
    refine xP_s rfl rfl rfl ?_
    refine xP_s rfl rfl rfl ?_
    refine xP_s rfl rfl rfl ?_
    refine xP_cv rfl rfl rfl rfl rfl (mH_28 hB) (y_out (c := 91) hB hY (by omega) (by decide) (fun v1 a1 y1 y2 y3 => ?_))
    refine xP_s rfl rfl rfl ?_
    refine xP_s rfl rfl rfl ?_
    refine xP_cv rfl rfl rfl rfl rfl (mH_28 hB) (q_list hB y1 hd hL hqp hqi (by omega) (fun v2 a2 u1 u2 u3 => ?_))
    have kk := kh_back (x := nI r) (y := nI Y) k u1 ((fv.trans y2).trans u2) ((fa.trans y3).trans u3)
    repeat' first
      | refine xP_s rfl rfl rfl ?_
      | refine xP_ret rfl rfl rfl ?_
    exact ⟨rfl, kk⟩
  · -- curly brackets
    intro r p Y S w hr hp hi hbr hY4 hS hw k
    have hwl := brW_len (brB sl p Y) w
    have hsl := brS_len (brB sl p Y) S
    have h3 : p.1 = 3 := by
      unfold isBrcP at hbr
      simp only [Bool.and_eq_true, decide_eq_true_eq] at hbr
      exact hbr.1
    have hnd : isDotP p = false := by
      unfold isBrcP at hbr
      unfold isDotP
      simp only [Bool.and_eq_true, decide_eq_true_eq] at hbr
      rw [decide_eq_false (show ¬ p.2.2.2 = 2 by omega)]
      simp
    refine kh_prt hB (by omega) (by omega) hr (getr hr) hp hi h46 h32 hY4 (fun v a x3 x5 hY fv fa => ?_)
    refine q_part3 hB hY hr h3 ?_
    refine xP_s rfl rfl rfl ?_
    refine xP_s rfl rfl rfl ?_
    refine xP_s rfl rfl rfl ?_
    refine xP_s rfl rfl rfl ?_
    refine xP_s rfl rfl rfl ?_
    refine xP_cv rfl rfl rfl rfl rfl (mH_28 hB) (q_isNamed (c := 46) (e := 0) (n := 2) hB hY.2.1 hY.2.2.1 hr (by decide) (by decide) (by decide) ?_)
    rw [nmd_dot hp hi (by omega), hnd]
    refine xP_s rfl rfl rfl ?_
    refine xP_s rfl rfl rfl ?_
    refine xP_s rfl rfl rfl ?_
    refine xP_s rfl rfl rfl ?_
    refine xP_s rfl rfl rfl ?_
    refine xP_s rfl rfl rfl ?_
    refine xP_cv rfl rfl rfl rfl rfl (mH_28 hB) (q_isNamed (c := 123) (e := 125) (n := 1) hB hY.2.1 hY.2.2.1 hr (by decide) (by decide) (by decide) ?_)
    rw [nmd_brc hp hi (by omega), hbr]
    refine xP_s rfl rfl rfl ?_
    refine xP_s rfl rfl rfl ?_
    refine xP_s rfl rfl rfl ?_
    refine xP_cv rfl rfl rfl rfl rfl (mH_28 hB) (y_out (c := 123) hB hY (by omega) (by decide) (fun v1 a1 y1 y2 y3 => ?_))
    refine xP_s rfl rfl rfl ?_
    refine xP_s rfl rfl rfl ?_
    refine xP_s rfl rfl rfl ?_
    refine xP_cv rfl rfl rfl rfl rfl (mH_28 hB) (y_later hB y1 (by omega) (fun v2 a2 u1 u2 u3 => ?_))
    refine xP_s rfl rfl rfl ?_
    refine xP_s rfl rfl rfl ?_
    refine xP_s rfl rfl rfl ?_
    refine xP_s rfl rfl rfl ?_
    rw [nI_p1]
    refine xP_s rfl rfl rfl ?_
    refine xP_cv rfl rfl rfl rfl rfl (mH_28 hB) (y_later hB u1 (by rw [List.length_cons]; omega) (fun v3 a3 s1 s2 s3 => ?_))
    have kk := kh_back (x := nI r) (y := nI Y) k s1 (((fv.trans y2).trans u2).trans s2) (((fa.trans y3).trans u3).trans s3)
    repeat' first
      | refine xP_s rfl rfl rfl ?_
      | refine xP_ret rfl rfl rfl ?_
    exact ⟨rfl, kk⟩
  · -- an operator
    intro r p Y e L L' R q S w hr hp hi he hnd hnb hL hLq hqp hqi hd hY4 hS hw kp ks ki
    have hwl := brW_len (brB sl p Y) w
    have hsl := brS_len (brB sl p Y) S
    have h3 := (slF_e he).1
    refine kh_prt hB (by omega) (by omega) hr (getr hr) hp hi h46 h32 hY4 (fun v a x3 x5 hY fv fa => ?_)
    have hpos : 1 ≤ e.2.1 ∧ e.2.1 ≤ 1200 := by
      obtain ⟨_, _, _, _, _, _, _, h8⟩ := hY.1
      have := h8 e (slF_e he).2.1
      omega
    have hE := toI e.2.1 (by omega)
    have c0 : (0 : Int32).toInt = 0 := rfl
    rw [he]
    refine q_part3 hB hY hr h3 ?_
    refine xP_s rfl rfl rfl ?_
    refine xP_s rfl rfl rfl ?_
    refine xP_s rfl rfl rfl ?_
    refine xP_s rfl rfl rfl ?_
    refine xP_s rfl rfl rfl ?_
    refine xP_cv rfl rfl rfl rfl rfl (mH_28 hB) (q_isNamed (c := 46) (e := 0) (n := 2) hB hY.2.1 hY.2.2.1 hr (by decide) (by decide) (by decide) ?_)
    rw [nmd_dot hp hi (by omega), hnd]
    refine xP_s rfl rfl rfl ?_
    refine xP_s rfl rfl rfl ?_
    refine xP_s rfl rfl rfl ?_
    refine xP_s rfl rfl rfl ?_
    refine xP_s rfl rfl rfl ?_
    refine xP_s rfl rfl rfl ?_
    refine xP_cv rfl rfl rfl rfl rfl (mH_28 hB) (q_isNamed (c := 123) (e := 125) (n := 1) hB hY.2.1 hY.2.2.1 hr (by decide) (by decide) (by decide) ?_)
    rw [nmd_brc hp hi (by omega), hnb]
    refine xP_s rfl rfl rfl ?_
    refine xP_s rfl rfl rfl ?_
    refine xP_s rfl rfl rfl ?_
    refine xP_if (fun c1 => ?_) (fun c1 => ?_)
    · have q1 := xc_t c1
      dsimp only at q1
      have : slP (some e) = e.2.1 := rfl
      rw [this] at q1
      omega
    · refine xP_s rfl rfl rfl ?_
      refine xP_s rfl rfl rfl ?_
      refine xP_cv rfl rfl rfl rfl rfl (mH_28 hB) (q_operated hB hY hr he hp hi h46 h32 hL hLq hqp hqi hd (by omega) (by omega) (fun a1 a2 v' a' y1 y2 y3 => ?_) (fun a1 a2 a3 v' a' j hj y1 y2 y3 => ?_) (fun a1 a2 v' a' j hj y1 y2 y3 => ?_))
      · have kk := kh_back (x := nI r) (y := nI Y) (kp a1 a2) y1 (fv.trans y2) (fa.trans y3)
        repeat' first
          | refine xP_s rfl rfl rfl ?_
          | refine xP_ret rfl rfl rfl ?_
        exact ⟨rfl, kk⟩
      · have kk := kh_back (x := nI r) (y := nI Y) (ks a1 a2 a3 j hj) y1 (fv.trans y2) (fa.trans y3)
        repeat' first
          | refine xP_s rfl rfl rfl ?_
          | refine xP_ret rfl rfl rfl ?_
        exact ⟨rfl, kk⟩
      · have kk := kh_back (x := nI r) (y := nI Y) (ki a1 a2 j hj) y1 (fv.trans y2) (fa.trans y3)
        repeat' first
          | refine xP_s rfl rfl rfl ?_
          | refine xP_ret rfl rfl rfl ?_
        exact ⟨rfl, kk⟩
  · -- any other compound
    intro r p Y As R S w hr hp hi h3 hno hnd hnb hn ht hd hY4 hS hw k
    have hwl := brW_len (brB sl p Y) w
    have hsl := brS_len (brB sl p Y) S
    have hn1 := (hi.2.1 h3).1
    refine kh_prt hB (by omega) (by omega) hr (getr hr) hp hi h46 h32 hY4 (fun v a x3 x5 hY fv fa => ?_)
    rw [hno]
    refine q_part3 hB hY hr h3 ?_
    refine xP_s rfl rfl rfl ?_
    refine xP_s rfl rfl rfl ?_
    refine xP_s rfl rfl rfl ?_
    refine xP_s rfl rfl rfl ?_
    refine xP_s rfl rfl rfl ?_
    refine xP_cv rfl rfl rfl rfl rfl (mH_28 hB) (q_isNamed (c := 46) (e := 0) (n := 2) hB hY.2.1 hY.2.2.1 hr (by decide) (by decide) (by decide) ?_)
    rw [nmd_dot hp hi (by omega), hnd]
    refine xP_s rfl rfl rfl ?_
    refine xP_s rfl rfl rfl ?_
    refine xP_s rfl rfl rfl ?_
    refine xP_s rfl rfl rfl ?_
    refine xP_s rfl rfl rfl ?_
    refine xP_s rfl rfl rfl ?_
    refine xP_cv rfl rfl rfl rfl rfl (mH_28 hB) (q_isNamed (c := 123) (e := 125) (n := 1) hB hY.2.1 hY.2.2.1 hr (by decide) (by decide) (by decide) ?_)
    rw [nmd_brc hp hi (by omega), hnb]
    refine xP_s rfl rfl rfl ?_
    refine xP_s rfl rfl rfl ?_
    refine xP_s rfl rfl rfl ?_
    refine xP_s rfl rfl rfl ?_
    refine xP_s rfl rfl rfl ?_
    refine xP_cv rfl rfl rfl rfl rfl (mH_28 hB) (q_plainly hB hY hr h3 hn (by omega) ht hd (by omega) (by omega) (fun v1 a1 y1 y2 y3 => ?_))
    have kk := kh_back (x := nI r) (y := nI Y) k y1 (fv.trans y2) (fa.trans y3)
    repeat' first
      | refine xP_s rfl rfl rfl ?_
      | refine xP_ret rfl rfl rfl ?_
    exact ⟨rfl, kk⟩
end WM2
