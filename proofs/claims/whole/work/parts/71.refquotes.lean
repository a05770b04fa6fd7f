-- the reference: quotes
section MY
variable {sc : xSc} {d g : Nat} {A B C : List xC} {o : Nat → Int64} {t : List Nat} {P : xO → xH → Prop}
theorem qt_c39 {n : Nat} {r : List Nat} (h : r.head? = some 39) : qt (n + 1) (39 :: r) = (qt n r.tail).map (fun q => (39 :: q.1, q.2)) := by
  show (if 39 = 39 then (if r.head? = some 39 then (qt n r.tail).map (fun q => (39 :: q.1, q.2)) else some ([], r)) else _) = _
  rw [if_pos rfl, if_pos h]
theorem qt_e39 {n : Nat} {r : List Nat} (h : ¬ r.head? = some 39) : qt (n + 1) (39 :: r) = some ([], r) := by
  show (if 39 = 39 then (if r.head? = some 39 then (qt n r.tail).map (fun q => (39 :: q.1, q.2)) else some ([], r)) else _) = _
  rw [if_pos rfl, if_neg h]
theorem qt_92 {n e x : Nat} {r2 : List Nat} (h : esc e = some x) : qt (n + 1) (92 :: e :: r2) = (qt n r2).map (fun q => (x :: q.1, q.2)) := by
  conv => lhs; unfold qt
  rw [if_neg (by decide), if_pos rfl]
  dsimp only
  rw [h]
theorem qt_92n {n : Nat} {r : List Nat} (h : esc (oz r 0) = none) : qt (n + 1) (92 :: r) = none := by
  unfold qt
  rw [if_neg (by decide), if_pos rfl]
  cases r with
  | nil => rfl
  | cons e r2 =>
    rw [oz_c] at h
    dsimp only
    rw [h]
theorem qt_o {n c : Nat} {r : List Nat} (h1 : ¬ c = 39) (h2 : ¬ c = 92) : qt (n + 1) (c :: r) = (qt n r).map (fun q => (c :: q.1, q.2)) := by
  conv => lhs; unfold qt
  rw [if_neg h1, if_neg h2]
theorem esc_0 : esc 0 = none := by decide
set_option maxHeartbeats 8000000 in
set_option maxRecDepth 100000 in
theorem q_qt39 {x1 : Int32} (hB : B.length = 28) : ∀ (n : Nat) (s : List Nat) (i : Nat) (v : Nat → Int32) (a : Nat → Nat → Int32) (w : List Nat), s.length < n → zT v a t → t.drop i = s → i ≤ t.length → zH v a w → w.length + s.length ≤ 129 → v 20 = 4 →
    (∀ v' a' q, qt n s = some q → zH v' a' (w ++ q.1) → vS v v' [20, 25] → v' 20 = 4 → aS a a' [42] → q.2.length ≤ t.length → xP sc (d + 1) 162 220 [(0, .ref 28), (1, .int x1), (2, .int 39), (3, .int (nI (t.length - q.2.length))), (4, .int 1)] [] (mH B C v' a' o, g) P) →
    (∀ v' a' i' w', qt n s = none → i' ≤ 200 → zH v' a' w' → vS v v' [20, 25] → v' 20 = 7 → aS a a' [42] → xP sc (d + 1) 162 220 [(0, .ref 28), (1, .int x1), (2, .int 39), (3, .int (nI i')), (4, .int 0)] [] (mH B C v' a' o, g) P) →
    xP sc (d + 1) 162 27 [(0, .ref 28), (1, .int x1), (2, .int 39), (3, .int (nI i)), (4, .int 0)] [] (mH B C v a o, g) P
  | 0, s, i, v, a, w, hn, ht, hd, hi, hw, hl, h20, k1, k0 => by omega
  | n + 1, [], i, v, a, w, hn, ht, hd, hi, hw, hl, h20, k1, k0 => by
    have h120 := ht.2.1
    have hlen := drop_l2 hd hi
    rw [List.length_nil, Nat.zero_add] at hlen
    have hI := toI i (by omega)
    have hL := toI t.length (by omega)
    refine xP_s rfl rfl rfl ?_
    refine xP_s rfl rfl rfl ?_
    refine xP_s rfl rfl rfl ?_
    refine xP_zg rfl hB rfl h20 ?_
    refine xP_s rfl rfl rfl ?_
    refine xP_s rfl rfl rfl ?_
    refine xP_s rfl rfl rfl ?_
    refine xP_s rfl rfl rfl ?_
    refine xP_cv rfl rfl rfl rfl rfl (mH_28 hB) (q_charAt hB ht (by omega) (oz_0 hd) ?_)
    refine xP_s rfl rfl rfl ?_
    refine xP_s rfl rfl rfl ?_
    refine xP_s rfl rfl rfl ?_
    refine xP_s rfl rfl rfl ?_
    refine xP_s rfl rfl rfl ?_
    rw [nI_p1]
    refine xP_cv rfl rfl rfl rfl rfl (mH_28 hB) (q_charAt hB ht (by omega) (oz_d hd 1) ?_)
    refine xP_s rfl rfl rfl ?_
    refine xP_s rfl rfl rfl ?_
    refine xP_s rfl rfl rfl ?_
    refine xP_zg rfl hB rfl ht.1 ?_
    refine xP_s rfl rfl rfl ?_
    refine xP_if (fun hq => ?_) (fun hq => ?_)
    · have := xc_t hq
      dsimp only at this
      omega
    · refine xP_s rfl rfl rfl ?_
      refine xP_s rfl rfl rfl ?_
      refine xP_zp rfl hB rfl rfl ?_
      refine xP_s rfl rfl rfl ?_
      exact q_qWrong (ex := [(5, .int (nI (oz [] 0))), (6, .int (nI (oz [] 1)))]) rfl hB upd_s (k0 _ _ i w rfl (by omega) (hw.same (vS.u _ _ _) (aS.refl _ []) (by decide) (by decide)) ((vS.u _ _ _).wide (by decide)) upd_s (aS.refl _ _))
  | n + 1, c :: r, i, v, a, w, hn, ht, hd, hi, hw, hl, h20, k1, k0 => by
    have h120 := ht.2.1
    have hlen := drop_l2 hd hi
    obtain ⟨hd1, hi1⟩ := drop_c hd
    rw [List.length_cons] at hlen hn hl
    have hlt : c < 128 := by
      have := ht.lt i
      rwa [oz_0 hd] at this
    have hlt1 : oz r 0 < 128 := by
      have := ht.lt (i + 1)
      rwa [oz_0 hd1] at this
    have hI := toI i (by omega)
    have hL := toI t.length (by omega)
    have hC := toI c (by omega)
    have hC1 := toI (oz r 0) (by omega)
    have h39 : (39 : Int32).toInt = 39 := rfl
    have h92 : (92 : Int32).toInt = 92 := rfl
    have h110 : (110 : Int32).toInt = 110 := rfl
    have h116 : (116 : Int32).toInt = 116 := rfl
    have hd2 : t.drop (i + 2) = r.tail := by
      have : t.drop (i + 1 + 1) = r.tail := by rw [← hd1, List.tail_drop]
      exact this
    -- a character kept, and on
    have plain : ¬ c = 92 → (c = 39 → r.head? = some 39) → xP sc (d + 1) 162 197 [(0, .ref 28), (1, .int x1), (2, .int 39), (3, .int (nI i)), (4, .int 0), (5, .int (nI c)), (6, .int (nI (oz r 0)))] [] (mH B C v a o, g) P := by
      intro n92 hdb
      refine xP_s rfl rfl rfl ?_
      refine xP_s rfl rfl rfl ?_
      refine xP_cv rfl rfl rfl rfl rfl (mH_28 hB) (q_keep hB hw (by omega) hlt (fun v1 a1 z1 z2 z3 => ?_))
      have hv1 : vS v v1 [20, 25] := z2.wide (by decide)
      have e20 : v1 20 = 4 := by rw [z2 20 (by decide)]; exact h20
      have ht1 := ht.same z2 z3 (by decide) (by decide)
      refine xP_s rfl rfl rfl ?_
      refine xP_s rfl rfl rfl ?_
      refine xP_s rfl rfl rfl ?_
      refine xP_s rfl rfl rfl ?_
      refine xP_if (fun b1 => ?_) (fun b1 => ?_)
      · have z := xc_t b1
        dsimp only at z
        have e := qt_o (n := n) (c := c) (r := r) (by omega) n92
        have go := q_qt39 (x1 := x1) hB n r (i + 1) v1 a1 (w ++ [c]) (by omega) ht1 hd1 hi1 z1 (by rw [List.length_append, List.length_singleton]; omega) e20
          (fun v' a' q y1 y2 y3 y4 y5 y6 => k1 v' a' (c :: q.1, q.2) (by rw [e, y1]; rfl) (by rw [List.append_assoc] at y2; exact y2) (hv1.trans y3) y4 (z3.trans y5) y6)
          (fun v' a' i' w' y1 y2 y3 y4 y5 y6 => k0 v' a' i' w' (by rw [e, y1]; rfl) y2 y3 (hv1.trans y4) y5 (z3.trans y6))
        rw [← nI_p1 i] at go
        refine xP_s rfl rfl rfl ?_
        refine xP_s rfl rfl rfl ?_
        refine xP_s rfl rfl rfl ?_
        exact q_qGo (ex := [(5, .int (nI c)), (6, .int (nI (oz r 0)))]) rfl go
      · have z := xc_f b1
        dsimp only at z
        have ec : c = 39 := by omega
        have hr := hdb ec
        obtain ⟨r2, er⟩ : ∃ r2, r = 39 :: r2 := by
          cases r with
          | nil => cases hr
          | cons b r2 =>
            rw [List.head?_cons] at hr
            cases hr
            exact ⟨r2, rfl⟩
        have e := qt_c39 (n := n) hr
        rw [er, List.tail_cons] at hd2
        have hl2 : r2.length + 1 = r.length := by rw [er]; rfl
        have go := q_qt39 (x1 := x1) hB n r2 (i + 2) v1 a1 (w ++ [c]) (by omega) ht1 hd2 (by omega) z1 (by rw [List.length_append, List.length_singleton]; omega) e20
          (fun v' a' q y1 y2 y3 y4 y5 y6 => k1 v' a' (39 :: q.1, q.2) (by rw [ec, e, er, List.tail_cons, y1]; rfl) (by rw [List.append_assoc, ec] at y2; exact y2) (hv1.trans y3) y4 (z3.trans y5) y6)
          (fun v' a' i' w' y1 y2 y3 y4 y5 y6 => k0 v' a' i' w' (by rw [ec, e, er, List.tail_cons, y1]; rfl) y2 y3 (hv1.trans y4) y5 (z3.trans y6))
        rw [← nI_p2 i] at go
        refine xP_s rfl rfl rfl ?_
        refine xP_s rfl rfl rfl ?_
        refine xP_s rfl rfl rfl ?_
        refine xP_s rfl rfl rfl ?_
        exact q_qGo (ex := [(5, .int (nI c)), (6, .int (nI (oz r 0)))]) rfl go
    -- a backslash
    have good : c = 92 → (∃ x, esc (oz r 0) = some x) → xP sc (d + 1) 162 143 [(0, .ref 28), (1, .int x1), (2, .int 39), (3, .int (nI i)), (4, .int 0), (5, .int (nI c)), (6, .int (nI (oz r 0)))] [] (mH B C v a o, g) P := by
      intro ec hx
      obtain ⟨x, hx⟩ := hx
      refine xP_s rfl rfl rfl ?_
      refine xP_s rfl rfl rfl ?_
      refine xP_s rfl rfl rfl ?_
      refine q_qKeep hB hw (by omega) hlt1 (fun v1 a1 z1 z2 z3 => ?_)
      have hv1 : vS v v1 [20, 25] := z2.wide (by decide)
      have e20 : v1 20 = 4 := by rw [z2 20 (by decide)]; exact h20
      have ht1 := ht.same z2 z3 (by decide) (by decide)
      obtain ⟨b, r2, er⟩ : ∃ b r2, r = b :: r2 := by
        cases r with
        | nil =>
          rw [oz_n, esc_0] at hx
          cases hx
        | cons b r2 => exact ⟨b, r2, rfl⟩
      have hb : esc b = some x := by rw [er, oz_c] at hx; exact hx
      have e := qt_92 (n := n) (r2 := r2) hb
      rw [esc_V hx] at z1
      rw [er, List.tail_cons] at hd2
      have hl2 : r2.length + 1 = r.length := by rw [er]; rfl
      have go := q_qt39 (x1 := x1) hB n r2 (i + 2) v1 a1 (w ++ [x]) (by omega) ht1 hd2 (by omega) z1 (by rw [List.length_append, List.length_singleton]; omega) e20
        (fun v' a' q y1 y2 y3 y4 y5 y6 => k1 v' a' (x :: q.1, q.2) (by rw [ec, er, e, y1]; rfl) (by rw [List.append_assoc] at y2; exact y2) (hv1.trans y3) y4 (z3.trans y5) y6)
        (fun v' a' i' w' y1 y2 y3 y4 y5 y6 => k0 v' a' i' w' (by rw [ec, er, e, y1]; rfl) y2 y3 (hv1.trans y4) y5 (z3.trans y6))
      rw [← nI_p2 i] at go
      refine xP_s rfl rfl rfl ?_
      refine xP_s rfl rfl rfl ?_
      refine xP_s rfl rfl rfl ?_
      refine xP_s rfl rfl rfl ?_
      exact q_qGo (ex := [(5, .int (nI c)), (6, .int (nI (oz r 0))), (7, .int 1)]) rfl go
    have bad : c = 92 → esc (oz r 0) = none → xP sc (d + 1) 162 147 [(0, .ref 28), (1, .int x1), (2, .int 39), (3, .int (nI i)), (4, .int 0), (5, .int (nI c)), (6, .int (nI (oz r 0)))] [] (mH B C v a o, g) P := by
      intro ec hx
      refine xP_s rfl rfl rfl ?_
      refine xP_s rfl rfl rfl ?_
      refine q_qKeep hB hw (by omega) hlt1 (fun v1 a1 z1 z2 z3 => ?_)
      have hv1 : vS v v1 [20, 25] := z2.wide (by decide)
      have e := qt_92n (n := n) hx
      have fin := k0 (upd v1 20 7) a1 (i + 2) _ (by rw [ec]; exact e) (by omega) (z1.same (vS.u _ _ _) (aS.refl _ []) (by decide) (by decide)) (hv1.up (by decide)) upd_s z3
      rw [← nI_p2 i] at fin
      refine xP_s rfl rfl rfl ?_
      refine xP_s rfl rfl rfl ?_
      refine xP_s rfl rfl rfl ?_
      refine xP_s rfl rfl rfl ?_
      refine xP_zp rfl hB rfl rfl ?_
      refine xP_s rfl rfl rfl ?_
      refine xP_s rfl rfl rfl ?_
      exact q_qWrong (ex := [(5, .int (nI c)), (6, .int (nI (oz r 0))), (7, .int 0)]) rfl hB upd_s fin
    have at102 : (c = 39 → r.head? = some 39) → xP sc (d + 1) 162 102 [(0, .ref 28), (1, .int x1), (2, .int 39), (3, .int (nI i)), (4, .int 0), (5, .int (nI c)), (6, .int (nI (oz r 0)))] [] (mH B C v a o, g) P := by
      intro hdb
      refine xP_s rfl rfl rfl ?_
      refine xP_s rfl rfl rfl ?_
      refine xP_s rfl rfl rfl ?_
      refine xP_if (fun b1 => ?_) (fun b1 => ?_)
      · have z := xc_t b1
        dsimp only at z
        exact plain (by omega) hdb
      · have z := xc_f b1
        dsimp only at z
        have ec : c = 92 := by omega
        refine xP_s rfl rfl rfl ?_
        refine xP_s rfl rfl rfl ?_
        refine xP_s rfl rfl rfl ?_
        refine xP_s rfl rfl rfl ?_
        refine xP_s rfl rfl rfl ?_
        refine xP_s rfl rfl rfl ?_
        refine xP_if (fun b2 => ?_) (fun b2 => ?_)
        · have z2 := xc_t b2
          dsimp only at z2
          exact good ec ⟨10, by rw [show oz r 0 = 110 by omega]; decide⟩
        have z2 := xc_f b2
        dsimp only at z2
        refine xP_s rfl rfl rfl ?_
        refine xP_s rfl rfl rfl ?_
        refine xP_s rfl rfl rfl ?_
        refine xP_if (fun b3 => ?_) (fun b3 => ?_)
        · have z3 := xc_t b3
          dsimp only at z3
          exact good ec ⟨9, by rw [show oz r 0 = 116 by omega]; decide⟩
        have z3 := xc_f b3
        dsimp only at z3
        refine xP_s rfl rfl rfl ?_
        refine xP_s rfl rfl rfl ?_
        refine xP_s rfl rfl rfl ?_
        refine xP_if (fun b4 => ?_) (fun b4 => ?_)
        · have z4 := xc_t b4
          dsimp only at z4
          exact good ec ⟨92, by rw [show oz r 0 = 92 by omega]; decide⟩
        have z4 := xc_f b4
        dsimp only at z4
        refine xP_s rfl rfl rfl ?_
        refine xP_s rfl rfl rfl ?_
        refine xP_s rfl rfl rfl ?_
        refine xP_if (fun b5 => ?_) (fun b5 => ?_)
        · have z5 := xc_t b5
          dsimp only at z5
          refine bad ec ?_
          unfold esc
          rw [if_neg (by omega), if_neg (by omega), if_neg (fun q => by omega)]
        · have z5 := xc_f b5
          dsimp only at z5
          exact good ec ⟨39, by rw [show oz r 0 = 39 by omega]; decide⟩
    refine xP_s rfl rfl rfl ?_
    refine xP_s rfl rfl rfl ?_
    refine xP_s rfl rfl rfl ?_
    refine xP_zg rfl hB rfl h20 ?_
    refine xP_s rfl rfl rfl ?_
    refine xP_s rfl rfl rfl ?_
    refine xP_s rfl rfl rfl ?_
    refine xP_s rfl rfl rfl ?_
    refine xP_cv rfl rfl rfl rfl rfl (mH_28 hB) (q_charAt (c := c) hB ht (by omega) (oz_0 hd) ?_)
    refine xP_s rfl rfl rfl ?_
    refine xP_s rfl rfl rfl ?_
    refine xP_s rfl rfl rfl ?_
    refine xP_s rfl rfl rfl ?_
    refine xP_s rfl rfl rfl ?_
    rw [nI_p1]
    refine xP_cv rfl rfl rfl rfl rfl (mH_28 hB) (q_charAt hB ht (by omega) (oz_0 hd1) ?_)
    refine xP_s rfl rfl rfl ?_
    refine xP_s rfl rfl rfl ?_
    refine xP_s rfl rfl rfl ?_
    refine xP_zg rfl hB rfl ht.1 ?_
    refine xP_s rfl rfl rfl ?_
    refine xP_if (fun hq => ?_) (fun hq => ?_)
    · refine xP_s rfl rfl rfl ?_
      refine xP_s rfl rfl rfl ?_
      refine xP_s rfl rfl rfl ?_
      refine xP_if (fun b1 => ?_) (fun b1 => ?_)
      · have z := xc_t b1
        dsimp only at z
        exact at102 (fun q => by omega)
      · have z := xc_f b1
        dsimp only at z
        have ec : c = 39 := by omega
        refine xP_s rfl rfl rfl ?_
        refine xP_s rfl rfl rfl ?_
        refine xP_s rfl rfl rfl ?_
        refine xP_s rfl rfl rfl ?_
        refine xP_s rfl rfl rfl ?_
        refine xP_s rfl rfl rfl ?_
        refine xP_if (fun b2 => ?_) (fun b2 => ?_)
        · have z2 := xc_t b2
          dsimp only at z2
          exact at102 (fun _ => (hd_oz (by decide)).mpr (by omega))
        · have z2 := xc_f b2
          dsimp only at z2
          have e := qt_e39 (n := n) (r := r) (fun q => z2 (by rw [(hd_oz (by decide)).mp q]; rfl))
          have fin := k1 v a ([], r) (by rw [ec]; exact e) (by rw [List.append_nil]; exact hw) (vS.refl _ _) h20 (aS.refl _ _) (by dsimp only; omega)
          dsimp only at fin
          rw [show t.length - r.length = i + 1 by omega, ← nI_p1 i] at fin
          refine xP_s rfl rfl rfl ?_
          refine xP_s rfl rfl rfl ?_
          refine xP_s rfl rfl rfl ?_
          refine xP_s rfl rfl rfl ?_
          exact q_qEnd (ex := [(5, .int (nI c)), (6, .int (nI (oz r 0)))]) rfl fin
    · have z := xc_f hq
      dsimp only at z
      omega
theorem strq_e {r : List Nat} : strq (34 :: r) = some ([], r) := by
  unfold strq
  rw [if_pos rfl]
theorem strq_b {r : List Nat} : strq (92 :: r) = none := by
  unfold strq
  rw [if_neg (by decide), if_pos rfl]
theorem strq_o {c : Nat} {r : List Nat} (h1 : ¬ c = 34) (h2 : ¬ c = 92) : strq (c :: r) = (strq r).map (fun q => (c :: q.1, q.2)) := by
  conv => lhs; unfold strq
  rw [if_neg h1, if_neg h2]
set_option maxHeartbeats 8000000 in
set_option maxRecDepth 100000 in
theorem q_qt34 {x1 : Int32} (hB : B.length = 28) : ∀ (s : List Nat) (i : Nat) (v : Nat → Int32) (a : Nat → Nat → Int32) (w : List Nat), zT v a t → t.drop i = s → i ≤ t.length → zH v a w → w.length + s.length ≤ 129 → v 20 = 3 →
    (∀ v' a' q, strq s = some q → zH v' a' (w ++ q.1) → vS v v' [20, 25] → v' 20 = 3 → aS a a' [42] → q.2.length ≤ t.length → xP sc (d + 1) 162 220 [(0, .ref 28), (1, .int x1), (2, .int 34), (3, .int (nI (t.length - q.2.length))), (4, .int 1)] [] (mH B C v' a' o, g) P) →
    (∀ v' a' i' w', strq s = none → i' ≤ 200 → zH v' a' w' → vS v v' [20, 25] → v' 20 = 7 → aS a a' [42] → xP sc (d + 1) 162 220 [(0, .ref 28), (1, .int x1), (2, .int 34), (3, .int (nI i')), (4, .int 0)] [] (mH B C v' a' o, g) P) →
    xP sc (d + 1) 162 27 [(0, .ref 28), (1, .int x1), (2, .int 34), (3, .int (nI i)), (4, .int 0)] [] (mH B C v a o, g) P
  | [], i, v, a, w, ht, hd, hi, hw, hl, h20, k1, k0 => by
    have h120 := ht.2.1
    have hlen := drop_l2 hd hi
    rw [List.length_nil, Nat.zero_add] at hlen
    have hI := toI i (by omega)
    have hL := toI t.length (by omega)
    refine xP_s rfl rfl rfl ?_
    refine xP_s rfl rfl rfl ?_
    refine xP_s rfl rfl rfl ?_
    refine xP_zg rfl hB rfl h20 ?_
    refine xP_s rfl rfl rfl ?_
    refine xP_s rfl rfl rfl ?_
    refine xP_s rfl rfl rfl ?_
    refine xP_s rfl rfl rfl ?_
    refine xP_cv rfl rfl rfl rfl rfl (mH_28 hB) (q_charAt hB ht (by omega) (oz_0 hd) ?_)
    refine xP_s rfl rfl rfl ?_
    refine xP_s rfl rfl rfl ?_
    refine xP_s rfl rfl rfl ?_
    refine xP_s rfl rfl rfl ?_
    refine xP_s rfl rfl rfl ?_
    rw [nI_p1]
    refine xP_cv rfl rfl rfl rfl rfl (mH_28 hB) (q_charAt hB ht (by omega) (oz_d hd 1) ?_)
    refine xP_s rfl rfl rfl ?_
    refine xP_s rfl rfl rfl ?_
    refine xP_s rfl rfl rfl ?_
    refine xP_zg rfl hB rfl ht.1 ?_
    refine xP_s rfl rfl rfl ?_
    refine xP_if (fun hq => ?_) (fun hq => ?_)
    · have := xc_t hq
      dsimp only at this
      omega
    · refine xP_s rfl rfl rfl ?_
      refine xP_s rfl rfl rfl ?_
      refine xP_zp rfl hB rfl rfl ?_
      refine xP_s rfl rfl rfl ?_
      exact q_qWrong (ex := [(5, .int (nI (oz [] 0))), (6, .int (nI (oz [] 1)))]) rfl hB upd_s (k0 _ _ i w rfl (by omega) (hw.same (vS.u _ _ _) (aS.refl _ []) (by decide) (by decide)) ((vS.u _ _ _).wide (by decide)) upd_s (aS.refl _ _))
  | c :: r, i, v, a, w, ht, hd, hi, hw, hl, h20, k1, k0 => by
    have h120 := ht.2.1
    have hlen := drop_l2 hd hi
    obtain ⟨hd1, hi1⟩ := drop_c hd
    rw [List.length_cons] at hlen hl
    have hlt : c < 128 := by
      have := ht.lt i
      rwa [oz_0 hd] at this
    have hlt1 : oz r 0 < 128 := by
      have := ht.lt (i + 1)
      rwa [oz_0 hd1] at this
    have hI := toI i (by omega)
    have hL := toI t.length (by omega)
    have hC := toI c (by omega)
    have hC1 := toI (oz r 0) (by omega)
    have h34 : (34 : Int32).toInt = 34 := rfl
    have h92 : (92 : Int32).toInt = 92 := rfl
    refine xP_s rfl rfl rfl ?_
    refine xP_s rfl rfl rfl ?_
    refine xP_s rfl rfl rfl ?_
    refine xP_zg rfl hB rfl h20 ?_
    refine xP_s rfl rfl rfl ?_
    refine xP_s rfl rfl rfl ?_
    refine xP_s rfl rfl rfl ?_
    refine xP_s rfl rfl rfl ?_
    refine xP_cv rfl rfl rfl rfl rfl (mH_28 hB) (q_charAt (c := c) hB ht (by omega) (oz_0 hd) ?_)
    refine xP_s rfl rfl rfl ?_
    refine xP_s rfl rfl rfl ?_
    refine xP_s rfl rfl rfl ?_
    refine xP_s rfl rfl rfl ?_
    refine xP_s rfl rfl rfl ?_
    rw [nI_p1]
    refine xP_cv rfl rfl rfl rfl rfl (mH_28 hB) (q_charAt hB ht (by omega) (oz_0 hd1) ?_)
    refine xP_s rfl rfl rfl ?_
    refine xP_s rfl rfl rfl ?_
    refine xP_s rfl rfl rfl ?_
    refine xP_zg rfl hB rfl ht.1 ?_
    refine xP_s rfl rfl rfl ?_
    refine xP_if (fun hq => ?_) (fun hq => ?_)
    · refine xP_s rfl rfl rfl ?_
      refine xP_s rfl rfl rfl ?_
      refine xP_s rfl rfl rfl ?_
      refine xP_if (fun b1 => ?_) (fun b1 => ?_)
      · have z := xc_t b1
        dsimp only at z
        refine xP_s rfl rfl rfl ?_
        refine xP_s rfl rfl rfl ?_
        refine xP_s rfl rfl rfl ?_
        refine xP_if (fun b2 => ?_) (fun b2 => ?_)
        · have z2 := xc_t b2
          dsimp only at z2
          refine xP_s rfl rfl rfl ?_
          refine xP_s rfl rfl rfl ?_
          refine xP_cv rfl rfl rfl rfl rfl (mH_28 hB) (q_keep hB hw (by omega) hlt (fun v1 a1 z1 y2 z3 => ?_))
          have hv1 : vS v v1 [20, 25] := y2.wide (by decide)
          have e20 : v1 20 = 3 := by rw [y2 20 (by decide)]; exact h20
          have ht1 := ht.same y2 z3 (by decide) (by decide)
          have e := strq_o (c := c) (r := r) (by omega) (by omega)
          have go := q_qt34 (x1 := x1) hB r (i + 1) v1 a1 (w ++ [c]) ht1 hd1 hi1 z1 (by rw [List.length_append, List.length_singleton]; omega) e20
            (fun v' a' q y1 y2 y3 y4 y5 y6 => k1 v' a' (c :: q.1, q.2) (by rw [e, y1]; rfl) (by rw [List.append_assoc] at y2; exact y2) (hv1.trans y3) y4 (z3.trans y5) y6)
            (fun v' a' i' w' y1 y2 y3 y4 y5 y6 => k0 v' a' i' w' (by rw [e, y1]; rfl) y2 y3 (hv1.trans y4) y5 (z3.trans y6))
          rw [← nI_p1 i] at go
          refine xP_s rfl rfl rfl ?_
          refine xP_s rfl rfl rfl ?_
          refine xP_s rfl rfl rfl ?_
          refine xP_s rfl rfl rfl ?_
          refine xP_if (fun b3 => ?_) (fun b3 => ?_)
          · refine xP_s rfl rfl rfl ?_
            refine xP_s rfl rfl rfl ?_
            refine xP_s rfl rfl rfl ?_
            exact q_qGo (ex := [(5, .int (nI c)), (6, .int (nI (oz r 0)))]) rfl go
          · have z4 := xc_f b3
            dsimp only at z4
            omega
        · have z2 := xc_f b2
          dsimp only at z2
          have ec : c = 92 := by omega
          refine xP_s rfl rfl rfl ?_
          refine xP_s rfl rfl rfl ?_
          refine xP_s rfl rfl rfl ?_
          refine xP_s rfl rfl rfl ?_
          refine xP_s rfl rfl rfl ?_
          refine q_qKeep hB hw (by omega) hlt1 (fun v1 a1 z1 y2 z3 => ?_)
          have hv1 : vS v v1 [20, 25] := y2.wide (by decide)
          have fin := k0 (upd v1 20 7) a1 (i + 2) _ (by rw [ec]; exact strq_b) (by omega) (z1.same (vS.u _ _ _) (aS.refl _ []) (by decide) (by decide)) (hv1.up (by decide)) upd_s z3
          rw [← nI_p2 i] at fin
          refine xP_s rfl rfl rfl ?_
          refine xP_s rfl rfl rfl ?_
          refine xP_s rfl rfl rfl ?_
          refine xP_s rfl rfl rfl ?_
          refine xP_zp rfl hB rfl rfl ?_
          refine xP_s rfl rfl rfl ?_
          refine xP_s rfl rfl rfl ?_
          exact q_qWrong (ex := [(5, .int (nI c)), (6, .int (nI (oz r 0))), (7, .int 0)]) rfl hB upd_s fin
      · have z := xc_f b1
        dsimp only at z
        have ec : c = 34 := by omega
        have fin := k1 v a ([], r) (by rw [ec]; exact strq_e) (by rw [List.append_nil]; exact hw) (vS.refl _ _) h20 (aS.refl _ _) (by dsimp only; omega)
        dsimp only at fin
        rw [show t.length - r.length = i + 1 by omega, ← nI_p1 i] at fin
        refine xP_s rfl rfl rfl ?_
        refine xP_s rfl rfl rfl ?_
        refine xP_s rfl rfl rfl ?_
        refine xP_s rfl rfl rfl ?_
        refine xP_s rfl rfl rfl ?_
        refine xP_s rfl rfl rfl ?_
        refine xP_s rfl rfl rfl ?_
        exact q_qEnd (ex := [(5, .int (nI c)), (6, .int (nI (oz r 0)))]) rfl fin
    · have z := xc_f hq
      dsimp only at z
      omega
def qTk (r : List Nat) : xTok := match qt 120 r with
  | some q => if q.1.length ≤ 24 then (1, 0, q.1, q.2) else wrg
  | none => wrg
def sTk (r : List Nat) : xTok := match strq r with
  | some q => if q.1.length ≤ 12 then (4, 0, q.1, q.2) else wrg
  | none => wrg
theorem zK_4 {v' : Nat → Int32} {a' : Nat → Nat → Int32} {i : Nat} {w s : List Nat} (hi : i ≤ t.length) (h120 : t.length ≤ 120) (hs : s.length + i = t.length) (h20 : v' 20 = 3) (h22 : v' 22 = nI i) (hw : zH v' a' w) : zK t v' a' (4, 0, w, s) :=
  ⟨by simp, h20, ⟨i, by omega, h22, fun _ => by dsimp only; omega⟩, fun _ => hw, fun h => absurd h (by simp)⟩
set_option maxHeartbeats 4000000 in
set_option maxRecDepth 100000 in
theorem q_quotes39 {p : Nat} {r : List Nat} {v : Nat → Int32} {a : Nat → Nat → Int32} (hB : B.length = 28) (ht : zT v a t) (hd : t.drop p = 39 :: r) (hp : p ≤ t.length) (hw : zH v a [])
    (k : ∀ v' a', zK t v' a' (qTk r) → v' 24 = 1 → vS v v' [20, 22, 24, 25] → aS a a' [42] → P (.inl none) (mH B C v' a' o, g)) : xM1 sc (d + 1) 162 [.ref 28, .int (nI p), .int 39] (mH B C v a o, g) P := by
  have h120 := ht.2.1
  have hl := drop_l2 hd hp
  rw [List.length_cons] at hl
  obtain ⟨hd1, hp1⟩ := drop_c hd
  have hlim : (24 : Int32).toInt = 24 := rfl
  unfold xM1
  refine xP_s rfl rfl rfl ?_
  refine xP_s rfl rfl rfl ?_
  refine xP_s rfl rfl rfl ?_
  refine xP_s rfl rfl rfl ?_
  refine xP_s rfl rfl rfl ?_
  refine xP_s rfl rfl rfl ?_
  refine xP_s rfl rfl rfl ?_
  refine xP_s rfl rfl rfl ?_
  refine xP_s rfl rfl rfl ?_
  refine xP_s rfl rfl rfl ?_
  refine xP_s rfl rfl rfl ?_
  refine xP_zp rfl hB rfl rfl ?_
  refine xP_s rfl rfl rfl ?_
  refine xP_s rfl rfl rfl ?_
  refine xP_zp rfl hB rfl rfl ?_
  have hv2 : vS v (upd (upd v 20 4) 24 1) [20, 24] := ((vS.u v 20 4).wide (by decide)).up (by decide)
  have e20 : upd (upd v 20 4) 24 1 20 = 4 := by rw [upd_n (by decide), upd_s]
  have e24 : upd (upd v 20 4) 24 1 24 = 1 := upd_s
  generalize upd (upd v 20 4) 24 1 = v1 at *
  have ht1 : zT v1 a t := ht.same hv2 (aS.refl _ []) (by decide) (by decide)
  have hw1 : zH v1 a [] := hw.same hv2 (aS.refl _ []) (by decide) (by decide)
  rw [nI_p1]
  refine q_qt39 hB 120 r (p + 1) v1 a [] (by omega) ht1 hd1 hp1 hw1 (by rw [List.length_nil]; omega) e20 (fun v' a' q y1 y2 y3 y4 y5 y6 => ?_) (fun v' a' i' w' y1 y2 y3 y4 y5 y6 => ?_)
  · rw [List.nil_append] at y2
    have f4 : vS v v' [20, 22, 24, 25] := (hv2.wide (by decide)).trans (y3.wide (by decide))
    have g24 : v' 24 = 1 := by rw [y3 24 (by decide)]; exact e24
    have hql := y2.2.1
    have hQ := toI q.1.length (by omega)
    refine xP_s rfl rfl rfl ?_
    refine xP_s rfl rfl rfl ?_
    refine xP_zp rfl hB rfl rfl ?_
    refine xP_s rfl rfl rfl ?_
    refine xP_zg rfl hB rfl ((upd_n (by decide)).trans y2.1) ?_
    refine xP_s rfl rfl rfl ?_
    refine xP_s rfl rfl rfl ?_
    refine xP_s rfl rfl rfl ?_
    refine xP_s rfl rfl rfl ?_
    refine xP_s rfl rfl rfl ?_
    refine xP_if (fun b1 => ?_) (fun b1 => ?_)
    · have z := xc_t b1
      dsimp only at z
      have e : qTk r = (1, 0, q.1, q.2) := by
        unfold qTk
        rw [y1]
        dsimp only
        rw [if_pos (by omega)]
      rw [e] at k
      repeat' first
        | refine xP_s rfl rfl rfl ?_
        | refine xP_ret rfl rfl rfl ?_
      exact k _ _ (zK_1 (i := t.length - q.2.length) (by omega) h120 (by omega) ((upd_n (by decide)).trans y4) upd_s (y2.same (vS.u _ _ _) (aS.refl _ []) (by decide) (by decide))) ((upd_n (by decide)).trans g24) (f4.up (by decide)) y5
    · have z := xc_f b1
      dsimp only at z
      have e : qTk r = wrg := by
        unfold qTk
        rw [y1]
        dsimp only
        rw [if_neg (by omega)]
      rw [e] at k
      refine xP_s rfl rfl rfl ?_
      refine xP_s rfl rfl rfl ?_
      refine xP_zp rfl hB rfl rfl ?_
      repeat' first
        | refine xP_s rfl rfl rfl ?_
        | refine xP_ret rfl rfl rfl ?_
      exact k _ _ (zK_7 (i := t.length - q.2.length) (by omega) upd_s ((upd_n (by decide)).trans upd_s)) ((upd_n (by decide)).trans ((upd_n (by decide)).trans g24)) ((f4.up (by decide)).up (by decide)) y5
  · have f4 : vS v v' [20, 22, 24, 25] := (hv2.wide (by decide)).trans (y4.wide (by decide))
    have g24 : v' 24 = 1 := by rw [y4 24 (by decide)]; exact e24
    have e : qTk r = wrg := by
      unfold qTk
      rw [y1]
    rw [e] at k
    refine xP_s rfl rfl rfl ?_
    refine xP_s rfl rfl rfl ?_
    refine xP_zp rfl hB rfl rfl ?_
    refine xP_s rfl rfl rfl ?_
    refine xP_zg rfl hB rfl ((upd_n (by decide)).trans y3.1) ?_
    refine xP_s rfl rfl rfl ?_
    refine xP_s rfl rfl rfl ?_
    refine xP_s rfl rfl rfl ?_
    refine xP_s rfl rfl rfl ?_
    refine xP_s rfl rfl rfl ?_
    refine xP_if (fun b1 => ?_) (fun b1 => ?_)
    · repeat' first
        | refine xP_s rfl rfl rfl ?_
        | refine xP_ret rfl rfl rfl ?_
      exact k _ _ (zK_7 (i := i') (by omega) ((upd_n (by decide)).trans y5) upd_s) ((upd_n (by decide)).trans g24) (f4.up (by decide)) y6
    · refine xP_s rfl rfl rfl ?_
      refine xP_s rfl rfl rfl ?_
      refine xP_zp rfl hB rfl rfl ?_
      repeat' first
        | refine xP_s rfl rfl rfl ?_
        | refine xP_ret rfl rfl rfl ?_
      exact k _ _ (zK_7 (i := i') (by omega) upd_s ((upd_n (by decide)).trans upd_s)) ((upd_n (by decide)).trans ((upd_n (by decide)).trans g24)) ((f4.up (by decide)).up (by decide)) y6
set_option maxHeartbeats 4000000 in
set_option maxRecDepth 100000 in
theorem q_quotes34 {p : Nat} {r : List Nat} {v : Nat → Int32} {a : Nat → Nat → Int32} (hB : B.length = 28) (ht : zT v a t) (hd : t.drop p = 34 :: r) (hp : p ≤ t.length) (hw : zH v a [])
    (k : ∀ v' a', zK t v' a' (sTk r) → v' 24 = 1 → vS v v' [20, 22, 24, 25] → aS a a' [42] → P (.inl none) (mH B C v' a' o, g)) : xM1 sc (d + 1) 162 [.ref 28, .int (nI p), .int 34] (mH B C v a o, g) P := by
  have h120 := ht.2.1
  have hl := drop_l2 hd hp
  rw [List.length_cons] at hl
  obtain ⟨hd1, hp1⟩ := drop_c hd
  have hlim : (12 : Int32).toInt = 12 := rfl
  unfold xM1
  refine xP_s rfl rfl rfl ?_
  refine xP_s rfl rfl rfl ?_
  refine xP_s rfl rfl rfl ?_
  refine xP_s rfl rfl rfl ?_
  refine xP_s rfl rfl rfl ?_
  refine xP_s rfl rfl rfl ?_
  refine xP_s rfl rfl rfl ?_
  refine xP_s rfl rfl rfl ?_
  refine xP_s rfl rfl rfl ?_
  refine xP_s rfl rfl rfl ?_
  refine xP_s rfl rfl rfl ?_
  refine xP_s rfl rfl rfl ?_
  refine xP_zp rfl hB rfl rfl ?_
  refine xP_s rfl rfl rfl ?_
  refine xP_s rfl rfl rfl ?_
  refine xP_zp rfl hB rfl rfl ?_
  have hv2 : vS v (upd (upd v 20 3) 24 1) [20, 24] := ((vS.u v 20 3).wide (by decide)).up (by decide)
  have e20 : upd (upd v 20 3) 24 1 20 = 3 := by rw [upd_n (by decide), upd_s]
  have e24 : upd (upd v 20 3) 24 1 24 = 1 := upd_s
  generalize upd (upd v 20 3) 24 1 = v1 at *
  have ht1 : zT v1 a t := ht.same hv2 (aS.refl _ []) (by decide) (by decide)
  have hw1 : zH v1 a [] := hw.same hv2 (aS.refl _ []) (by decide) (by decide)
  rw [nI_p1]
  refine q_qt34 hB r (p + 1) v1 a [] ht1 hd1 hp1 hw1 (by rw [List.length_nil]; omega) e20 (fun v' a' q y1 y2 y3 y4 y5 y6 => ?_) (fun v' a' i' w' y1 y2 y3 y4 y5 y6 => ?_)
  · rw [List.nil_append] at y2
    have f4 : vS v v' [20, 22, 24, 25] := (hv2.wide (by decide)).trans (y3.wide (by decide))
    have g24 : v' 24 = 1 := by rw [y3 24 (by decide)]; exact e24
    have hql := y2.2.1
    have hQ := toI q.1.length (by omega)
    refine xP_s rfl rfl rfl ?_
    refine xP_s rfl rfl rfl ?_
    refine xP_zp rfl hB rfl rfl ?_
    refine xP_s rfl rfl rfl ?_
    refine xP_zg rfl hB rfl ((upd_n (by decide)).trans y2.1) ?_
    refine xP_s rfl rfl rfl ?_
    refine xP_s rfl rfl rfl ?_
    refine xP_s rfl rfl rfl ?_
    refine xP_s rfl rfl rfl ?_
    refine xP_s rfl rfl rfl ?_
    refine xP_s rfl rfl rfl ?_
    refine xP_if (fun b1 => ?_) (fun b1 => ?_)
    · have z := xc_t b1
      dsimp only at z
      have e : sTk r = (4, 0, q.1, q.2) := by
        unfold sTk
        rw [y1]
        dsimp only
        rw [if_pos (by omega)]
      rw [e] at k
      repeat' first
        | refine xP_s rfl rfl rfl ?_
        | refine xP_ret rfl rfl rfl ?_
      exact k _ _ (zK_4 (i := t.length - q.2.length) (by omega) h120 (by omega) ((upd_n (by decide)).trans y4) upd_s (y2.same (vS.u _ _ _) (aS.refl _ []) (by decide) (by decide))) ((upd_n (by decide)).trans g24) (f4.up (by decide)) y5
    · have z := xc_f b1
      dsimp only at z
      have e : sTk r = wrg := by
        unfold sTk
        rw [y1]
        dsimp only
        rw [if_neg (by omega)]
      rw [e] at k
      refine xP_s rfl rfl rfl ?_
      refine xP_s rfl rfl rfl ?_
      refine xP_zp rfl hB rfl rfl ?_
      repeat' first
        | refine xP_s rfl rfl rfl ?_
        | refine xP_ret rfl rfl rfl ?_
      exact k _ _ (zK_7 (i := t.length - q.2.length) (by omega) upd_s ((upd_n (by decide)).trans upd_s)) ((upd_n (by decide)).trans ((upd_n (by decide)).trans g24)) ((f4.up (by decide)).up (by decide)) y5
  · have f4 : vS v v' [20, 22, 24, 25] := (hv2.wide (by decide)).trans (y4.wide (by decide))
    have g24 : v' 24 = 1 := by rw [y4 24 (by decide)]; exact e24
    have e : sTk r = wrg := by
      unfold sTk
      rw [y1]
    rw [e] at k
    refine xP_s rfl rfl rfl ?_
    refine xP_s rfl rfl rfl ?_
    refine xP_zp rfl hB rfl rfl ?_
    refine xP_s rfl rfl rfl ?_
    refine xP_zg rfl hB rfl ((upd_n (by decide)).trans y3.1) ?_
    refine xP_s rfl rfl rfl ?_
    refine xP_s rfl rfl rfl ?_
    refine xP_s rfl rfl rfl ?_
    refine xP_s rfl rfl rfl ?_
    refine xP_s rfl rfl rfl ?_
    refine xP_s rfl rfl rfl ?_
    refine xP_if (fun b1 => ?_) (fun b1 => ?_)
    · repeat' first
        | refine xP_s rfl rfl rfl ?_
        | refine xP_ret rfl rfl rfl ?_
      exact k _ _ (zK_7 (i := i') (by omega) ((upd_n (by decide)).trans y5) upd_s) ((upd_n (by decide)).trans g24) (f4.up (by decide)) y6
    · refine xP_s rfl rfl rfl ?_
      refine xP_s rfl rfl rfl ?_
      refine xP_zp rfl hB rfl rfl ?_
      repeat' first
        | refine xP_s rfl rfl rfl ?_
        | refine xP_ret rfl rfl rfl ?_
      exact k _ _ (zK_7 (i := i') (by omega) upd_s ((upd_n (by decide)).trans upd_s)) ((upd_n (by decide)).trans ((upd_n (by decide)).trans g24)) ((f4.up (by decide)).up (by decide)) y6
end MY
