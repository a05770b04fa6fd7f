-- the reference: isTerm, write, written, again
def zG (v : Nat → Int32) (a : Nat → Nat → Int32) (wr : List Nat) : Prop := v 42 = nI wr.length ∧ wr.length ≤ 2600 ∧ ∀ (i c : Nat), wr[i]? = some c → c < 128 ∧ a 52 i = nI c
theorem zG.same {v v' : Nat → Int32} {a a' : Nat → Nat → Int32} {w l m : List Nat} (h : zG v a w) (hv : vS v v' l) (ha : aS a a' m) (h1 : 42 ∉ l) (h2 : 52 ∉ m) : zG v' a' w := by
  unfold zG at h ⊢
  rw [hv 42 h1, ha 52 h2]
  exact h
theorem zW.same {t : List Nat} {sl : List xSl} {v v' : Nat → Int32} {a a' : Nat → Nat → Int32} {o : Nat → Int64} {N : List (List Nat)} {Ts : List (List xIt)} (h : zW t sl v a o N Ts) (hv : vS v v' [0, 37, 40, 42]) (ha : aS a a' [49, 50, 51, 52]) : zW t sl v' a' o N Ts := by
  obtain ⟨h1, h2, h3, h4, h5⟩ := h
  exact ⟨h1.same hv ha (by decide) (by decide), h2.same hv ha (by decide) (by decide) (by decide) (by decide) (by decide), h3.same hv ha (by decide) (by decide) (by decide) (by decide) (by decide), h4.same hv ha (by decide) (by decide) (by decide) (by decide), h5.same hv ha (by decide) (by decide)⟩
section WN2
variable {sc : xSc} {d g : Nat} {B C : List xC} {o : Nat → Int64} {P : xO → xH → Prop} {v : Nat → Int32} {a : Nat → Nat → Int32} {N : List (List Nat)} {Ts : List (List xIt)} {t : List Nat} {sl : List xSl} {x : Int32}
def isT (Ts : List (List xIt)) (x : Int32) : Bool := decide (0 ≤ x.toInt ∧ x.toInt < Ts.length)
set_option maxRecDepth 100000 in
theorem q_isTerm (hB : B.length = 28) (hm : zM v a Ts) (k : P (.inl (some (.int (xb (isT Ts x))))) (mH B C v a o, g)) : xM1 sc d 178 [.ref 28, .int x] (mH B C v a o, g) P := by
  have h40 := hm.2.1
  have hL := toI Ts.length (by omega)
  have c0 : (0 : Int32).toInt = 0 := rfl
  unfold xM1
  refine xP_s rfl rfl rfl ?_
  refine xP_s rfl rfl rfl ?_
  refine xP_if (fun y1 => ?_) (fun y1 => ?_)
  · have q := xc_t y1
    dsimp only at q
    have e : isT Ts x = false := decide_eq_false (fun h => by omega)
    rw [e] at k
    repeat' first
      | refine xP_s rfl rfl rfl ?_
      | refine xP_ret rfl rfl rfl ?_
    exact k
  · have q := xc_f y1
    dsimp only at q
    refine xP_s rfl rfl rfl ?_
    refine xP_s rfl rfl rfl ?_
    refine xP_zg rfl hB rfl hm.1 ?_
    refine xP_s rfl rfl rfl ?_
    refine xP_if (fun y2 => ?_) (fun y2 => ?_)
    · have q2 := xc_t y2
      dsimp only at q2
      have e : isT Ts x = false := decide_eq_false (fun h => by omega)
      rw [e] at k
      repeat' first
        | refine xP_s rfl rfl rfl ?_
        | refine xP_ret rfl rfl rfl ?_
      exact k
    · have q2 := xc_f y2
      dsimp only at q2
      have e : isT Ts x = true := decide_eq_true (by omega)
      rw [e] at k
      repeat' first
        | refine xP_s rfl rfl rfl ?_
        | refine xP_ret rfl rfl rfl ?_
      exact k
-- what is shown is copied
set_option maxRecDepth 100000 in
theorem q_copy {x1 : Int32} {w : List Nat} (hB : B.length = 28) (hw : w.length ≤ 2600) : ∀ (m k : Nat) (v : Nat → Int32) (a : Nat → Nat → Int32), zX v a w → k + m = w.length → (∀ j c : Nat, j < k → w[j]? = some c → a 52 j = nI c) →
    (∀ a', aS a a' [52] → (∀ j c : Nat, w[j]? = some c → a' 52 j = nI c) → P (.inl (some (.int (nI w.length)))) (mH B C v a' o, g)) →
    xP sc d 193 154 [(0, .ref 28), (1, .int x1), (2, .int (nI k))] [] (mH B C v a o, g) P
  | 0, k, v, a, hx, hm, he, kk => by
    have hK := toI k (by omega)
    have hL := toI w.length (by omega)
    have k2 := kk a (aS.refl _ _) (fun j c hj => he j c (by have := (List.getElem?_eq_some_iff.mp hj).1; omega) hj)
    refine xP_s rfl rfl rfl ?_
    refine xP_s rfl rfl rfl ?_
    refine xP_zg rfl hB rfl hx.1 ?_
    refine xP_s rfl rfl rfl ?_
    refine xP_if (fun z => ?_) (fun z => ?_)
    · refine xP_s rfl rfl rfl ?_
      refine xP_zg rfl hB rfl hx.1 ?_
      repeat' first
        | refine xP_s rfl rfl rfl ?_
        | refine xP_ret rfl rfl rfl ?_
      exact k2
    · have q := xc_f z
      dsimp only at q
      omega
  | m + 1, k, v, a, hx, hm, he, kk => by
    have hK := toI k (by omega)
    have hL := toI w.length (by omega)
    obtain ⟨c, hc⟩ : ∃ c, w[k]? = some c := ⟨w[k]'(by omega), List.getElem?_eq_getElem (by omega)⟩
    have go := q_copy (x1 := x1) hB hw m (k + 1) v (uA a 52 (upd (a 52) k (nI c))) (hx.same (vS.refl _ []) (aS.u _ _ _) (by decide) (by decide)) (by omega) (fun j c' hj hc' => by
      rw [uA_s]
      rcases Nat.lt_or_ge j k with y | y
      · rw [upd_n (by omega)]
        exact he j c' y hc'
      · have ej : j = k := by omega
        rw [ej, upd_s]
        rw [ej, hc] at hc'
        cases hc'
        rfl) (fun a' q1 q3 => kk a' ((aS.u _ _ _).trans q1) q3)
    rw [← nI_p1 k] at go
    refine xP_s rfl rfl rfl ?_
    refine xP_s rfl rfl rfl ?_
    refine xP_zg rfl hB rfl hx.1 ?_
    refine xP_s rfl rfl rfl ?_
    refine xP_if (fun z => ?_) (fun z => ?_)
    · have q := xc_t z
      dsimp only at q
      omega
    · refine xP_s rfl rfl rfl ?_
      refine xP_get rfl (mH_28 hB) rfl ?_
      refine xP_s rfl rfl rfl ?_
      refine xP_s rfl rfl rfl ?_
      refine xP_get rfl (mH_28 hB) rfl ?_
      refine xP_s rfl rfl rfl ?_
      refine xP_zl (n := 2600) rfl hB rfl rfl (by omega) (hx.2.2 k c hc).2 ?_
      refine xP_zs (n := 2600) rfl hB rfl rfl (by omega) ?_
      refine xP_s rfl rfl rfl ?_
      refine xP_s rfl rfl rfl ?_
      exact go
theorem tk_fl {i : Nat} {L : List xIt} (h : Ts[i]? = some L) : Ts.flatten.drop (Ts.take i).flatten.length = L ++ (Ts.drop (i + 1)).flatten ∧ (Ts.take (i + 1)).flatten.length = (Ts.take i).flatten.length + L.length := by
  have hi := (List.getElem?_eq_some_iff.mp h).1
  have e1 : Ts[i]'hi = L := by
    have := List.getElem?_eq_getElem (l := Ts) hi
    rw [h] at this
    exact (Option.some.inj this).symm
  have e2 : Ts = Ts.take i ++ L :: Ts.drop (i + 1) := by
    rw [← e1, ← List.drop_eq_getElem_cons hi, List.take_append_drop]
  constructor
  · conv => lhs; rw [e2]
    rw [List.flatten_append, List.take_append_of_le_length (by rw [List.length_take]; omega), List.take_take, Nat.min_self, List.drop_left, List.flatten_cons]
  · rw [List.take_add_one, h]
    simp
set_option maxHeartbeats 4000000 in
set_option maxRecDepth 100000 in
theorem q_write (hB : B.length = 28) (hW : zW t sl v a o N Ts) (hQ : Ts.flatten.length ≤ 600) (hpr : ∀ e ∈ sl, 1 ≤ e.2.1 ∧ e.2.1 ≤ 1200) (h46 : ∀ e ∈ sl, ¬ e.1 = 46) (h32 : ∀ e ∈ sl, ¬ e.1 = 32123) (hT : ∀ L ∈ Ts, trP 14 L ∧ okL anyN L ∧ cstL L ≤ 1200)
    (k0 : isT Ts x = false → ∀ v' a', zW t sl v' a' o N Ts → v' 0 = 1 → vS v v' [0] → aS a a' [] → P (.inl (some (.int 0))) (mH B C v' a' o, g))
    (k1 : ∀ L w, 0 ≤ x.toInt → Ts[x.toInt.toNat]? = some L → (∀ R, wrt sl 14 1200 (L ++ R) = (w, R)) → w.length ≤ 1200 → ∀ v' a', zW t sl v' a' o N Ts → zG v' a' w → v' 0 = 0 → vS v v' [0, 37, 40, 42] → aS a a' [49, 50, 51, 52] → P (.inl (some (.int (nI w.length)))) (mH B C v' a' o, g)) : xM1 sc (d + 6) 193 [.ref 28, .int x] (mH B C v a o, g) P := by
  have hm := hW.2.2.2.2
  have hn := hW.2.2.1
  have h40 := hm.2.1
  have c0 : (0 : Int32).toInt = 0 := rfl
  unfold xM1
  refine xP_s rfl rfl rfl ?_
  refine xP_s rfl rfl rfl ?_
  refine xP_s rfl rfl rfl ?_
  refine xP_cv rfl rfl rfl rfl rfl (mH_28 hB) (q_isTerm hB hm ?_)
  cases ht : isT Ts x with
  | false =>
    have k0 := k0 ht
    refine xP_s rfl rfl rfl ?_
    refine xP_s rfl rfl rfl ?_
    refine xP_zp rfl hB rfl rfl ?_
    refine xP_s rfl rfl rfl ?_
    refine xP_zg rfl hB rfl upd_s ?_
    have kk := k0 (upd v 0 1) a (hW.same ((vS.u _ _ _).wide (by decide)) (aS.refl _ _)) upd_s (vS.u _ _ _) (aS.refl _ _)
    repeat' first
      | refine xP_s rfl rfl rfl ?_
      | refine xP_ret rfl rfl rfl ?_
    exact kk
  | true =>
    have ht' : 0 ≤ x.toInt ∧ x.toInt < Ts.length := of_decide_eq_true ht
    have hil : x.toInt.toNat < Ts.length := by omega
    have ex : x = nI x.toInt.toNat := i_nat rfl ht'.1 (by omega)
    obtain ⟨L, hL⟩ : ∃ L, Ts[x.toInt.toNat]? = some L := ⟨Ts[x.toInt.toNat]'hil, List.getElem?_eq_getElem hil⟩
    obtain ⟨hT1, hT2, hT3⟩ := hT L (List.mem_of_getElem? hL)
    obtain ⟨w, hw⟩ := wrt_X (al := anyN) h46 trivial 14 14 L hT1 (Nat.le_refl _) (by decide) hT2 1200
    have hwl : w.length ≤ 1200 := by have := hw.2.1; omega
    have k1 := k1 L w ht'.1 hL hw.1 hwl
    obtain ⟨hdr, _⟩ := tk_fl hL
    have hg := hm.2.2 x.toInt.toNat (by omega)
    generalize hi : x.toInt.toNat = i at ex hL hdr hg hil
    refine xP_s rfl rfl rfl ?_
    refine xP_s rfl rfl rfl ?_
    refine xP_s rfl rfl rfl ?_
    refine xP_zp rfl hB rfl rfl ?_
    refine xP_s rfl rfl rfl ?_
    refine xP_zg rfl hB rfl upd_s ?_
    refine xP_s rfl rfl rfl ?_
    refine xP_s rfl rfl rfl ?_
    refine xP_s rfl rfl rfl ?_
    refine xP_zp rfl hB rfl rfl ?_
    refine xP_s rfl rfl rfl ?_
    refine xP_s rfl rfl rfl ?_
    refine xP_zp rfl hB rfl rfl ?_
    have f3 : vS v (upd (upd (upd v 0 0) 40 0) 37 0) [0, 37, 40, 42] := (((vS.u v 0 0).wide (by decide)).up (by decide)).up (by decide)
    have i40 : upd (upd (upd v 0 0) 40 0) 37 0 40 = nI 0 := by rw [upd_n (by decide), upd_s]; rfl
    have i37 : upd (upd (upd v 0 0) 40 0) 37 0 37 = nI 0 := by rw [upd_s]; rfl
    have i0 : upd (upd (upd v 0 0) 40 0) 37 0 0 = 0 := by rw [upd_n (by decide), upd_n (by decide), upd_s]
    generalize upd (upd (upd v 0 0) 40 0) 37 0 = v1 at *
    have hW1 := hW.same f3 (aS.refl a _)
    have hY1 : zY sl N Ts.flatten v1 a o [] [] := ⟨hW1.2.1, hW1.2.2.1, hW1.2.2.2.1, ⟨i37, trivial, by decide⟩, ⟨i40, by decide, fun i c h => by cases h⟩⟩
    refine xP_s rfl rfl rfl ?_
    refine xP_s rfl rfl rfl ?_
    refine xP_get rfl (mH_28 hB) rfl ?_
    refine xP_s rfl rfl rfl ?_
    rw [ex]
    refine xP_zl (n := 41) rfl hB rfl rfl (by omega) hg ?_
    refine xP_s rfl rfl rfl ?_
    refine xP_cv rfl rfl rfl rfl rfl (mH_28 hB) (y_later hB hY1 (by decide) (fun v2 a2 y1 y2 y3 => ?_))
    -- the pile is empty: what is shown is copied
    have hend : KH sc d g B C o P sl N Ts.flatten (nI i) v2 a2 [] w := by
      intro v3 a3 hY3 fv fa
      have h37 : v3 37 = 0 := hY3.2.2.2.1.1
      have hx3 := hY3.2.2.2.2
      refine xP_s rfl rfl rfl ?_
      refine xP_zg rfl hB rfl h37 ?_
      refine xP_s rfl rfl rfl ?_
      refine xP_s rfl rfl rfl ?_
      refine xP_s rfl rfl rfl ?_
      refine xP_zg rfl hB rfl hx3.1 ?_
      refine xP_zp rfl hB rfl rfl ?_
      refine xP_s rfl rfl rfl ?_
      refine xP_s rfl rfl rfl ?_
      have hx4 : zX (upd v3 42 (nI w.length)) a3 w := hx3.same (vS.u _ _ _) (aS.refl _ []) (by decide) (by decide)
      refine q_copy hB (by omega) w.length 0 _ a3 hx4 (by omega) (fun j c hj => by omega) (fun a4 u1 u2 => ?_)
      have fvA : vS v (upd v3 42 (nI w.length)) [0, 37, 40, 42] := ((f3.trans (y2.wide (by decide))).trans (fv.wide (by decide))).up (by decide)
      have faA : aS a a4 [49, 50, 51, 52] := ((y3.wide (by decide)).trans (fa.wide (by decide))).trans (u1.wide (by decide))
      refine k1 _ a4 (hW.same fvA faA) ⟨upd_s, by omega, fun j c hj => ⟨(hx3.2.2 j c hj).1, u2 j c hj⟩⟩ ?_ fvA faA
      rw [upd_n (by decide), fv 0 (by decide), y2 0 (by decide)]
      exact i0
    have hK := KH_C (sc := sc) (d := d) (g := g) (C := C) (o := o) (P := P) (x1 := nI i) (v0 := v2) (a0 := a2) hB hn.2.2.1 (by omega : Ts.flatten.length ≤ 1000) h46 h32
    have hPT := PT_all hK (by omega) hpr h46 h32 14 14 (Nat.le_refl _) (by decide)
    have eo : outY sl 14 1200 1200 (L ++ (Ts.drop (i + 1)).flatten) = w := by
      unfold outY
      rw [if_neg (by decide), hw.1]
    have hfin := hPT L (Ts.drop (i + 1)).flatten (Ts.take i).flatten.length 1200 1200 [] [] hT1 hT2 hdr (by decide) (fun e _ => by omega) (by decide) (by rw [eo, List.length_nil]; omega) (by rw [eo]; exact hend)
    exact hfin v2 a2 y1 (vS.refl _ _) (aS.refl _ _)
set_option maxRecDepth 100000 in
theorem q_written {wr : List Nat} (hB : B.length = 28) (hg : zG v a wr) (k : P (.inl (some (.int (if 0 ≤ x.toInt ∧ x.toInt < wr.length then nI (oz wr x.toInt.toNat) else -1)))) (mH B C (upd v 0 0) a o, g)) : xM1 sc d 194 [.ref 28, .int x] (mH B C v a o, g) P := by
  obtain ⟨g1, g2, g3⟩ := hg
  have hL := toI wr.length (by omega)
  have c0 : (0 : Int32).toInt = 0 := rfl
  unfold xM1
  refine xP_s rfl rfl rfl ?_
  refine xP_s rfl rfl rfl ?_
  refine xP_zp rfl hB rfl rfl ?_
  refine xP_s rfl rfl rfl ?_
  refine xP_s rfl rfl rfl ?_
  refine xP_if (fun y1 => ?_) (fun y1 => ?_)
  · have q := xc_t y1
    dsimp only at q
    rw [if_neg (by omega)] at k
    repeat' first
      | refine xP_s rfl rfl rfl ?_
      | refine xP_ret rfl rfl rfl ?_
    exact k
  · have q := xc_f y1
    dsimp only at q
    refine xP_s rfl rfl rfl ?_
    refine xP_s rfl rfl rfl ?_
    refine xP_zg rfl hB rfl ((upd_n (by decide)).trans g1) ?_
    refine xP_s rfl rfl rfl ?_
    refine xP_if (fun y2 => ?_) (fun y2 => ?_)
    · have q2 := xc_t y2
      dsimp only at q2
      rw [if_pos (by omega)] at k
      have hil : x.toInt.toNat < wr.length := by omega
      have ex : x = nI x.toInt.toNat := i_nat rfl (by omega) (by omega)
      obtain ⟨c, hc⟩ : ∃ c, wr[x.toInt.toNat]? = some c := ⟨wr[x.toInt.toNat]'hil, List.getElem?_eq_getElem hil⟩
      have e : oz wr x.toInt.toNat = c := by
        unfold oz
        rw [hc]
        rfl
      rw [e] at k
      have g4 := (g3 _ c hc).2
      generalize x.toInt.toNat = i at *
      refine xP_s rfl rfl rfl ?_
      refine xP_get rfl (mH_28 hB) rfl ?_
      refine xP_s rfl rfl rfl ?_
      rw [ex]
      refine xP_zl (n := 2600) rfl hB rfl rfl (by omega) g4 ?_
      repeat' first
        | refine xP_s rfl rfl rfl ?_
        | refine xP_ret rfl rfl rfl ?_
      exact k
    · have q2 := xc_f y2
      dsimp only at q2
      rw [if_neg (by omega)] at k
      repeat' first
        | refine xP_s rfl rfl rfl ?_
        | refine xP_ret rfl rfl rfl ?_
      exact k
end WN2
