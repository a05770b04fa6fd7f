-- the law: one call of each kind
abbrev lL (i : Nat) : xL := [(0, .ref 1000000000), (1, .ref 0), (2, .ref 28), (3, .ref 53), (4, .int (nI i))]
theorem xP_scl {sc : xSc} {d mi pc g : Nat} {ls : xL} {A : List xC} {P : xO → xH → Prop} {rest : List Value} {len r1 r2 r3 : Nat} {rv : Int32} {rk : Int64} {sw : List (Int32 × Nat)} {j : Nat} {x : Int32} (hrow : xrow mi pc = some (.iaload, len, r1, r2, r3, rv, rk, sw)) (hx : x = nI j) (hj : j < sc.1) (hs : sc.1 ≤ 2560)
    (kk : xP sc d mi (pc + 1) ls (.int (sc.2 j) :: rest) (A, g) P) : xP sc d mi pc ls (.int x :: .ref 1000000000 :: rest) (A, g) P := by
  refine xP_s hrow rfl ?_ kk
  rw [hx]
  have h1 : xib (nI j) sc.1 = true := xib_nI hj (by omega)
  have h2 : (nI j).toNatClampNeg = j := nI_clamp (by omega)
  simp [xs, xri, h1, h2]
theorem xP_out {sc : xSc} {d mi pc g : Nat} {ls : xL} {B : List xC} {v : Nat → Int32} {a : Nat → Nat → Int32} {o f : Nat → Int64} {P : xO → xH → Prop} {rest : List Value} {len r1 r2 r3 : Nat} {rv : Int32} {rk : Int64} {sw : List (Int32 × Nat)} {x : Int64} (hrow : xrow mi pc = some (.laload, len, r1, r2, r3, rv, rk, sw)) (hB : B.length = 28) (hf : f 0 = x)
    (kk : xP sc d mi (pc + 1) ls (.long x :: rest) (mH B [oC f] v a o, g) P) : xP sc d mi pc ls (.int 0 :: .ref 53 :: rest) (mH B [oC f] v a o, g) P := by
  refine xP_lal hrow (mH_o53 hB) rfl ?_
  rw [← hf] at kk
  exact kk
theorem lgc_s (x : Int64) : lg_cmp x x = 0 := Int32.toInt_inj.mp ((lgc0 x x).mpr rfl)
/-- what the reference keeps -/
def JR (v : Nat → Int32) (a : Nat → Nat → Int32) (o : Nat → Int64) (t : List Nat) (sl : List xSl) (Ts : List (List xIt × Nat)) (wr : List Nat) (N : List (List Nat)) : Prop := zW t sl v a o N (Ts.map Prod.fst) ∧ zOC v a o sl ∧ zG v a wr
def JA (m : Nat) (A : List xC) : Prop := ∃ (B : List xC) (f : Nat → Int64) (v : Nat → Int32) (a : Nat → Nat → Int32) (o : Nat → Int64) (t nm : List Nat) (sl : List xSl) (Ts : List (List xIt × Nat)) (wr : List Nat) (N X : List (List Nat)) (p b : List Nat), B.length = 28 ∧ A = mH B [oC f] v a o ∧ JC A t nm sl Ts wr ∧ JP t nm sl Ts wr N X p b m ∧ JR v a o t sl Ts wr N
section LW
variable {sc : xSc} {d g i m : Nat} {A B : List xC} {v v' : Nat → Int32} {a a' : Nat → Nat → Int32} {o o' : Nat → Int64} {f : Nat → Int64} {P : xO → xH → Prop} {t t' nm : List Nat} {sl sl' : List xSl} {Ts : List (List xIt × Nat)} {wr w : List Nat} {N X : List (List Nat)} {p b : List Nat}
theorem zOC.same {l k : List Nat} (h : zOC v a o sl) (hv : vS v v' l) (ha : aS a a' k) (h1 : 3 ∉ l) (h2 : 31 ∉ k) (h3 : 32 ∉ k) (h4 : 33 ∉ k) (h5 : 34 ∉ k) : zOC v' a' o sl := by
  unfold zOC zOb wtO at h ⊢
  rw [hv 3 h1, ha 31 h2, ha 32 h3, ha 33 h4, ha 34 h5]
  exact h
theorem zW.same2 {l k : List Nat} {Tm : List (List xIt)} (h : zW t sl v a o N Tm) (hv : vS v v' l) (ha : aS a a' k) (hl : (l.all fun j => !([1, 3, 9, 12, 16, 14].contains j)) = true) (hk : (k.all fun j => !([29, 31, 32, 33, 34, 35, 36, 37, 39, 40, 41, 38].contains j)) = true) : zW t sl v' a' o N Tm := by
  have nl : ∀ j, [1, 3, 9, 12, 16, 14].contains j = true → j ∉ l := fun j hj q => by
    have := List.all_eq_true.mp hl j q
    rw [hj] at this
    cases this
  have nk : ∀ j, [29, 31, 32, 33, 34, 35, 36, 37, 39, 40, 41, 38].contains j = true → j ∉ k := fun j hj q => by
    have := List.all_eq_true.mp hk j q
    rw [hj] at this
    cases this
  obtain ⟨h1, h2, h3, h4, h5⟩ := h
  exact ⟨h1.same hv ha (nl 1 rfl) (nk 29 rfl), h2.same hv ha (nl 3 rfl) (nk 31 rfl) (nk 32 rfl) (nk 33 rfl) (nk 34 rfl), h3.same hv ha (nl 9 rfl) (nl 12 rfl) (nk 35 rfl) (nk 36 rfl) (nk 37 rfl), h4.same hv ha (nl 16 rfl) (nk 39 rfl) (nk 40 rfl) (nk 41 rfl), h5.same hv ha (nl 14 rfl) (nk 38 rfl)⟩
theorem JR.same {l k : List Nat} (h : JR v a o t sl Ts wr N) (hv : vS v v' l) (ha : aS a a' k) (hl : (l.all fun j => !([1, 3, 9, 12, 16, 14].contains j)) = true) (hk : (k.all fun j => !([29, 31, 32, 33, 34, 35, 36, 37, 39, 40, 41, 38].contains j)) = true) (h42 : 42 ∉ l) (h52 : 52 ∉ k) : JR v' a' o t sl Ts wr N := by
  have nl : 3 ∉ l := fun q => by
    have := List.all_eq_true.mp hl 3 q
    cases this
  have nk : ∀ j, [29, 31, 32, 33, 34, 35, 36, 37, 39, 40, 41, 38].contains j = true → j ∉ k := fun j hj q => by
    have := List.all_eq_true.mp hk j q
    rw [hj] at this
    cases this
  exact ⟨h.1.same2 hv ha hl hk, h.2.1.same hv ha nl (nk 31 rfl) (nk 32 rfl) (nk 33 rfl) (nk 34 rfl), h.2.2.same hv ha h42 h52⟩
theorem JR.code (h : JR v a o t sl Ts wr N) (x : Int32) : JR (upd v 0 x) a o t sl Ts wr N := h.same (vS.u v 0 x) (aS.refl a []) rfl rfl (by decide) (by decide)
theorem JR.setT (h : JR v a o t sl Ts wr N) (ht : zT v' a' t') (hv : vS v v' [0, 1]) (ha : aS a a' [29]) : JR v' a' o t' sl Ts wr N := by
  obtain ⟨⟨h1, h2, h3, h4, h5⟩, h6, h7⟩ := h
  exact ⟨⟨ht, h2.same hv ha (by decide) (by decide) (by decide) (by decide) (by decide), h3.same hv ha (by decide) (by decide) (by decide) (by decide) (by decide), h4.same hv ha (by decide) (by decide) (by decide) (by decide), h5.same hv ha (by decide) (by decide)⟩, h6.same hv ha (by decide) (by decide) (by decide) (by decide) (by decide), h7.same hv ha (by decide) (by decide)⟩
theorem JR.setO (h : JR v a o t sl Ts wr N) (ho : zOC v' a' o' sl') (hv : vS v v' [0, 3]) (ha : aS a a' [31, 32, 33, 34]) : JR v' a' o' t sl' Ts wr N := by
  obtain ⟨⟨h1, h2, h3, h4, h5⟩, h6, h7⟩ := h
  obtain ⟨M, m1, m2⟩ := id ho
  exact ⟨⟨h1.same hv ha (by decide) (by decide), m1.zO, h3.same hv ha (by decide) (by decide) (by decide) (by decide) (by decide), h4.same hv ha (by decide) (by decide) (by decide) (by decide), h5.same hv ha (by decide) (by decide)⟩, ho, h7.same hv ha (by decide) (by decide)⟩
theorem JA.mk1 (hB : B.length = 28) (hJ : JC (mH B [oC f] v a o) t nm sl Ts wr) (hP : JP t nm sl Ts wr N X p b m) (hR : JR v' a' o' t sl Ts wr N) : JA m (mH B [oC f] v' a' o') := ⟨B, f, v', a', o', t, nm, sl, Ts, wr, N, X, p, b, hB, rfl, hJ.same (mH_same hB rfl rfl), hP, hR⟩
theorem cAt_oz {x : Int32} (hw : wr.length ≤ 2600) : cAt wr x = if 0 ≤ x.toInt ∧ x.toInt < wr.length then nI (oz wr x.toInt.toNat) else -1 := by
  unfold cAt oz
  by_cases h : 0 ≤ x.toInt
  · rw [if_pos h]
    cases hx : wr[x.toInt.toNat]? with
    | none =>
      have := List.getElem?_eq_none_iff.mp hx
      rw [if_neg (by omega)]
    | some c =>
      have := (List.getElem?_eq_some_iff.mp hx).1
      rw [if_pos (by omega)]
      rfl
  · rw [if_neg h, if_neg (by omega)]

set_option maxHeartbeats 1000000 in
set_option maxRecDepth 100000 in
theorem lw_text (hi : i + 5 ≤ sc.1) (hs : sc.1 ≤ 2560) (hJA : JA (m + 1) A) (nxt : ∀ A' g', g' ≤ g + 1 → JA m A' → xP sc (d + 130) 220 574 (lL i) [] (A', g') P) : xP sc (d + 130) 220 88 (lL i) [] (A, g) P := by
  obtain ⟨B, f, v, a, o, t, nm, sl, Ts, wr, N, X, p, b, hB, rfl, hJ, hP, hR⟩ := hJA
  have h0 := hJ.1
  have h0' := h0
  unfold xTo at h0'
  obtain ⟨_, _, ⟨_, _, _, _, _, _, _, ⟨w1, _⟩, _⟩, _⟩ := id hJ
  refine xP_s rfl rfl rfl ?_
  refine xP_s rfl rfl rfl ?_
  refine xP_s rfl rfl rfl ?_
  refine xP_s rfl rfl rfl ?_
  refine xP_s rfl rfl rfl ?_
  refine xP_scl rfl (nI_add i 1) (by omega) hs ?_
  refine xP_s rfl rfl rfl ?_
  refine xP_s rfl rfl rfl ?_
  refine xP_s rfl rfl rfl ?_
  refine xP_s rfl rfl rfl ?_
  refine xP_s rfl rfl rfl ?_
  refine xP_s rfl rfl rfl ?_
  refine xP_s rfl rfl rfl ?_
  refine xP_scl rfl (nI_add i 2) (by omega) hs ?_
  refine xP_s rfl rfl rfl ?_
  refine xP_s rfl rfl rfl ?_
  refine xP_s rfl rfl rfl ?_
  refine xP_s rfl rfl rfl ?_
  refine xP_cv rfl rfl rfl rfl rfl h0' (p_text h0 w1 (fun e => ?_) (fun e A' s1 s2 s3 => ?_))
  · refine xP_s rfl rfl rfl ?_
    refine xP_s rfl rfl rfl ?_
    refine xP_s rfl rfl rfl ?_
    refine xP_s rfl rfl rfl ?_
    refine xP_s rfl rfl rfl ?_
    refine xP_scl rfl (nI_add i 1) (by omega) hs ?_
    refine xP_s rfl rfl rfl ?_
    refine xP_s rfl rfl rfl ?_
    refine xP_s rfl rfl rfl ?_
    refine xP_s rfl rfl rfl ?_
    refine xP_s rfl rfl rfl ?_
    refine xP_s rfl rfl rfl ?_
    refine xP_s rfl rfl rfl ?_
    refine xP_scl rfl (nI_add i 2) (by omega) hs ?_
    refine xP_s rfl rfl rfl ?_
    refine xP_s rfl rfl rfl ?_
    refine xP_s rfl rfl rfl ?_
    refine xP_s rfl rfl rfl ?_
    refine xP_cv rfl rfl rfl rfl rfl (mH_28 hB) (q_text hB hR.1.1 (fun e2 => ?_) (fun e2 => ?_))
    · refine xP_s rfl rfl rfl ?_
      exact nxt _ g (by omega) (JA.mk1 hB hJ hP.less (hR.code 0))
    · rw [e] at e2
      cases e2
  · obtain ⟨B1, b1, b2⟩ := mH_of2 hB s3 rfl
    have hJ1 := hJ.setT s2 s3
    subst b2
    refine xP_s rfl rfl rfl ?_
    refine xP_s rfl rfl rfl ?_
    refine xP_s rfl rfl rfl ?_
    refine xP_s rfl rfl rfl ?_
    refine xP_s rfl rfl rfl ?_
    refine xP_scl rfl (nI_add i 1) (by omega) hs ?_
    refine xP_s rfl rfl rfl ?_
    refine xP_s rfl rfl rfl ?_
    refine xP_s rfl rfl rfl ?_
    refine xP_s rfl rfl rfl ?_
    refine xP_s rfl rfl rfl ?_
    refine xP_s rfl rfl rfl ?_
    refine xP_s rfl rfl rfl ?_
    refine xP_scl rfl (nI_add i 2) (by omega) hs ?_
    refine xP_s rfl rfl rfl ?_
    refine xP_s rfl rfl rfl ?_
    refine xP_s rfl rfl rfl ?_
    refine xP_s rfl rfl rfl ?_
    refine xP_cv rfl rfl rfl rfl rfl (mH_28 b1) (q_text b1 hR.1.1 (fun e2 => ?_) (fun e2 v' a' z1 z2 z3 z4 => ?_))
    · rw [e] at e2
      cases e2
    · refine xP_s rfl rfl rfl ?_
      exact nxt _ g (by omega) (JA.mk1 b1 hJ1 (hP.text e) (hR.setT z1 z3 z4))
theorem op_gd {x y : Int32} {s : Int64} (h : gSl sl) (hb : opBad x y s = false) (hx : ¬ x.toInt = 0) (hc : canS sl y.toInt.toNat (trm s) = true) : gSl (tellS sl x.toInt.toNat y.toInt.toNat (trm s)) := by
  unfold opBad at hb
  rw [Bool.or_eq_false_iff, decide_eq_false_iff_not] at hb
  have hop : opn (txt s) = true := by
    have := hb.2
    cases hq : opn (txt s) with
    | true => rfl
    | false =>
      rw [hq] at this
      cases this
  exact h.tell hc hop (by omega) (by omega) (by omega)
set_option maxHeartbeats 1000000 in
set_option maxRecDepth 100000 in
theorem lw_op (hi : i + 5 ≤ sc.1) (hs : sc.1 ≤ 2560) (hJA : JA (m + 1) A) (nxt : ∀ A' g', g' ≤ g + 1 → JA m A' → xP sc (d + 130) 220 574 (lL i) [] (A', g') P) : xP sc (d + 130) 220 145 (lL i) [] (A, g) P := by
  obtain ⟨B, f, v, a, o, t, nm, sl, Ts, wr, N, X, p, b, hB, rfl, hJ, hP, hR⟩ := hJA
  have h0 := hJ.1
  have h0' := h0
  unfold xTo at h0'
  refine xP_s rfl rfl rfl ?_
  refine xP_s rfl rfl rfl ?_
  refine xP_s rfl rfl rfl ?_
  refine xP_s rfl rfl rfl ?_
  refine xP_s rfl rfl rfl ?_
  refine xP_scl rfl (nI_add i 1) (by omega) hs ?_
  refine xP_s rfl rfl rfl ?_
  refine xP_s rfl rfl rfl ?_
  refine xP_s rfl rfl rfl ?_
  refine xP_s rfl rfl rfl ?_
  refine xP_scl rfl (nI_add i 2) (by omega) hs ?_
  refine xP_s rfl rfl rfl ?_
  refine xP_s rfl rfl rfl ?_
  refine xP_s rfl rfl rfl ?_
  refine xP_s rfl rfl rfl ?_
  refine xP_scl rfl (nI_add i 3) (by omega) hs ?_
  refine xP_s rfl rfl rfl ?_
  refine xP_s rfl rfl rfl ?_
  refine xP_s rfl rfl rfl ?_
  refine xP_s rfl rfl rfl ?_
  refine xP_s rfl rfl rfl ?_
  refine xP_s rfl rfl rfl ?_
  refine xP_s rfl rfl rfl ?_
  refine xP_scl rfl (nI_add i 4) (by omega) hs ?_
  refine xP_s rfl rfl rfl ?_
  refine xP_s rfl rfl rfl ?_
  refine xP_s rfl rfl rfl ?_
  refine xP_s rfl rfl rfl ?_
  refine xP_call rfl rfl rfl (h_op hB hJ (fun e => ?_) (fun e e2 B1 b1 hJ1 => ?_) (fun e e2 e3 => ?_) (fun e e2 e3 B1 b1 hJ1 => ?_))
  · refine xP_s rfl rfl rfl ?_
    refine xP_s rfl rfl rfl ?_
    refine xP_s rfl rfl rfl ?_
    refine xP_s rfl rfl rfl ?_
    refine xP_s rfl rfl rfl ?_
    refine xP_s rfl rfl rfl ?_
    refine xP_scl rfl (nI_add i 1) (by omega) hs ?_
    refine xP_s rfl rfl rfl ?_
    refine xP_s rfl rfl rfl ?_
    refine xP_s rfl rfl rfl ?_
    refine xP_s rfl rfl rfl ?_
    refine xP_scl rfl (nI_add i 2) (by omega) hs ?_
    refine xP_s rfl rfl rfl ?_
    refine xP_s rfl rfl rfl ?_
    refine xP_s rfl rfl rfl ?_
    refine xP_s rfl rfl rfl ?_
    refine xP_scl rfl (nI_add i 3) (by omega) hs ?_
    refine xP_s rfl rfl rfl ?_
    refine xP_s rfl rfl rfl ?_
    refine xP_s rfl rfl rfl ?_
    refine xP_s rfl rfl rfl ?_
    refine xP_s rfl rfl rfl ?_
    refine xP_s rfl rfl rfl ?_
    refine xP_s rfl rfl rfl ?_
    refine xP_scl rfl (nI_add i 4) (by omega) hs ?_
    refine xP_s rfl rfl rfl ?_
    refine xP_s rfl rfl rfl ?_
    refine xP_s rfl rfl rfl ?_
    refine xP_s rfl rfl rfl ?_
    refine xP_cv rfl rfl rfl rfl rfl (mH_28 hB) (q_op hB hR.2.1 hP.1.1 (fun y1 => ?_) (fun y1 y2 => ?_) (fun y1 y2 y3 => ?_) (fun y1 y2 y3 => ?_))
    · refine xP_s rfl rfl rfl ?_
      refine xP_cv rfl rfl rfl rfl rfl (mH_28 hB) (q_thrown hB upd_s ?_)
      have nx1 := xP_more [(5, .int 1)] rfl (nxt _ (g + 1) (by omega) (JA.mk1 hB hJ hP.less (hR.code 1)))
      refine xP_s rfl rfl rfl ?_
      refine xP_s rfl rfl rfl ?_
      refine xP_s rfl rfl rfl ?_
      exact nx1
    · exact absurd y1 (by rw [e]; decide)
    · exact absurd y1 (by rw [e]; decide)
    · exact absurd y1 (by rw [e]; decide)
  · refine xP_s rfl rfl rfl ?_
    refine xP_s rfl rfl rfl ?_
    refine xP_s rfl rfl rfl ?_
    refine xP_s rfl rfl rfl ?_
    refine xP_s rfl rfl rfl ?_
    refine xP_s rfl rfl rfl ?_
    refine xP_scl rfl (nI_add i 1) (by omega) hs ?_
    refine xP_s rfl rfl rfl ?_
    refine xP_s rfl rfl rfl ?_
    refine xP_s rfl rfl rfl ?_
    refine xP_s rfl rfl rfl ?_
    refine xP_scl rfl (nI_add i 2) (by omega) hs ?_
    refine xP_s rfl rfl rfl ?_
    refine xP_s rfl rfl rfl ?_
    refine xP_s rfl rfl rfl ?_
    refine xP_s rfl rfl rfl ?_
    refine xP_scl rfl (nI_add i 3) (by omega) hs ?_
    refine xP_s rfl rfl rfl ?_
    refine xP_s rfl rfl rfl ?_
    refine xP_s rfl rfl rfl ?_
    refine xP_s rfl rfl rfl ?_
    refine xP_s rfl rfl rfl ?_
    refine xP_s rfl rfl rfl ?_
    refine xP_s rfl rfl rfl ?_
    refine xP_scl rfl (nI_add i 4) (by omega) hs ?_
    refine xP_s rfl rfl rfl ?_
    refine xP_s rfl rfl rfl ?_
    refine xP_s rfl rfl rfl ?_
    refine xP_s rfl rfl rfl ?_
    refine xP_cv rfl rfl rfl rfl rfl (mH_28 b1) (q_op b1 hR.2.1 hP.1.1 (fun y1 => ?_) (fun y1 y2 => ?_) (fun y1 y2 y3 => ?_) (fun y1 y2 y3 => ?_))
    · exact absurd y1 (by rw [e]; decide)
    · intro v' a' o' z1 z2 z3 z4
      refine xP_s rfl rfl rfl ?_
      refine xP_cv rfl rfl rfl rfl rfl (mH_28 b1) (q_thrown b1 z3 ?_)
      have nx1 := xP_more [(5, .int 0)] rfl (nxt _ g (by omega) (JA.mk1 b1 hJ1 (hP.op hP.1.take) (hR.setO z1 z2 z4)))
      refine xP_s rfl rfl rfl ?_
      refine xP_s rfl rfl rfl ?_
      refine xP_s rfl rfl rfl ?_
      exact nx1
    · exact absurd e2 y2
    · exact absurd e2 y2
  · refine xP_s rfl rfl rfl ?_
    refine xP_s rfl rfl rfl ?_
    refine xP_s rfl rfl rfl ?_
    refine xP_s rfl rfl rfl ?_
    refine xP_s rfl rfl rfl ?_
    refine xP_s rfl rfl rfl ?_
    refine xP_scl rfl (nI_add i 1) (by omega) hs ?_
    refine xP_s rfl rfl rfl ?_
    refine xP_s rfl rfl rfl ?_
    refine xP_s rfl rfl rfl ?_
    refine xP_s rfl rfl rfl ?_
    refine xP_scl rfl (nI_add i 2) (by omega) hs ?_
    refine xP_s rfl rfl rfl ?_
    refine xP_s rfl rfl rfl ?_
    refine xP_s rfl rfl rfl ?_
    refine xP_s rfl rfl rfl ?_
    refine xP_scl rfl (nI_add i 3) (by omega) hs ?_
    refine xP_s rfl rfl rfl ?_
    refine xP_s rfl rfl rfl ?_
    refine xP_s rfl rfl rfl ?_
    refine xP_s rfl rfl rfl ?_
    refine xP_s rfl rfl rfl ?_
    refine xP_s rfl rfl rfl ?_
    refine xP_s rfl rfl rfl ?_
    refine xP_scl rfl (nI_add i 4) (by omega) hs ?_
    refine xP_s rfl rfl rfl ?_
    refine xP_s rfl rfl rfl ?_
    refine xP_s rfl rfl rfl ?_
    refine xP_s rfl rfl rfl ?_
    refine xP_cv rfl rfl rfl rfl rfl (mH_28 hB) (q_op hB hR.2.1 hP.1.1 (fun y1 => ?_) (fun y1 y2 => ?_) (fun y1 y2 y3 => ?_) (fun y1 y2 y3 => ?_))
    · exact absurd y1 (by rw [e]; decide)
    · exact absurd y2 e2
    · refine xP_s rfl rfl rfl ?_
      refine xP_cv rfl rfl rfl rfl rfl (mH_28 hB) (q_thrown hB upd_s ?_)
      have nx1 := xP_more [(5, .int 2)] rfl (nxt _ (g + 1) (by omega) (JA.mk1 hB hJ hP.less ((hR.code 0).code 2)))
      refine xP_s rfl rfl rfl ?_
      refine xP_s rfl rfl rfl ?_
      refine xP_s rfl rfl rfl ?_
      exact nx1
    · rw [e3] at y3
      cases y3
  · refine xP_s rfl rfl rfl ?_
    refine xP_s rfl rfl rfl ?_
    refine xP_s rfl rfl rfl ?_
    refine xP_s rfl rfl rfl ?_
    refine xP_s rfl rfl rfl ?_
    refine xP_s rfl rfl rfl ?_
    refine xP_scl rfl (nI_add i 1) (by omega) hs ?_
    refine xP_s rfl rfl rfl ?_
    refine xP_s rfl rfl rfl ?_
    refine xP_s rfl rfl rfl ?_
    refine xP_s rfl rfl rfl ?_
    refine xP_scl rfl (nI_add i 2) (by omega) hs ?_
    refine xP_s rfl rfl rfl ?_
    refine xP_s rfl rfl rfl ?_
    refine xP_s rfl rfl rfl ?_
    refine xP_s rfl rfl rfl ?_
    refine xP_scl rfl (nI_add i 3) (by omega) hs ?_
    refine xP_s rfl rfl rfl ?_
    refine xP_s rfl rfl rfl ?_
    refine xP_s rfl rfl rfl ?_
    refine xP_s rfl rfl rfl ?_
    refine xP_s rfl rfl rfl ?_
    refine xP_s rfl rfl rfl ?_
    refine xP_s rfl rfl rfl ?_
    refine xP_scl rfl (nI_add i 4) (by omega) hs ?_
    refine xP_s rfl rfl rfl ?_
    refine xP_s rfl rfl rfl ?_
    refine xP_s rfl rfl rfl ?_
    refine xP_s rfl rfl rfl ?_
    refine xP_cv rfl rfl rfl rfl rfl (mH_28 b1) (q_op b1 hR.2.1 hP.1.1 (fun y1 => ?_) (fun y1 y2 => ?_) (fun y1 y2 y3 => ?_) (fun y1 y2 y3 => ?_))
    · exact absurd y1 (by rw [e]; decide)
    · exact absurd y2 e2
    · rw [e3] at y3
      cases y3
    · intro v' a' o' z1 z2 z3 z4
      have gd : gSl _ := op_gd hP.1 e e2 e3
      refine xP_s rfl rfl rfl ?_
      refine xP_cv rfl rfl rfl rfl rfl (mH_28 b1) (q_thrown b1 z3 ?_)
      have nx1 := xP_more [(5, .int 0)] rfl (nxt _ g (by omega) (JA.mk1 b1 hJ1 (hP.op gd) (hR.setO z1 z2 z4)))
      refine xP_s rfl rfl rfl ?_
      refine xP_s rfl rfl rfl ?_
      refine xP_s rfl rfl rfl ?_
      exact nx1
set_option maxHeartbeats 1000000 in
set_option maxRecDepth 100000 in
theorem lw_read (hi : i + 5 ≤ sc.1) (hs : sc.1 ≤ 2560) (hJA : JA (m + 1) A) (nxt : ∀ A' g', g' ≤ g + 1 → JA m A' → xP sc (d + 130) 220 574 (lL i) [] (A', g') P) : xP sc (d + 130) 220 237 (lL i) [] (A, g) P := by
  obtain ⟨B, f, v, a, o, t, nm, sl, Ts, wr, N, X, p, b, hB, rfl, hJ, hP, hR⟩ := hJA
  have h0 := hJ.1
  have h0' := h0
  unfold xTo at h0'
  have hrm := hP.room
  have hal := hP.al
  have hfx : ∀ u ∈ fixL, u ∈ X ++ tkL 121 b := fun u hu => List.mem_append_left _ (hP.2.2.2.2.2.2.2.2.2.1 u (List.mem_append_left _ hu))
  have hsl : ∀ e ∈ sl, ¬ e.1 = 0 ∧ e.2.1 ≤ 1200 := fun e he => ⟨(hP.1.2 e he).1, (hP.1.2 e he).2.2.1⟩
  have h44 : ∀ e ∈ sl, e.1 = 44 → e.2.2 = 1 := fun e he => (hP.1.2 e he).2.2.2.2.2.2
  have hbud : (Ts.map Prod.fst).flatten.length + 2 * t.length ≤ 840 := by
    rw [tlen_fl]
    have := hP.2.2.1
    have := hP.2.2.2.2.1.1
    omega
  have hN : ∀ u ∈ N, u ∈ X ++ tkL 121 b := fun u hu => List.mem_append_left _ (hP.2.2.2.2.2.2.2.2.1.1 u hu)
  have hcn : flN N ≤ (Ts.map Prod.fst).flatten.length + 0 := by
    rw [tlen_fl]
    exact hP.2.2.2.2.2.2.2.2.1.2
  have lT : (Ts.map Prod.fst).length = Ts.length := List.length_map _
  refine xP_s rfl rfl rfl ?_
  refine xP_s rfl rfl rfl ?_
  refine xP_call rfl rfl rfl (h_read hB hJ hP (fun e B1 b1 hJ1 => ?_) (fun L D s' e e2 B1 b1 hJ1 => ?_) (fun L D s' e e2 e3 B1 f1 w b1 q1 q2 q3 hJ1 => ?_))
  · refine xP_s rfl rfl rfl ?_
    refine xP_s rfl rfl rfl ?_
    refine xP_cv rfl rfl rfl rfl rfl (mH_28 b1) (q_read (K := 840) (c := 0) (al := fun u => u ∈ X ++ tkL 121 b) b1 hR.1 hP.2.2.2.2.1.2 hfx hsl h44 hrm (by decide) hbud hN hal hcn (fun y v' a' z1 z2 z3 z4 => ?_) (fun L1 D1 s1 y y2 v' a' z1 z2 z3 z4 => ?_) (fun L1 D1 s1 y y2 y3 v' a' N' z1 z2 z3 z4 z5 z6 z7 => ?_))
    · have hR1 : JR v' a' o [] sl Ts wr N := ⟨z1, hR.2.1.same z3 z4 (by decide) (by decide) (by decide) (by decide) (by decide), hR.2.2.same z3 z4 (by decide) (by decide)⟩
      refine xP_s rfl rfl rfl ?_
      refine xP_s rfl rfl rfl ?_
      refine xP_cv rfl rfl rfl rfl rfl (mH_28 b1) (q_thrown b1 z2 ?_)
      have nx1 := xP_more [(5, .int 1), (6, .int 0)] rfl (nxt _ (g + 1) (by omega) (JA.mk1 b1 hJ1 hP.fail hR1))
      refine xP_s rfl rfl rfl ?_
      refine xP_s rfl rfl rfl ?_
      refine xP_s rfl rfl rfl ?_
      refine xP_s rfl rfl rfl ?_
      refine xP_s rfl rfl rfl ?_
      exact nx1
    · rw [e] at y
      cases y
    · rw [e] at y
      cases y
  · refine xP_s rfl rfl rfl ?_
    refine xP_s rfl rfl rfl ?_
    refine xP_cv rfl rfl rfl rfl rfl (mH_28 b1) (q_read (K := 840) (c := 0) (al := fun u => u ∈ X ++ tkL 121 b) b1 hR.1 hP.2.2.2.2.1.2 hfx hsl h44 hrm (by decide) hbud hN hal hcn (fun y v' a' z1 z2 z3 z4 => ?_) (fun L1 D1 s1 y y2 v' a' z1 z2 z3 z4 => ?_) (fun L1 D1 s1 y y2 y3 v' a' N' z1 z2 z3 z4 z5 z6 z7 => ?_))
    · rw [e] at y
      cases y
    · have hR1 : JR v' a' o t sl Ts wr N := ⟨z1, hR.2.1.same z3 z4 (by decide) (by decide) (by decide) (by decide) (by decide), hR.2.2.same z3 z4 (by decide) (by decide)⟩
      refine xP_s rfl rfl rfl ?_
      refine xP_s rfl rfl rfl ?_
      refine xP_cv rfl rfl rfl rfl rfl (mH_28 b1) (q_thrown b1 z2 ?_)
      have nx1 := xP_more [(5, .int 2), (6, .int 0)] rfl (nxt _ (g + 1) (by omega) (JA.mk1 b1 hJ1 hP.less hR1))
      refine xP_s rfl rfl rfl ?_
      refine xP_s rfl rfl rfl ?_
      refine xP_s rfl rfl rfl ?_
      refine xP_s rfl rfl rfl ?_
      refine xP_s rfl rfl rfl ?_
      exact nx1
    · rw [e] at y
      cases y
      rw [lT] at y2
      rw [tlen_fl] at y3
      omega
  · refine xP_s rfl rfl rfl ?_
    refine xP_s rfl rfl rfl ?_
    refine xP_cv rfl rfl rfl rfl rfl (mH_28 b1) (q_read (K := 840) (c := 0) (al := fun u => u ∈ X ++ tkL 121 b) b1 hR.1 hP.2.2.2.2.1.2 hfx hsl h44 hrm (by decide) hbud hN hal hcn (fun y v' a' z1 z2 z3 z4 => ?_) (fun L1 D1 s1 y y2 v' a' z1 z2 z3 z4 => ?_) (fun L1 D1 s1 y y2 y3 v' a' N' z1 z2 z3 z4 z5 z6 z7 => ?_))
    · rw [e] at y
      cases y
    · rw [e] at y
      cases y
      rw [lT, tlen_fl] at y2
      omega
    · rw [e] at y
      cases y
      rw [lT]
      have hR1 : JR v' a' o s' sl (Ts ++ [(L, D)]) wr N' := by
        refine ⟨?_, hR.2.1.same z6 z7 (by decide) (by decide) (by decide) (by decide) (by decide), hR.2.2.same z6 z7 (by decide) (by decide)⟩
        rw [List.map_append]
        exact z1
      have hnm : ∀ q ∈ L, 2 ≤ q.1 → q.2.2.1 ∈ N' := fun q hq hk => by
        have hq2 : q ∈ (Ts.map Prod.fst ++ [L]).flatten := by
          rw [List.flatten_append]
          exact List.mem_append_right _ (by simpa using hq)
        obtain ⟨j, hj⟩ := List.mem_iff_getElem?.mp hq2
        obtain ⟨_, _, _, k4, _⟩ := z1.2.2.2.1.2.2 j q hj
        obtain ⟨j2, k5, _⟩ := k4 hk
        exact List.mem_of_getElem? k5
      rw [tlen_fl] at z5
      have hP1 := hP.read e e2 e3 q1 z4 z5 q2 hnm
      refine xP_s rfl rfl rfl ?_
      refine xP_s rfl rfl rfl ?_
      refine xP_cv rfl rfl rfl rfl rfl (mH_28 b1) (q_thrown b1 z2 ?_)
      have nx1 := xP_more [(5, .int 0), (6, .int (nI Ts.length))] rfl (nxt _ g (by omega) (JA.mk1 b1 hJ1 hP1 hR1))
      refine xP_s rfl rfl rfl ?_
      refine xP_s rfl rfl rfl ?_
      refine xP_s rfl rfl rfl ?_
      refine xP_s rfl rfl rfl ?_
      refine xP_s rfl rfl rfl ?_
      refine xP_s rfl rfl rfl ?_
      refine xP_out rfl b1 q3 ?_
      refine xP_s rfl rfl rfl ?_
      refine xP_s rfl rfl rfl ?_
      refine xP_s rfl rfl rfl ?_
      rw [lgc_s]
      refine xP_s rfl rfl rfl ?_
      refine xP_s rfl rfl rfl ?_
      exact nx1
set_option maxHeartbeats 1000000 in
set_option maxRecDepth 100000 in
theorem lw_write (hi : i + 5 ≤ sc.1) (hs : sc.1 ≤ 2560) (hJA : JA (m + 1) A) (nxt : ∀ A' g', g' ≤ g + 1 → JA m A' → xP sc (d + 130) 220 574 (lL i) [] (A', g') P) : xP sc (d + 130) 220 281 (lL i) [] (A, g) P := by
  obtain ⟨B, f, v, a, o, t, nm, sl, Ts, wr, N, X, p, b, hB, rfl, hJ, hP, hR⟩ := hJA
  have h0 := hJ.1
  have h0' := h0
  unfold xTo at h0'
  have hT : ∀ L ∈ Ts.map Prod.fst, trP 14 L ∧ okL anyN L ∧ cstL L ≤ 1200 := fun L hL => by
    obtain ⟨q, hq, rfl⟩ := List.mem_map.mp hL
    obtain ⟨k1, k2, k3, _⟩ := hP.2.2.2.2.2.2.1 q hq
    exact ⟨k1, k2.mono (fun _ _ => trivial), k3⟩
  have hQ : (Ts.map Prod.fst).flatten.length ≤ 600 := by
    rw [tlen_fl]
    exact hP.2.2.1
  have lT : (Ts.map Prod.fst).length = Ts.length := List.length_map _
  refine xP_s rfl rfl rfl ?_
  refine xP_s rfl rfl rfl ?_
  refine xP_s rfl rfl rfl ?_
  refine xP_s rfl rfl rfl ?_
  refine xP_s rfl rfl rfl ?_
  refine xP_scl rfl (nI_add i 1) (by omega) hs ?_
  refine xP_s rfl rfl rfl ?_
  refine xP_call rfl rfl rfl (h_write hB hJ hP (fun e => ?_) (fun q w e1 e2 e3 B1 f1 b1 q1 hJ1 => ?_))
  · refine xP_s rfl rfl rfl ?_
    refine xP_s rfl rfl rfl ?_
    refine xP_s rfl rfl rfl ?_
    refine xP_s rfl rfl rfl ?_
    refine xP_s rfl rfl rfl ?_
    refine xP_s rfl rfl rfl ?_
    refine xP_scl rfl (nI_add i 1) (by omega) hs ?_
    refine xP_cv rfl rfl rfl rfl rfl (mH_28 hB) (q_write hB hR.1 hQ (fun e he => ⟨(hP.1.2 e he).2.1, (hP.1.2 e he).2.2.1⟩) (fun e he => (hP.1.2 e he).2.2.2.2.1) (fun e he => (hP.1.2 e he).2.2.2.2.2.1) hT (fun y v' a' z1 z2 z3 z4 => ?_) (fun L1 w1 y1 y2 y3 y4 v' a' z1 z2 z3 z4 z5 => ?_))
    · have hR1 : JR v' a' o t sl Ts wr N := hR.same z3 z4 rfl rfl (by decide) (by decide)
      refine xP_s rfl rfl rfl ?_
      refine xP_s rfl rfl rfl ?_
      refine xP_cv rfl rfl rfl rfl rfl (mH_28 hB) (q_thrown hB z2 ?_)
      have nx1 := xP_more [(5, .int 1), (6, .int 0)] rfl (nxt _ (g + 1) (by omega) (JA.mk1 hB hJ hP.less hR1))
      refine xP_s rfl rfl rfl ?_
      refine xP_s rfl rfl rfl ?_
      refine xP_s rfl rfl rfl ?_
      refine xP_s rfl rfl rfl ?_
      refine xP_s rfl rfl rfl ?_
      exact nx1
    · have := (List.getElem?_eq_some_iff.mp y2).1
      rw [lT] at this
      omega
  · refine xP_s rfl rfl rfl ?_
    refine xP_s rfl rfl rfl ?_
    refine xP_s rfl rfl rfl ?_
    refine xP_s rfl rfl rfl ?_
    refine xP_s rfl rfl rfl ?_
    refine xP_s rfl rfl rfl ?_
    refine xP_scl rfl (nI_add i 1) (by omega) hs ?_
    refine xP_cv rfl rfl rfl rfl rfl (mH_28 b1) (q_write b1 hR.1 hQ (fun e he => ⟨(hP.1.2 e he).2.1, (hP.1.2 e he).2.2.1⟩) (fun e he => (hP.1.2 e he).2.2.2.2.1) (fun e he => (hP.1.2 e he).2.2.2.2.2.1) hT (fun y v' a' z1 z2 z3 z4 => ?_) (fun L1 w1 y1 y2 y3 y4 v' a' z1 z2 z3 z4 z5 => ?_))
    · have := (List.getElem?_eq_some_iff.mp e2).1
      unfold isT at y
      rw [lT] at y
      exact absurd (of_decide_eq_false y) (fun z => z ⟨by omega, by omega⟩)
    · have eL : L1 = q.1 := by
        rw [List.getElem?_map, e2] at y2
        exact (Option.some.inj y2).symm
      have ew : w1 = w := by
        have := y3 []
        rw [eL, e3 []] at this
        exact (Prod.mk.inj this).1.symm
      subst ew
      have hR1 : JR v' a' o t sl Ts w1 N := ⟨z1, hR.2.1.same z4 z5 (by decide) (by decide) (by decide) (by decide) (by decide), z2⟩
      have hP1 := hP.write (List.mem_of_getElem? e2) e3
      refine xP_s rfl rfl rfl ?_
      refine xP_s rfl rfl rfl ?_
      refine xP_cv rfl rfl rfl rfl rfl (mH_28 b1) (q_thrown b1 z3 ?_)
      have nx1 := xP_more [(5, .int 0), (6, .int (nI w1.length))] rfl (nxt _ g (by omega) (JA.mk1 b1 hJ1 hP1 hR1))
      refine xP_s rfl rfl rfl ?_
      refine xP_s rfl rfl rfl ?_
      refine xP_s rfl rfl rfl ?_
      refine xP_s rfl rfl rfl ?_
      refine xP_s rfl rfl rfl ?_
      refine xP_s rfl rfl rfl ?_
      refine xP_out rfl b1 q1 ?_
      refine xP_s rfl rfl rfl ?_
      refine xP_s rfl rfl rfl ?_
      refine xP_s rfl rfl rfl ?_
      rw [lgc_s]
      refine xP_s rfl rfl rfl ?_
      refine xP_s rfl rfl rfl ?_
      exact nx1
set_option maxHeartbeats 1000000 in
set_option maxRecDepth 100000 in
theorem lw_written (hi : i + 5 ≤ sc.1) (hs : sc.1 ≤ 2560) (hJA : JA (m + 1) A) (nxt : ∀ A' g', g' ≤ g + 1 → JA m A' → xP sc (d + 130) 220 574 (lL i) [] (A', g') P) : xP sc (d + 130) 220 337 (lL i) [] (A, g) P := by
  obtain ⟨B, f, v, a, o, t, nm, sl, Ts, wr, N, X, p, b, hB, rfl, hJ, hP, hR⟩ := hJA
  have h0 := hJ.1
  have h0' := h0
  unfold xTo at h0'
  have hw := hJ.2.2.2.1
  have hwl := hw.len
  refine xP_s rfl rfl rfl ?_
  refine xP_s rfl rfl rfl ?_
  refine xP_s rfl rfl rfl ?_
  refine xP_s rfl rfl rfl ?_
  refine xP_s rfl rfl rfl ?_
  refine xP_scl rfl (nI_add i 1) (by omega) hs ?_
  refine xP_cv rfl rfl rfl rfl rfl h0' (p_written h0 hw ?_)
  refine xP_s rfl rfl rfl ?_
  refine xP_s rfl rfl rfl ?_
  refine xP_s rfl rfl rfl ?_
  refine xP_s rfl rfl rfl ?_
  refine xP_s rfl rfl rfl ?_
  refine xP_scl rfl (nI_add i 1) (by omega) hs ?_
  refine xP_cv rfl rfl rfl rfl rfl (mH_28 hB) (q_written hB hR.2.2 ?_)
  rw [cAt_oz (by omega)]
  have nx1 := nxt _ g (by omega) (JA.mk1 hB hJ hP.less (hR.code 0))
  refine xP_s rfl rfl rfl ?_
  refine xP_if (fun hc => ?_) (fun hc => ?_)
  · exact nx1
  · exact absurd rfl (xc_f hc)
set_option maxHeartbeats 1000000 in
set_option maxRecDepth 100000 in
theorem lw_again (hi : i + 5 ≤ sc.1) (hs : sc.1 ≤ 2560) (hJA : JA (m + 1) A) (nxt : ∀ A' g', g' ≤ g + 1 → JA m A' → xP sc (d + 130) 220 574 (lL i) [] (A', g') P) : xP sc (d + 130) 220 362 (lL i) [] (A, g) P := by
  obtain ⟨B, f, v, a, o, t, nm, sl, Ts, wr, N, X, p, b, hB, rfl, hJ, hP, hR⟩ := hJA
  have h0 := hJ.1
  have h0' := h0
  unfold xTo at h0'
  obtain ⟨_, _, ⟨_, _, _, _, _, _, _, ⟨w1, _⟩, _⟩, hw, _⟩ := id hJ
  refine xP_s rfl rfl rfl ?_
  refine xP_cv rfl rfl rfl rfl rfl h0' (p_again h0 w1 hw (fun e => ?_) (fun e A' s1 s2 s3 => ?_))
  · refine xP_s rfl rfl rfl ?_
    refine xP_cv rfl rfl rfl rfl rfl (mH_28 hB) (q_again hB hR.2.2 (fun e2 => ?_) (fun e2 => ?_))
    · refine xP_s rfl rfl rfl ?_
      exact nxt _ g (by omega) (JA.mk1 hB hJ hP.less (hR.code 0))
    · omega
  · obtain ⟨B1, b1, b2⟩ := mH_of2 hB s3 rfl
    have hJ1 := hJ.setT s2 s3
    subst b2
    refine xP_s rfl rfl rfl ?_
    refine xP_cv rfl rfl rfl rfl rfl (mH_28 b1) (q_again b1 hR.2.2 (fun e2 => ?_) (fun e2 v' a' z1 z2 z3 z4 => ?_))
    · omega
    · refine xP_s rfl rfl rfl ?_
      exact nxt _ g (by omega) (JA.mk1 b1 hJ1 (hP.again e) (hR.setT z1 z3 z4))
set_option maxHeartbeats 1000000 in
set_option maxRecDepth 100000 in
theorem lw_alike (hi : i + 5 ≤ sc.1) (hs : sc.1 ≤ 2560) (hJA : JA (m + 1) A) (nxt : ∀ A' g', g' ≤ g + 1 → JA m A' → xP sc (d + 130) 220 574 (lL i) [] (A', g') P) : xP sc (d + 130) 220 375 (lL i) [] (A, g) P := by
  obtain ⟨B, f, v, a, o, t, nm, sl, Ts, wr, N, X, p, b, hB, rfl, hJ, hP, hR⟩ := hJA
  have h0 := hJ.1
  have h0' := h0
  unfold xTo at h0'
  have lT : (Ts.map Prod.fst).length = Ts.length := List.length_map _
  have hok : ∀ L ∈ Ts.map Prod.fst, ∀ p ∈ L, okIt p := fun L hL => by
    obtain ⟨q, hq, rfl⟩ := List.mem_map.mp hL
    exact trP_ok (hP.2.2.2.2.2.2.1 q hq).1
  refine xP_s rfl rfl rfl ?_
  refine xP_s rfl rfl rfl ?_
  refine xP_s rfl rfl rfl ?_
  refine xP_s rfl rfl rfl ?_
  refine xP_s rfl rfl rfl ?_
  refine xP_scl rfl (nI_add i 1) (by omega) hs ?_
  refine xP_s rfl rfl rfl ?_
  refine xP_s rfl rfl rfl ?_
  refine xP_s rfl rfl rfl ?_
  refine xP_s rfl rfl rfl ?_
  refine xP_scl rfl (nI_add i 2) (by omega) hs ?_
  refine xP_s rfl rfl rfl ?_
  refine xP_call rfl rfl rfl (h_alike hB hJ hP.2.1 (fun e => ?_) (fun q r e1 e2 e3 e4 f1 e5 => ?_))
  · refine xP_s rfl rfl rfl ?_
    refine xP_s rfl rfl rfl ?_
    refine xP_s rfl rfl rfl ?_
    refine xP_s rfl rfl rfl ?_
    refine xP_s rfl rfl rfl ?_
    refine xP_s rfl rfl rfl ?_
    refine xP_scl rfl (nI_add i 1) (by omega) hs ?_
    refine xP_s rfl rfl rfl ?_
    refine xP_s rfl rfl rfl ?_
    refine xP_s rfl rfl rfl ?_
    refine xP_s rfl rfl rfl ?_
    refine xP_scl rfl (nI_add i 2) (by omega) hs ?_
    refine xP_cv rfl rfl rfl rfl rfl (mH_28 hB) (q_alike hB hR.1 hok (fun y => ?_) (fun L M y1 y2 y3 y4 => ?_))
    · refine xP_s rfl rfl rfl ?_
      refine xP_s rfl rfl rfl ?_
      refine xP_cv rfl rfl rfl rfl rfl (mH_28 hB) (q_thrown hB upd_s ?_)
      have nx1 := xP_more [(5, .int 1), (6, .int 0)] rfl (nxt _ (g + 1) (by omega) (JA.mk1 hB hJ hP.less (hR.code 1)))
      refine xP_s rfl rfl rfl ?_
      refine xP_s rfl rfl rfl ?_
      refine xP_s rfl rfl rfl ?_
      refine xP_s rfl rfl rfl ?_
      refine xP_s rfl rfl rfl ?_
      exact nx1
    · have k1 := (List.getElem?_eq_some_iff.mp y3).1
      have k2 := (List.getElem?_eq_some_iff.mp y4).1
      rw [lT] at k1 k2
      exact absurd ⟨⟨y1, by omega⟩, ⟨y2, by omega⟩⟩ e
  · refine xP_s rfl rfl rfl ?_
    refine xP_s rfl rfl rfl ?_
    refine xP_s rfl rfl rfl ?_
    refine xP_s rfl rfl rfl ?_
    refine xP_s rfl rfl rfl ?_
    refine xP_s rfl rfl rfl ?_
    refine xP_scl rfl (nI_add i 1) (by omega) hs ?_
    refine xP_s rfl rfl rfl ?_
    refine xP_s rfl rfl rfl ?_
    refine xP_s rfl rfl rfl ?_
    refine xP_s rfl rfl rfl ?_
    refine xP_scl rfl (nI_add i 2) (by omega) hs ?_
    refine xP_cv rfl rfl rfl rfl rfl (mH_28 hB) (q_alike hB hR.1 hok (fun y => ?_) (fun L M y1 y2 y3 y4 => ?_))
    · have k1 := (List.getElem?_eq_some_iff.mp e3).1
      have k2 := (List.getElem?_eq_some_iff.mp e4).1
      unfold isT at y
      rw [lT, decide_eq_true (show _ ∧ _ from ⟨e1, by omega⟩), decide_eq_true (show _ ∧ _ from ⟨e2, by omega⟩)] at y
      cases y
    · have eL : L = q.1 := by
        rw [List.getElem?_map, e3] at y3
        exact (Option.some.inj y3).symm
      have eM : M = r.1 := by
        rw [List.getElem?_map, e4] at y4
        exact (Option.some.inj y4).symm
      rw [eL, eM]
      have nx0 := fun z : Int32 => xP_more [(5, .int 0), (6, .int z)] rfl (nxt _ g (by omega) (JA.mk1 (v' := upd v 0 0) (a' := a) (o' := o) hB (hJ.same (mH_same (v := v) (v' := v) (a := a) (a' := a) (o := o) (o' := o) (C' := [oC f1]) hB rfl rfl)) hP.less (hR.code 0)))
      cases hd : decide (q.1 = r.1) with
      | true =>
        rw [hd] at e5
        have nx1 := nx0 1
        refine xP_s rfl rfl rfl ?_
        refine xP_s rfl rfl rfl ?_
        refine xP_cv rfl rfl rfl rfl rfl (mH_28 hB) (q_thrown hB upd_s ?_)
        refine xP_s rfl rfl rfl ?_
        refine xP_s rfl rfl rfl ?_
        refine xP_s rfl rfl rfl ?_
        refine xP_s rfl rfl rfl ?_
        refine xP_s rfl rfl rfl ?_
        refine xP_s rfl rfl rfl ?_
        refine xP_out rfl hB e5 ?_
        refine xP_s rfl rfl rfl ?_
        refine xP_s rfl rfl rfl ?_
        refine xP_s rfl rfl rfl ?_
        refine xP_s rfl rfl rfl ?_
        refine xP_s rfl rfl rfl ?_
        refine xP_s rfl rfl rfl ?_
        refine xP_s rfl rfl rfl ?_
        exact nx1
      | false =>
        rw [hd] at e5
        have nx1 := nx0 0
        refine xP_s rfl rfl rfl ?_
        refine xP_s rfl rfl rfl ?_
        refine xP_cv rfl rfl rfl rfl rfl (mH_28 hB) (q_thrown hB upd_s ?_)
        refine xP_s rfl rfl rfl ?_
        refine xP_s rfl rfl rfl ?_
        refine xP_s rfl rfl rfl ?_
        refine xP_s rfl rfl rfl ?_
        refine xP_s rfl rfl rfl ?_
        refine xP_s rfl rfl rfl ?_
        refine xP_out rfl hB e5 ?_
        refine xP_s rfl rfl rfl ?_
        refine xP_s rfl rfl rfl ?_
        refine xP_s rfl rfl rfl ?_
        refine xP_s rfl rfl rfl ?_
        refine xP_s rfl rfl rfl ?_
        refine xP_s rfl rfl rfl ?_
        exact nx1
set_option maxHeartbeats 1000000 in
set_option maxRecDepth 100000 in
theorem lw_look (hi : i + 5 ≤ sc.1) (hs : sc.1 ≤ 2560) (hJA : JA (m + 1) A) (nxt : ∀ A' g', g' ≤ g + 1 → JA m A' → xP sc (d + 130) 220 574 (lL i) [] (A', g') P) : xP sc (d + 130) 220 450 (lL i) [] (A, g) P := by
  obtain ⟨B, f, v, a, o, t, nm, sl, Ts, wr, N, X, p, b, hB, rfl, hJ, hP, hR⟩ := hJA
  have h0 := hJ.1
  have h0' := h0
  unfold xTo at h0'
  have lT : (Ts.map Prod.fst).length = Ts.length := List.length_map _
  have hT : ∀ L ∈ Ts.map Prod.fst, ∃ D, dT D L := fun L hL => by
    obtain ⟨q, hq, rfl⟩ := List.mem_map.mp hL
    exact ⟨_, (hP.2.2.2.2.2.2.1 q hq).2.2.2⟩
  have hQ : (Ts.map Prod.fst).flatten.length ≤ 600 := by
    rw [tlen_fl]
    exact hP.2.2.1
  refine xP_s rfl rfl rfl ?_
  refine xP_s rfl rfl rfl ?_
  refine xP_s rfl rfl rfl ?_
  refine xP_s rfl rfl rfl ?_
  refine xP_s rfl rfl rfl ?_
  refine xP_scl rfl (nI_add i 1) (by omega) hs ?_
  refine xP_s rfl rfl rfl ?_
  refine xP_s rfl rfl rfl ?_
  refine xP_s rfl rfl rfl ?_
  refine xP_s rfl rfl rfl ?_
  refine xP_scl rfl (nI_add i 2) (by omega) hs ?_
  refine xP_s rfl rfl rfl ?_
  refine xP_call rfl rfl rfl (h_look hB hJ hP.2.1 (fun e => ?_) (fun e e2 => ?_) (fun q e1 e2 e3 z f1 e4 e5 => ?_))
  · refine xP_s rfl rfl rfl ?_
    refine xP_s rfl rfl rfl ?_
    refine xP_s rfl rfl rfl ?_
    refine xP_s rfl rfl rfl ?_
    refine xP_s rfl rfl rfl ?_
    refine xP_s rfl rfl rfl ?_
    refine xP_scl rfl (nI_add i 1) (by omega) hs ?_
    refine xP_s rfl rfl rfl ?_
    refine xP_s rfl rfl rfl ?_
    refine xP_s rfl rfl rfl ?_
    refine xP_s rfl rfl rfl ?_
    refine xP_scl rfl (nI_add i 2) (by omega) hs ?_
    refine xP_cv rfl rfl rfl rfl rfl (mH_28 hB) (q_look hB hR.1 hQ hT (fun y => ?_) (fun y y2 => ?_) (fun L y1 y2 y3 z1 v' a' y4 y5 y6 y7 => ?_))
    · refine xP_s rfl rfl rfl ?_
      refine xP_s rfl rfl rfl ?_
      refine xP_cv rfl rfl rfl rfl rfl (mH_28 hB) (q_thrown hB upd_s ?_)
      have nx1 := xP_more [(5, .int 1), (6, .int 0)] rfl (nxt _ (g + 1) (by omega) (JA.mk1 hB hJ hP.less (hR.code 1)))
      refine xP_s rfl rfl rfl ?_
      refine xP_s rfl rfl rfl ?_
      refine xP_s rfl rfl rfl ?_
      refine xP_s rfl rfl rfl ?_
      refine xP_s rfl rfl rfl ?_
      exact nx1
    · unfold isT at y
      rw [lT] at y
      exact absurd (of_decide_eq_true y) e
    · have k1 := (List.getElem?_eq_some_iff.mp y2).1
      rw [lT] at k1
      exact absurd ⟨y1, by omega⟩ e
  · refine xP_s rfl rfl rfl ?_
    refine xP_s rfl rfl rfl ?_
    refine xP_s rfl rfl rfl ?_
    refine xP_s rfl rfl rfl ?_
    refine xP_s rfl rfl rfl ?_
    refine xP_s rfl rfl rfl ?_
    refine xP_scl rfl (nI_add i 1) (by omega) hs ?_
    refine xP_s rfl rfl rfl ?_
    refine xP_s rfl rfl rfl ?_
    refine xP_s rfl rfl rfl ?_
    refine xP_s rfl rfl rfl ?_
    refine xP_scl rfl (nI_add i 2) (by omega) hs ?_
    refine xP_cv rfl rfl rfl rfl rfl (mH_28 hB) (q_look hB hR.1 hQ hT (fun y => ?_) (fun y y2 => ?_) (fun L y1 y2 y3 z1 v' a' y4 y5 y6 y7 => ?_))
    · unfold isT at y
      rw [lT] at y
      exact absurd e (of_decide_eq_false y)
    · refine xP_s rfl rfl rfl ?_
      refine xP_s rfl rfl rfl ?_
      refine xP_cv rfl rfl rfl rfl rfl (mH_28 hB) (q_thrown hB upd_s ?_)
      have nx1 := xP_more [(5, .int 2), (6, .int 0)] rfl (nxt _ (g + 1) (by omega) (JA.mk1 hB hJ hP.less (hR.code 2)))
      refine xP_s rfl rfl rfl ?_
      refine xP_s rfl rfl rfl ?_
      refine xP_s rfl rfl rfl ?_
      refine xP_s rfl rfl rfl ?_
      refine xP_s rfl rfl rfl ?_
      exact nx1
    · exact absurd y3 e2
  · refine xP_s rfl rfl rfl ?_
    refine xP_s rfl rfl rfl ?_
    refine xP_s rfl rfl rfl ?_
    refine xP_s rfl rfl rfl ?_
    refine xP_s rfl rfl rfl ?_
    refine xP_s rfl rfl rfl ?_
    refine xP_scl rfl (nI_add i 1) (by omega) hs ?_
    refine xP_s rfl rfl rfl ?_
    refine xP_s rfl rfl rfl ?_
    refine xP_s rfl rfl rfl ?_
    refine xP_s rfl rfl rfl ?_
    refine xP_scl rfl (nI_add i 2) (by omega) hs ?_
    refine xP_cv rfl rfl rfl rfl rfl (mH_28 hB) (q_look hB hR.1 hQ hT (fun y => ?_) (fun y y2 => ?_) (fun L y1 y2 y3 z1 v' a' y4 y5 y6 y7 => ?_))
    · have k1 := (List.getElem?_eq_some_iff.mp e2).1
      unfold isT at y
      rw [lT] at y
      exact absurd ⟨e1, by omega⟩ (of_decide_eq_false y)
    · exact absurd e3 y2
    · have eL : L = q.1 := by
        rw [List.getElem?_map, e2] at y2
        exact (Option.some.inj y2).symm
      have hd := (hP.2.2.2.2.2.2.1 q (List.mem_of_getElem? e2)).2.2.2
      have ez : z1 = z := Int32.toInt_inj.mp (by
        rw [e4, y4 q.2 (by rw [eL]; exact hd), eL])
      rw [ez]
      have nx1 := xP_more [(5, .int 0), (6, .int z)] rfl (nxt _ g (by omega) (JA.mk1 (v' := v') (a' := a') (o' := o) hB (hJ.same (mH_same (v := v) (v' := v) (a := a) (a' := a) (o := o) (o' := o) (C' := [oC f1]) hB rfl rfl)) hP.less (hR.same y6 y7 rfl rfl (by decide) (by decide))))
      refine xP_s rfl rfl rfl ?_
      refine xP_s rfl rfl rfl ?_
      refine xP_cv rfl rfl rfl rfl rfl (mH_28 hB) (q_thrown hB y5 ?_)
      refine xP_s rfl rfl rfl ?_
      refine xP_s rfl rfl rfl ?_
      refine xP_s rfl rfl rfl ?_
      refine xP_s rfl rfl rfl ?_
      refine xP_s rfl rfl rfl ?_
      refine xP_s rfl rfl rfl ?_
      refine xP_out rfl hB e5 ?_
      refine xP_s rfl rfl rfl ?_
      refine xP_s rfl rfl rfl ?_
      refine xP_s rfl rfl rfl ?_
      rw [lgc_s]
      refine xP_s rfl rfl rfl ?_
      refine xP_s rfl rfl rfl ?_
      exact nx1
set_option maxHeartbeats 1000000 in
set_option maxRecDepth 100000 in
theorem lw_count (hi : i + 5 ≤ sc.1) (hs : sc.1 ≤ 2560) (hJA : JA (m + 1) A) (nxt : ∀ A' g', g' ≤ g + 1 → JA m A' → xP sc (d + 130) 220 574 (lL i) [] (A', g') P) : xP sc (d + 130) 220 518 (lL i) [] (A, g) P := by
  obtain ⟨B, f, v, a, o, t, nm, sl, Ts, wr, N, X, p, b, hB, rfl, hJ, hP, hR⟩ := hJA
  have h0 := hJ.1
  have h0' := h0
  unfold xTo at h0'
  have lT : (Ts.map Prod.fst).length = Ts.length := List.length_map _
  obtain ⟨M, m1, m2, m3, m4⟩ := id hR.2.1
  refine xP_s rfl rfl rfl ?_
  refine xP_s rfl rfl rfl ?_
  refine xP_s rfl rfl rfl ?_
  refine xP_s rfl rfl rfl ?_
  refine xP_s rfl rfl rfl ?_
  refine xP_scl rfl (nI_add i 1) (by omega) hs ?_
  refine xP_s rfl rfl rfl ?_
  refine xP_call rfl rfl rfl (h_count hB hJ (fun e => ?_) (fun z f1 e0 e1 e2 e3 e4 e5 => ?_))
  · refine xP_s rfl rfl rfl ?_
    refine xP_s rfl rfl rfl ?_
    refine xP_s rfl rfl rfl ?_
    refine xP_s rfl rfl rfl ?_
    refine xP_s rfl rfl rfl ?_
    refine xP_s rfl rfl rfl ?_
    refine xP_scl rfl (nI_add i 1) (by omega) hs ?_
    refine xP_cv rfl rfl rfl rfl rfl (mH_28 hB) (q_count hB hR.1 m1.1 m1.2.1 (fun y => ?_) (fun y => ?_) (fun y => ?_) (fun y => ?_) (fun y => ?_))
    · refine xP_s rfl rfl rfl ?_
      refine xP_s rfl rfl rfl ?_
      refine xP_cv rfl rfl rfl rfl rfl (mH_28 hB) (q_thrown hB upd_s ?_)
      have nx1 := xP_more [(5, .int 1), (6, .int 0)] rfl (nxt _ (g + 1) (by omega) (JA.mk1 hB hJ hP.less (hR.code 1)))
      refine xP_s rfl rfl rfl ?_
      refine xP_s rfl rfl rfl ?_
      refine xP_s rfl rfl rfl ?_
      refine xP_s rfl rfl rfl ?_
      refine xP_s rfl rfl rfl ?_
      exact nx1
    · exact absurd (by omega) e
    · exact absurd (by omega) e
    · exact absurd (by omega) e
    · exact absurd (by omega) e
  · have fin : ∀ z1 : Int32, z1 = z → xP sc (d + 130) 220 541 [(0, .ref 1000000000), (1, .ref 0), (2, .ref 28), (3, .ref 53), (4, .int (nI i)), (5, .int 0)] [.int z1] (mH B [oC f1] (upd v 0 0) a o, g) P := fun z1 ez => by
      rw [ez]
      have nx1 := xP_more [(5, .int 0), (6, .int z)] rfl (nxt _ g (by omega) (JA.mk1 (v' := upd v 0 0) (a' := a) (o' := o) hB (hJ.same (mH_same (v := v) (v' := v) (a := a) (a' := a) (o := o) (o' := o) (C' := [oC f1]) hB rfl rfl)) hP.less (hR.code 0)))
      refine xP_s rfl rfl rfl ?_
      refine xP_s rfl rfl rfl ?_
      refine xP_cv rfl rfl rfl rfl rfl (mH_28 hB) (q_thrown hB upd_s ?_)
      refine xP_s rfl rfl rfl ?_
      refine xP_s rfl rfl rfl ?_
      refine xP_s rfl rfl rfl ?_
      refine xP_s rfl rfl rfl ?_
      refine xP_s rfl rfl rfl ?_
      refine xP_s rfl rfl rfl ?_
      refine xP_out rfl hB e5 ?_
      refine xP_s rfl rfl rfl ?_
      refine xP_s rfl rfl rfl ?_
      refine xP_s rfl rfl rfl ?_
      rw [lgc_s]
      refine xP_s rfl rfl rfl ?_
      refine xP_s rfl rfl rfl ?_
      exact nx1
    refine xP_s rfl rfl rfl ?_
    refine xP_s rfl rfl rfl ?_
    refine xP_s rfl rfl rfl ?_
    refine xP_s rfl rfl rfl ?_
    refine xP_s rfl rfl rfl ?_
    refine xP_s rfl rfl rfl ?_
    refine xP_scl rfl (nI_add i 1) (by omega) hs ?_
    refine xP_cv rfl rfl rfl rfl rfl (mH_28 hB) (q_count hB hR.1 m1.1 m1.2.1 (fun y => ?_) (fun y => ?_) (fun y => ?_) (fun y => ?_) (fun y => ?_))
    · exact absurd e4 y
    · exact fin _ (e0 y).symm
    · exact fin _ (by rw [lT]; exact (e1 y).symm)
    · exact fin _ (by rw [tlen_fl]; exact (e2 y).symm)
    · refine fin _ ?_
      rw [e3 y, cntO_s, show sumW (wtO a) M = sl.length - 1 by omega]
      exact (nI_subN (b := 1) (by omega)).symm
end LW
