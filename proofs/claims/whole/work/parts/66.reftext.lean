-- the reference: its text, held characters
def vS (v v' : Nat → Int32) (l : List Nat) : Prop := ∀ k, k ∉ l → v' k = v k
def aS (a a' : Nat → Nat → Int32) (l : List Nat) : Prop := ∀ j, j ∉ l → a' j = a j
theorem vS.refl (v : Nat → Int32) (l : List Nat) : vS v v l := fun _ _ => rfl
theorem aS.refl (a : Nat → Nat → Int32) (l : List Nat) : aS a a l := fun _ _ => rfl
theorem vS.trans {u v w : Nat → Int32} {l : List Nat} (h1 : vS u v l) (h2 : vS v w l) : vS u w l := fun k hk => (h2 k hk).trans (h1 k hk)
theorem aS.trans {u v w : Nat → Nat → Int32} {l : List Nat} (h1 : aS u v l) (h2 : aS v w l) : aS u w l := fun k hk => (h2 k hk).trans (h1 k hk)
theorem vS.wide {v w : Nat → Int32} {l m : List Nat} (h : vS v w l) (hs : (l.all fun x => m.contains x) = true) : vS v w m := fun k hk => h k fun q => hk (by
  have := List.all_eq_true.mp hs k q
  simpa using this)
theorem aS.wide {v w : Nat → Nat → Int32} {l m : List Nat} (h : aS v w l) (hs : (l.all fun x => m.contains x) = true) : aS v w m := fun k hk => h k fun q => hk (by
  have := List.all_eq_true.mp hs k q
  simpa using this)
theorem vS.u (v : Nat → Int32) (k : Nat) (x : Int32) : vS v (upd v k x) [k] := fun j hj => if_neg (fun q => hj (by simp [q]))
theorem aS.u (a : Nat → Nat → Int32) (k : Nat) (x : Nat → Int32) : aS a (uA a k x) [k] := fun j hj => if_neg (fun q => hj (by simp [q]))
theorem upd_s {f : Nat → Int32} {i : Nat} {x : Int32} : upd f i x i = x := if_pos rfl
theorem upd_n {f : Nat → Int32} {i j : Nat} {x : Int32} (h : ¬ j = i) : upd f i x j = f j := if_neg h
/-- the text -/
def zT (v : Nat → Int32) (a : Nat → Nat → Int32) (t : List Nat) : Prop := v 1 = nI t.length ∧ t.length ≤ 120 ∧ ∀ (i c : Nat), t[i]? = some c → c < 128 ∧ a 29 i = nI c
theorem zT.same {v v' : Nat → Int32} {a a' : Nat → Nat → Int32} {t l m : List Nat} (h : zT v a t) (hv : vS v v' l) (ha : aS a a' m) (h1 : 1 ∉ l) (h2 : 29 ∉ m) : zT v' a' t := by
  unfold zT at h ⊢
  rw [hv 1 h1, ha 29 h2]
  exact h
/-- what is held -/
def zH (v : Nat → Int32) (a : Nat → Nat → Int32) (w : List Nat) : Prop := v 25 = nI w.length ∧ w.length ≤ 130 ∧ ∀ (i c : Nat), w[i]? = some c → c < 128 ∧ a 42 i = nI c
theorem zH.same {v v' : Nat → Int32} {a a' : Nat → Nat → Int32} {t l m : List Nat} (h : zH v a t) (hv : vS v v' l) (ha : aS a a' m) (h1 : 25 ∉ l) (h2 : 42 ∉ m) : zH v' a' t := by
  unfold zH at h ⊢
  rw [hv 25 h1, ha 42 h2]
  exact h
def oz (s : List Nat) (k : Nat) : Nat := (s[k]?).getD 0
theorem oz_d {t s : List Nat} {p : Nat} (h : t.drop p = s) (k : Nat) : oz t (p + k) = oz s k := by
  unfold oz
  rw [← h, List.getElem?_drop]
theorem oz_0 {t s : List Nat} {p : Nat} (h : t.drop p = s) : oz t p = oz s 0 := oz_d h 0
theorem oz_c (c : Nat) (r : List Nat) : oz (c :: r) 0 = c := rfl
theorem oz_s (c : Nat) (r : List Nat) (k : Nat) : oz (c :: r) (k + 1) = oz r k := rfl
theorem oz_n (k : Nat) : oz [] k = 0 := rfl
section MT
variable {sc : xSc} {d g : Nat} {B C : List xC} {v : Nat → Int32} {a : Nat → Nat → Int32} {o : Nat → Int64} {t : List Nat} {P : xO → xH → Prop}
theorem zT.lt (ht : zT v a t) (m : Nat) : oz t m < 128 := by
  unfold oz
  cases h : t[m]? with
  | none => exact (by decide : 0 < 128)
  | some c => exact (ht.2.2 m c h).1
set_option maxRecDepth 100000 in
theorem q_charAt {m c : Nat} (hB : B.length = 28) (ht : zT v a t) (hm : m < 2 ^ 30) (hc : oz t m = c) (k : P (.inl (some (.int (nI c)))) (mH B C v a o, g)) : xM1 sc d 153 [.ref 28, .int (nI m)] (mH B C v a o, g) P := by
  obtain ⟨h1, h2, h3⟩ := ht
  have hM : (nI m).toInt = (m : Int) := nI_toInt (by omega)
  have hL : (nI t.length).toInt = (t.length : Int) := nI_toInt (by omega)
  unfold xM1
  refine xP_s rfl rfl rfl ?_
  refine xP_s rfl rfl rfl ?_
  refine xP_zg rfl hB rfl h1 ?_
  refine xP_s rfl rfl rfl ?_
  refine xP_if (fun hq => ?_) (fun hq => ?_)
  · have := xc_t hq
    dsimp only at this
    have e : c = 0 := by
      rw [← hc]
      unfold oz
      rw [List.getElem?_eq_none (by omega)]
      rfl
    rw [e] at k
    repeat' first
      | refine xP_s rfl rfl rfl ?_
      | refine xP_ret rfl rfl rfl ?_
    exact k
  · have := xc_f hq
    dsimp only at this
    obtain ⟨x, hx⟩ : ∃ x, t[m]? = some x := ⟨t[m]'(by omega), List.getElem?_eq_getElem (by omega)⟩
    have e : c = x := by
      rw [← hc]
      unfold oz
      rw [hx]
      rfl
    rw [e] at k
    refine xP_s rfl rfl rfl ?_
    refine xP_get rfl (mH_28 hB) rfl ?_
    refine xP_s rfl rfl rfl ?_
    refine xP_zl (n := 120) rfl hB rfl rfl (by omega) (h3 m x hx).2 ?_
    repeat' first
      | refine xP_s rfl rfl rfl ?_
      | refine xP_ret rfl rfl rfl ?_
    exact k
theorem nI_p1 (n : Nat) : nI n + 1 = nI (n + 1) := nI_1 n
set_option maxRecDepth 100000 in
theorem q_keep {c : Nat} {w : List Nat} (hB : B.length = 28) (hw : zH v a w) (hl : w.length < 130) (hc : c < 128) (k : ∀ v' a', zH v' a' (w ++ [c]) → vS v v' [25] → aS a a' [42] → P (.inl none) (mH B C v' a' o, g)) : xM1 sc d 155 [.ref 28, .int (nI c)] (mH B C v a o, g) P := by
  obtain ⟨h1, h2, h3⟩ := hw
  unfold xM1
  refine xP_s rfl rfl rfl ?_
  refine xP_get rfl (mH_28 hB) rfl ?_
  refine xP_s rfl rfl rfl ?_
  refine xP_zg rfl hB rfl h1 ?_
  refine xP_s rfl rfl rfl ?_
  refine xP_zs (n := 130) rfl hB rfl rfl hl ?_
  refine xP_s rfl rfl rfl ?_
  refine xP_s rfl rfl rfl ?_
  refine xP_zg rfl hB rfl h1 ?_
  refine xP_s rfl rfl rfl ?_
  refine xP_s rfl rfl rfl ?_
  refine xP_zp rfl hB rfl rfl ?_
  repeat' first
    | refine xP_s rfl rfl rfl ?_
    | refine xP_ret rfl rfl rfl ?_
  refine k _ _ ⟨?_, by simp; omega, fun i x hx => ?_⟩ (vS.u _ _ _) (aS.u _ _ _)
  · rw [upd_s, nI_p1, List.length_append]
    rfl
  · rw [uA_s]
    rcases Nat.lt_or_ge i w.length with z | z
    · rw [List.getElem?_append_left z] at hx
      rw [upd_n (by omega)]
      exact h3 i x hx
    · have hi := (List.getElem?_eq_some_iff.mp hx).1
      rw [List.length_append, List.length_singleton] at hi
      have e : i = w.length := by omega
      subst e
      rw [upd_s]
      simp at hx
      subst hx
      exact ⟨hc, rfl⟩
theorem drop_c {p c : Nat} {r : List Nat} (h : t.drop p = c :: r) : t.drop (p + 1) = r ∧ p < t.length := by
  constructor
  · have := congrArg List.tail h
    rwa [List.tail_drop] at this
  · rcases Nat.lt_or_ge p t.length with z | z
    · exact z
    · rw [List.drop_eq_nil_of_le z] at h
      cases h
set_option maxRecDepth 100000 in
theorem q_wordLoop {x : Int32} (hB : B.length = 28) : ∀ (s : List Nat) (p : Nat) (v : Nat → Int32) (a : Nat → Nat → Int32) (w : List Nat), zT v a t → t.drop p = s → p ≤ t.length → zH v a w → w.length + s.length ≤ 130 →
    (∀ v' a', zH v' a' (w ++ s.takeWhile isWd) → vS v v' [25] → aS a a' [42] → P (.inl (some (.int (nI (p + (s.takeWhile isWd).length))))) (mH B C v' a' o, g)) →
    xP sc (d + 1) 156 2 [(0, .ref 28), (1, .int x), (2, .int (nI p))] [] (mH B C v a o, g) P
  | s, p, v, a, w, ht, hd, hp, hw, hl, k => by
    have hp2 := ht.2.1
    have hlt : oz s 0 < 128 := by
      rw [← oz_0 hd]
      exact ht.lt p
    have done : isWd (oz s 0) = false → xP sc (d + 1) 156 50 [(0, .ref 28), (1, .int x), (2, .int (nI p))] [] (mH B C v a o, g) P := by
      intro hno
      have e : s.takeWhile isWd = [] := by
        cases s with
        | nil => rfl
        | cons c r =>
          rw [oz_c] at hno
          rw [List.takeWhile_cons, hno]
          rfl
      rw [e] at k
      have kk := k v a (by rw [List.append_nil]; exact hw) (vS.refl _ _) (aS.refl _ _)
      repeat' first
        | refine xP_s rfl rfl rfl ?_
        | refine xP_ret rfl rfl rfl ?_
      exact kk
    have go : isWd (oz s 0) = true → xP sc (d + 1) 156 35 [(0, .ref 28), (1, .int x), (2, .int (nI p))] [] (mH B C v a o, g) P := by
      intro hyes
      cases s with
      | nil => exact absurd hyes (by decide)
      | cons c r =>
        obtain ⟨hd', hp'⟩ := drop_c hd
        rw [oz_c] at hyes hlt
        rw [List.length_cons] at hl
        refine xP_s rfl rfl rfl ?_
        refine xP_s rfl rfl rfl ?_
        refine xP_s rfl rfl rfl ?_
        refine xP_cv rfl rfl rfl rfl rfl (mH_28 hB) (q_charAt hB ht (by omega) (oz_0 hd) ?_)
        refine xP_cv rfl rfl rfl rfl rfl (mH_28 hB) (q_keep hB hw (by omega) hlt (fun v1 a1 z1 z2 z3 => ?_))
        refine xP_s rfl rfl rfl ?_
        refine xP_s rfl rfl rfl ?_
        have e : nI p + 1 = nI (p + 1) := nI_p1 p
        rw [e]
        refine q_wordLoop hB r (p + 1) v1 a1 (w ++ [c]) (ht.same z2 z3 (by decide) (by decide)) hd' hp' z1 (by rw [List.length_append, List.length_singleton]; omega) (fun v2 a2 y1 y2 y3 => ?_)
        rw [List.takeWhile_cons, hyes] at k
        have kk := k v2 a2 (by
          rw [List.append_assoc] at y1
          exact y1) (z2.trans y2) (z3.trans y3)
        rw [if_pos rfl, List.length_cons, show p + ((r.takeWhile isWd).length + 1) = p + 1 + (r.takeWhile isWd).length by omega] at kk
        exact kk
    have hW : isWd (oz s 0) = (isSm (oz s 0) || (isGr (oz s 0) || isDg (oz s 0))) := by
      unfold isWd isGr
      cases isSm (oz s 0) <;> cases isLg (oz s 0) <;> cases isDg (oz s 0) <;> simp
    refine xP_s rfl rfl rfl ?_
    refine xP_s rfl rfl rfl ?_
    refine xP_cv rfl rfl rfl rfl rfl (mH_28 hB) (q_charAt hB ht (by omega) (oz_0 hd) ?_)
    refine xP_call rfl rfl rfl (q_isSmall hlt ?_)
    refine xP_s rfl rfl rfl ?_
    rw [xb_ne0]
    refine xP_if (fun hc => ?_) (fun hc => ?_)
    · exact go (by rw [hW, hc]; rfl)
    · refine xP_s rfl rfl rfl ?_
      refine xP_s rfl rfl rfl ?_
      refine xP_cv rfl rfl rfl rfl rfl (mH_28 hB) (q_charAt hB ht (by omega) (oz_0 hd) ?_)
      refine xP_call rfl rfl rfl (q_isGreat hlt ?_)
      refine xP_s rfl rfl rfl ?_
      rw [xb_ne0]
      refine xP_if (fun hc2 => ?_) (fun hc2 => ?_)
      · exact go (by rw [hW, hc, hc2]; rfl)
      · refine xP_s rfl rfl rfl ?_
        refine xP_s rfl rfl rfl ?_
        refine xP_cv rfl rfl rfl rfl rfl (mH_28 hB) (q_charAt hB ht (by omega) (oz_0 hd) ?_)
        refine xP_call rfl rfl rfl (q_isDigit hlt ?_)
        refine xP_s rfl rfl rfl ?_
        rw [xb_eq0]
        refine xP_if (fun hc3 => ?_) (fun hc3 => ?_)
        · exact done (by rw [hW, hc, hc2]; simpa using hc3)
        · exact go (by rw [hW, hc, hc2]; simpa using hc3)
  termination_by s => s.length
  decreasing_by all_goals (subst_vars; simp only [List.length_drop]; omega)
set_option maxRecDepth 100000 in
theorem q_word {p : Nat} {s w : List Nat} (hB : B.length = 28) (ht : zT v a t) (hd : t.drop p = s) (hp : p ≤ t.length) (hw : zH v a w) (hl : w.length + s.length ≤ 130)
    (k : ∀ v' a', zH v' a' (w ++ s.takeWhile isWd) → vS v v' [25] → aS a a' [42] → P (.inl (some (.int (nI (p + (s.takeWhile isWd).length))))) (mH B C v' a' o, g)) : xM1 sc (d + 1) 156 [.ref 28, .int (nI p)] (mH B C v a o, g) P := by
  unfold xM1
  refine xP_s rfl rfl rfl ?_
  refine xP_s rfl rfl rfl ?_
  exact q_wordLoop hB s p v a w ht hd hp hw hl k
end MT
