-- the reference: signs, single, hex
def tkN (k : Nat) : Nat := [0, 4, 2, 1, 3, 5, 6, 7].getD k 0
/-- the token that has been scanned -/
def zK (t : List Nat) (v : Nat → Int32) (a : Nat → Nat → Int32) (q : xTok) : Prop := q.1 ≤ 7 ∧ v 20 = nI (tkN q.1) ∧ (∃ e, e ≤ 1000 ∧ v 22 = nI e ∧ (q.1 < 6 → e = t.length - q.2.2.2.length)) ∧ ((q.1 = 1 ∨ q.1 = 2 ∨ q.1 = 4) → zH v a q.2.2.1) ∧ ((q.1 = 3 ∨ q.1 = 5) → v 23 = nI q.2.1)
theorem sg_no : ∀ c, c < 128 → isSg c = true → isSm c = false ∧ isLg c = false ∧ ¬ c = 95 ∧ isDg c = false := by decide
theorem lexT_sg {c : Nat} {r : List Nat} (hc : c < 128) (h : isSg c = true) : lexT (c :: r) = (if (c :: r).takeWhile isSg = [46] ∧ (((c :: r).dropWhile isSg).head? = none ∨ ((c :: r).dropWhile isSg).head? = some 32 ∨ ((c :: r).dropWhile isSg).head? = some 37) then (0, 0, [], (c :: r).dropWhile isSg)
      else if ((c :: r).takeWhile isSg).length ≤ 24 then (1, 0, (c :: r).takeWhile isSg, (c :: r).dropWhile isSg) else wrg) := by
  obtain ⟨h1, h2, h3, h4⟩ := sg_no c hc h
  rw [lexT_cons, if_neg (by simp [h1]), if_neg (by simp [h2, h3]), if_neg (by simp [h4]), if_pos h]
section MV
variable {sc : xSc} {d g : Nat} {B C : List xC} {v : Nat → Int32} {a : Nat → Nat → Int32} {o : Nat → Int64} {t : List Nat} {P : xO → xH → Prop}
set_option maxRecDepth 100000 in
theorem q_signsLoop {x : Int32} (hB : B.length = 28) : ∀ (s : List Nat) (p : Nat) (v : Nat → Int32) (a : Nat → Nat → Int32) (w : List Nat), zT v a t → t.drop p = s → p ≤ t.length → zH v a w → w.length + s.length ≤ 130 →
    (∀ v' a', zH v' a' (w ++ s.takeWhile isSg) → vS v v' [25] → aS a a' [42] → xP sc (d + 1) 158 28 [(0, .ref 28), (1, .int x), (2, .int (nI (p + (s.takeWhile isSg).length)))] [] (mH B C v' a' o, g) P) →
    xP sc (d + 1) 158 2 [(0, .ref 28), (1, .int x), (2, .int (nI p))] [] (mH B C v a o, g) P
  | s, p, v, a, w, ht, hd, hp, hw, hl, k => by
    have hp2 := ht.2.1
    have hlt : oz s 0 < 128 := by
      rw [← oz_0 hd]
      exact ht.lt p
    refine xP_s rfl rfl rfl ?_
    refine xP_s rfl rfl rfl ?_
    refine xP_cv rfl rfl rfl rfl rfl (mH_28 hB) (q_charAt hB ht (by omega) (oz_0 hd) ?_)
    refine xP_call rfl rfl rfl (q_isSign hlt ?_)
    refine xP_s rfl rfl rfl ?_
    rw [xb_eq0]
    refine xP_if (fun hc => ?_) (fun hc => ?_)
    · have e : s.takeWhile isSg = [] := by
        cases s with
        | nil => rfl
        | cons c r =>
          rw [oz_c] at hc
          rw [List.takeWhile_cons, show isSg c = false by simpa using hc]
          rfl
      rw [e] at k
      exact k v a (by rw [List.append_nil]; exact hw) (vS.refl _ _) (aS.refl _ _)
    · have hyes : isSg (oz s 0) = true := by simpa using hc
      cases s with
      | nil => exact absurd hyes (by decide)
      | cons c r =>
        obtain ⟨hd', hp'⟩ := drop_c hd
        rw [oz_c] at hyes hlt
        rw [List.length_cons] at hl
        refine xP_s rfl rfl rfl ?_
        refine xP_s rfl rfl rfl ?_
        refine xP_s rfl rfl rfl ?_
        refine xP_cv rfl rfl rfl rfl rfl (mH_28 hB) (q_charAt hB ht (by omega) (oz_0 hd) ?_)
        refine xP_cv rfl rfl rfl rfl rfl (mH_28 hB) (q_keep hB hw (by omega) hlt (fun v1 a1 z1 z2 z3 => ?_))
        refine xP_s rfl rfl rfl ?_
        refine xP_s rfl rfl rfl ?_
        have e : nI p + 1 = nI (p + 1) := nI_p1 p
        rw [e]
        refine q_signsLoop hB r (p + 1) v1 a1 (w ++ [c]) (ht.same z2 z3 (by decide) (by decide)) hd' hp' z1 (by rw [List.length_append, List.length_singleton]; omega) (fun v2 a2 y1 y2 y3 => ?_)
        rw [List.takeWhile_cons, hyes] at k
        have kk := k v2 a2 (by
          rw [List.append_assoc] at y1
          exact y1) (z2.trans y2) (z3.trans y3)
        rw [if_pos rfl, List.length_cons, show p + ((r.takeWhile isSg).length + 1) = p + 1 + (r.takeWhile isSg).length by omega] at kk
        exact kk
  termination_by s => s.length
  decreasing_by all_goals (subst_vars; simp only [List.length_drop]; omega)
theorem wh_drop {f : Nat → Bool} {p : Nat} {s : List Nat} (hd : t.drop p = s) : t.drop (p + (s.takeWhile f).length) = s.dropWhile f := by
  rw [← List.drop_drop, hd]
  have e := List.takeWhile_append_dropWhile (p := f) (l := s)
  have e2 : (s.takeWhile f ++ s.dropWhile f).drop (s.takeWhile f).length = s.dropWhile f := List.drop_left
  rwa [e] at e2
theorem wh_len {f : Nat → Bool} (s : List Nat) : (s.takeWhile f).length + (s.dropWhile f).length = s.length := by
  have := congrArg List.length (List.takeWhile_append_dropWhile (p := f) (l := s))
  rwa [List.length_append] at this
theorem hd_oz {s : List Nat} {x : Nat} (hx : ¬ x = 0) : s.head? = some x ↔ oz s 0 = x := by
  cases s with
  | nil =>
    rw [oz_n]
    constructor
    · intro h; cases h
    · intro h; omega
  | cons c r =>
    rw [oz_c, List.head?_cons]
    constructor
    · intro h; cases h; rfl
    · intro h; rw [h]
theorem vS.up {w : Nat → Int32} {l : List Nat} {k : Nat} {x : Int32} (h : vS v w l) (hk : k ∈ l) : vS v (upd w k x) l := fun j hj => by
  have hne : ¬ j = k := fun q => hj (by rw [q]; exact hk)
  rw [upd_n hne]
  exact h j hj
set_option maxHeartbeats 4000000 in
set_option maxRecDepth 100000 in
theorem q_signs {p c : Nat} {r : List Nat} (hB : B.length = 28) (ht : zT v a t) (hd : t.drop p = c :: r) (hp : p ≤ t.length) (hc : isSg c = true) (hw : zH v a [])
    (k : ∀ v' a', zK t v' a' (lexT (c :: r)) → vS v v' [20, 22, 25] → aS a a' [42] → P (.inl none) (mH B C v' a' o, g)) : xM1 sc (d + 1) 158 [.ref 28, .int (nI p)] (mH B C v a o, g) P := by
  have h120 := ht.2.1
  have hl := drop_l2 hd hp
  have hclt : c < 128 := by
    have := ht.lt p
    rwa [oz_0 hd] at this
  rw [lexT_sg hclt hc] at k
  have hwl := wh_len (f := isSg) (c :: r)
  have hwd := wh_drop (f := isSg) hd
  have hw1 : ∃ r', (c :: r).takeWhile isSg = c :: r' := by
    rw [List.takeWhile_cons, hc]
    exact ⟨_, rfl⟩
  unfold xM1
  refine xP_s rfl rfl rfl ?_
  refine xP_s rfl rfl rfl ?_
  refine q_signsLoop hB (c :: r) p v a [] ht hd hp hw (by rw [List.length_nil]; omega) (fun v1 a1 z1 z2 z3 => ?_)
  rw [List.nil_append] at z1
  generalize hW : (c :: r).takeWhile isSg = w at *
  generalize hS : (c :: r).dropWhile isSg = s2 at *
  obtain ⟨r', hr'⟩ := hw1
  have ht1 := ht.same z2 z3 (by decide) (by decide)
  have hwlen : w.length = r'.length + 1 := by rw [hr']; rfl
  have hlt2 : oz s2 0 < 128 := by
    have := ht1.lt (p + w.length)
    rwa [oz_0 hwd] at this
  have hC : (nI c).toInt = (c : Int) := nI_toInt (by omega)
  have hD : (nI (oz s2 0)).toInt = (oz s2 0 : Int) := nI_toInt (by omega)
  have hWl : (nI w.length).toInt = (w.length : Int) := nI_toInt (by omega)
  have hPl : (nI (p + w.length)).toInt = ((p + w.length : Nat) : Int) := nI_toInt (by omega)
  have hL : (nI t.length).toInt = (t.length : Int) := nI_toInt (by omega)
  have h1 : (1 : Int32).toInt = 1 := rfl
  have h46 : (46 : Int32).toInt = 46 := rfl
  have h32 : (32 : Int32).toInt = 32 := rfl
  have h37 : (37 : Int32).toInt = 37 := rfl
  have h24 : (24 : Int32).toInt = 24 := rfl
  have hz2 : zH (upd v1 22 (nI (p + w.length))) a1 w := z1.same (vS.u _ _ _) (aS.refl _ []) (by decide) (by decide)
  have ht2 : zT (upd v1 22 (nI (p + w.length))) a1 t := ht1.same (vS.u _ _ _) (aS.refl _ []) (by decide) (by decide)
  have hvs : vS v (upd v1 22 (nI (p + w.length))) [20, 22, 25] := (z2.wide (by decide)).up (by decide)
  have h22 : upd v1 22 (nI (p + w.length)) 22 = nI (p + w.length) := upd_s
  generalize hV : upd v1 22 (nI (p + w.length)) = v2 at *
  have fin : ∀ b : Bool, (b = true ↔ (w = [46] ∧ (s2.head? = none ∨ s2.head? = some 32 ∨ s2.head? = some 37))) → xP sc (d + 1) 158 85 [(0, .ref 28), (1, .int (nI p)), (2, .int (nI (p + w.length)))] [.int (xb b)] (mH B C v2 a1 o, g) P := by
    intro b hb
    cases b with
    | true =>
      rw [if_pos (hb.mp rfl)] at k
      refine xP_s rfl rfl rfl ?_
      refine xP_s rfl rfl rfl ?_
      refine xP_s rfl rfl rfl ?_
      refine xP_s rfl rfl rfl ?_
      refine xP_s rfl rfl rfl ?_
      refine xP_s rfl rfl rfl ?_
      refine xP_zp rfl hB rfl rfl ?_
      repeat' first
        | refine xP_s rfl rfl rfl ?_
        | refine xP_ret rfl rfl rfl ?_
      refine k _ _ ⟨by simp, upd_s, ⟨p + w.length, by omega, by rw [upd_n (by decide)]; exact h22, fun _ => by dsimp only; omega⟩, fun h => absurd h (by simp), fun h => absurd h (by simp)⟩ (hvs.up (by decide)) (z3.wide (by decide))
    | false =>
      rw [if_neg (fun h => absurd (hb.mpr h) (by decide))] at k
      refine xP_s rfl rfl rfl ?_
      refine xP_s rfl rfl rfl ?_
      refine xP_s rfl rfl rfl ?_
      refine xP_s rfl rfl rfl ?_
      refine xP_s rfl rfl rfl ?_
      refine xP_zg rfl hB rfl hz2.1 ?_
      refine xP_s rfl rfl rfl ?_
      refine xP_s rfl rfl rfl ?_
      refine xP_if (fun hq => ?_) (fun hq => ?_)
      · have q := xc_t hq
        dsimp only at q
        rw [if_pos (by omega)] at k
        refine xP_s rfl rfl rfl ?_
        refine xP_zp rfl hB rfl rfl ?_
        repeat' first
          | refine xP_s rfl rfl rfl ?_
          | refine xP_ret rfl rfl rfl ?_
        refine k _ _ ⟨by simp, upd_s, ⟨p + w.length, by omega, by rw [upd_n (by decide)]; exact h22, fun _ => by dsimp only; omega⟩, fun _ => hz2.same (vS.u _ _ _) (aS.refl _ []) (by decide) (by decide), fun h => absurd h (by simp)⟩ (hvs.up (by decide)) (z3.wide (by decide))
      · have q := xc_f hq
        dsimp only at q
        rw [if_neg (by omega)] at k
        refine xP_s rfl rfl rfl ?_
        refine xP_s rfl rfl rfl ?_
        refine xP_zp rfl hB rfl rfl ?_
        repeat' first
          | refine xP_s rfl rfl rfl ?_
          | refine xP_ret rfl rfl rfl ?_
        refine k _ _ ⟨by decide, upd_s, ⟨p + w.length, by omega, by rw [upd_n (by decide)]; exact h22, fun h => absurd h (by decide)⟩, fun h => absurd h (by decide), fun h => absurd h (by decide)⟩ (hvs.up (by decide)) (z3.wide (by decide))
  have no : ¬ (w = [46] ∧ (s2.head? = none ∨ s2.head? = some 32 ∨ s2.head? = some 37)) → xP sc (d + 1) 158 84 [(0, .ref 28), (1, .int (nI p)), (2, .int (nI (p + w.length)))] [] (mH B C v2 a1 o, g) P := by
    intro hn
    refine xP_s rfl rfl rfl ?_
    exact fin false ⟨fun h => Bool.noConfusion h, fun h => absurd h hn⟩
  have yes : (w = [46] ∧ (s2.head? = none ∨ s2.head? = some 32 ∨ s2.head? = some 37)) → xP sc (d + 1) 158 80 [(0, .ref 28), (1, .int (nI p)), (2, .int (nI (p + w.length)))] [] (mH B C v2 a1 o, g) P := by
    intro hn
    refine xP_s rfl rfl rfl ?_
    refine xP_s rfl rfl rfl ?_
    exact fin true ⟨fun _ => hn, fun _ => rfl⟩
  refine xP_s rfl rfl rfl ?_
  refine xP_s rfl rfl rfl ?_
  refine xP_zp rfl hB rfl rfl ?_
  rw [hV]
  refine xP_s rfl rfl rfl ?_
  refine xP_zg rfl hB rfl hz2.1 ?_
  refine xP_s rfl rfl rfl ?_
  refine xP_s rfl rfl rfl ?_
  refine xP_if (fun hq => ?_) (fun hq => ?_)
  · have q := xc_t hq
    dsimp only at q
    refine no (fun h => ?_)
    rw [h.1] at hWl
    exact q (by rw [h.1]; exact hWl.trans h1.symm)
  · have q := xc_f hq
    dsimp only at q
    have er : r' = [] := List.length_eq_zero_iff.mp (by omega)
    rw [er] at hr'
    have hh : a1 42 0 = nI c := (hz2.2.2 0 c (by rw [hr']; rfl)).2
    refine xP_s rfl rfl rfl ?_
    refine xP_get rfl (mH_28 hB) rfl ?_
    refine xP_s rfl rfl rfl ?_
    refine xP_zl (m := 0) (n := 130) rfl hB rfl rfl (by decide) hh ?_
    refine xP_s rfl rfl rfl ?_
    refine xP_s rfl rfl rfl ?_
    refine xP_if (fun hq2 => ?_) (fun hq2 => ?_)
    · have q2 := xc_t hq2
      dsimp only at q2
      refine no (fun h => ?_)
      rw [hr'] at h
      cases h.1
      exact q2 rfl
    · have q2 := xc_f hq2
      dsimp only at q2
      have e46 : w = [46] := by rw [hr', show c = 46 by omega]
      refine xP_s rfl rfl rfl ?_
      refine xP_s rfl rfl rfl ?_
      refine xP_zg rfl hB rfl ht2.1 ?_
      refine xP_s rfl rfl rfl ?_
      refine xP_if (fun hq3 => ?_) (fun hq3 => ?_)
      · have q3 := xc_t hq3
        dsimp only at q3
        refine yes ⟨e46, Or.inl ?_⟩
        have : s2 = [] := List.length_eq_zero_iff.mp (by omega)
        rw [this]
        rfl
      · have q3 := xc_f hq3
        dsimp only at q3
        refine xP_s rfl rfl rfl ?_
        refine xP_s rfl rfl rfl ?_
        refine xP_cv rfl rfl rfl rfl rfl (mH_28 hB) (q_charAt hB ht2 (by omega) (oz_0 hwd) ?_)
        refine xP_s rfl rfl rfl ?_
        refine xP_s rfl rfl rfl ?_
        refine xP_if (fun hq4 => ?_) (fun hq4 => ?_)
        · have q4 := xc_t hq4
          dsimp only at q4
          exact yes ⟨e46, Or.inr (Or.inl ((hd_oz (by decide)).mpr (by omega)))⟩
        · have q4 := xc_f hq4
          dsimp only at q4
          refine xP_s rfl rfl rfl ?_
          refine xP_s rfl rfl rfl ?_
          refine xP_cv rfl rfl rfl rfl rfl (mH_28 hB) (q_charAt hB ht2 (by omega) (oz_0 hwd) ?_)
          refine xP_s rfl rfl rfl ?_
          refine xP_s rfl rfl rfl ?_
          refine xP_if (fun hq5 => ?_) (fun hq5 => ?_)
          · have q5 := xc_t hq5
            dsimp only at q5
            refine no (fun h => ?_)
            rcases h.2 with y | y | y
            · cases s2 with
              | nil =>
                rw [List.length_nil] at hwl
                omega
              | cons x y2 => cases y
            · exact q4 (by rw [(hd_oz (by decide)).mp y]; rfl)
            · exact q5 (by rw [(hd_oz (by decide)).mp y]; rfl)
          · have q5 := xc_f hq5
            dsimp only at q5
            exact yes ⟨e46, Or.inr (Or.inr ((hd_oz (by decide)).mpr (by omega)))⟩
end MV
