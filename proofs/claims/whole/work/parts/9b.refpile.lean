-- the reference: takesOn; the pile
theorem oR_eq (e : xSl) : oRight (some e) = (e.2.1 : Int) ↔ oOpen (some e) = true := by
  unfold oRight
  rw [show slP (some e) = e.2.1 from rfl]
  split
  next h => exact ⟨fun _ => h, fun _ => rfl⟩
  next h => exact ⟨fun q => by omega, fun q => absurd q h⟩
section WH2
variable {sc : xSc} {d g : Nat} {B C : List xC} {o : Nat → Int64} {P : xO → xH → Prop} {v : Nat → Int32} {a : Nat → Nat → Int32} {N : List (List Nat)} {Q : List xIt} {sl : List xSl} {p : xIt} {r : Nat}
set_option maxHeartbeats 4000000 in
set_option maxRecDepth 100000 in
theorem q_takesOn {m : Nat} (hB : B.length = 28) (ho : zO v a o sl) (hn : zN v a N) (hq : zQ v a N Q) (hr : Q[r]? = some p) (hp : okP p) (hi : okIt p) (h46 : ∀ e ∈ sl, ¬ e.1 = 46) (h32 : ∀ e ∈ sl, ¬ e.1 = 32123) (hm : 1 ≤ m ∧ m ≤ 1200) (k : P (.inl (some (.int (xb (tko sl p m))))) (mH B C v a o, g)) : xM1 sc (d + 3) 190 [.ref 28, .int (nI r), .int (nI m)] (mH B C v a o, g) P := by
  have hrl := (List.getElem?_eq_some_iff.mp hr).1
  have hql := hq.2.1
  obtain ⟨z1, z2, z3, z4, z5, z6⟩ := hq.2.2 r p hr
  have hAr := toI p.2.2.2 (by omega)
  have hM := toI m (by omega)
  have c0 : (0 : Int32).toInt = 0 := rfl
  have c2 : (2 : Int32).toInt = 2 := rfl
  have hpl : slP (slF sl p) ≤ 1200 := by
    cases hx : slF sl p with
    | none => exact Nat.zero_le _
    | some e =>
      have := (slF_e hx).2.1
      obtain ⟨_, _, _, _, _, _, _, h3⟩ := ho
      exact (h3 e this).2.1
  have hPl := toI (slP (slF sl p)) (by omega)
  have no : tko sl p m = false → xP sc (d + 3) 190 19 [(0, .ref 28), (1, .int (nI r)), (2, .int (nI m))] [] (mH B C v a o, g) P := by
    intro h
    rw [h] at k
    repeat' first
      | refine xP_s rfl rfl rfl ?_
      | refine xP_ret rfl rfl rfl ?_
    exact k
  unfold xM1
  refine xP_s rfl rfl rfl ?_
  refine xP_s rfl rfl rfl ?_
  refine xP_cv rfl rfl rfl rfl rfl (mH_28 hB) (q_priorityOf hB ho hn hq hr hp hi h46 h32 ?_)
  refine xP_s rfl rfl rfl ?_
  refine xP_s rfl rfl rfl ?_
  refine xP_if (fun y1 => ?_) (fun y1 => ?_)
  · have q := xc_t y1
    dsimp only at q
    refine no ?_
    unfold tko
    rw [decide_eq_false (fun h => q (by rw [h]))]
    rfl
  · have q := xc_f y1
    dsimp only at q
    have em : slP (slF sl p) = m := by omega
    obtain ⟨e, he⟩ : ∃ e, slF sl p = some e := by
      cases hx : slF sl p with
      | none =>
        rw [hx] at em
        have : slP (none : Option xSl) = 0 := rfl
        omega
      | some e => exact ⟨e, rfl⟩
    obtain ⟨k3, he1, he2, he3⟩ := slF_e he
    have em2 : e.2.1 = m := by rw [he] at em; exact em
    have etk : tko sl p m = oOpen (some e) := by
      unfold tko
      rw [decide_eq_true em, he]
      rfl
    rw [etk] at k
    obtain ⟨j, hj, hv⟩ := z4 (by omega)
    obtain ⟨kk1, kk2⟩ := ho.key p.2.2.1
    rw [← kP_2 (p := p) (by omega)] at kk1 kk2
    have har : p.2.2.2 = 1 ∨ p.2.2.2 = 2 := by omega
    have yes : ∀ x4, oOpen (some e) = true → xP sc (d + 3) 190 81 [(0, .ref 28), (1, .int (nI r)), (2, .int (nI m)), (3, .long x4)] [.int 1] (mH B C v a o, g) P := by
      intro x4 h
      rw [h] at k
      repeat' first
        | refine xP_s rfl rfl rfl ?_
        | refine xP_ret rfl rfl rfl ?_
      exact k
    have nay : ∀ x4, oOpen (some e) = false → xP sc (d + 3) 190 81 [(0, .ref 28), (1, .int (nI r)), (2, .int (nI m)), (3, .long x4)] [.int 0] (mH B C v a o, g) P := by
      intro x4 h
      rw [h] at k
      repeat' first
        | refine xP_s rfl rfl rfl ?_
        | refine xP_ret rfl rfl rfl ?_
      exact k
    have cmp : ∀ x : Int32, x.toInt = oRight (some e) → (x.toInt = (nI m).toInt ↔ oOpen (some e) = true) := by
      intro x hx
      rw [hx, hM, ← em2]
      exact oR_eq e
    refine xP_s rfl rfl rfl ?_
    refine xP_get rfl (mH_28 hB) rfl ?_
    refine xP_s rfl rfl rfl ?_
    refine xP_zl (n := 1000) rfl hB rfl rfl (by omega) z5 ?_
    refine xP_s rfl rfl rfl ?_
    refine xP_s rfl rfl rfl ?_
    refine xP_if (fun y2 => ?_) (fun y2 => ?_)
    · refine xP_s rfl rfl rfl ?_
      refine xP_s rfl rfl rfl ?_
      refine xP_get rfl (mH_28 hB) rfl ?_
      refine xP_s rfl rfl rfl ?_
      refine xP_zl (n := 1000) rfl hB rfl rfl (by omega) hv ?_
      refine xP_cv rfl rfl rfl rfl rfl (mH_28 hB) (q_keyOf hB hn hj ?_)
      refine xP_s rfl rfl rfl ?_
      refine xP_s rfl rfl rfl ?_
      refine xP_get rfl (mH_28 hB) rfl ?_
      refine xP_s rfl rfl rfl ?_
      refine xP_zl (n := 1000) rfl hB rfl rfl (by omega) z5 ?_
      refine xP_s rfl rfl rfl ?_
      refine xP_s rfl rfl rfl ?_
      refine xP_if (fun y3 => ?_) (fun y3 => ?_)
      · have q3 := xc_t y3
        dsimp only at q3
        have h1 : p.2.2.2 = 1 := by omega
        have hle := (ho.le (key := kP p)).1
        have hS := toI (slP (opP sl (kP p))) (by omega)
        refine xP_s rfl rfl rfl ?_
        refine xP_s rfl rfl rfl ?_
        refine xP_cv rfl rfl rfl rfl rfl (mH_28 hB) (q_prefixOf hB ho ?_)
        rw [kk1]
        refine xP_s rfl rfl rfl ?_
        refine xP_if (fun y4 => ?_) (fun y4 => ?_)
        · have q4 := xc_t y4
          dsimp only at q4
          have hnp : ¬ (opP sl (kP p)).isSome = true := fun h => by
            have := (slP_pos ho).2.mpr h
            omega
          have hpo : oPost (some e) = true := by
            rcases he3 with y | y | y
            · exfalso
              have e1 : slF sl p = some e := he
              unfold slF at e1
              rw [if_pos k3, if_neg (fun h => hnp h.2)] at e1
              split at e1
              · have := (opB_e e1).2.2
                have h2 := y.2
                have : oPre (some e) = false := by
                  unfold isPre at this
                  unfold oPre
                  rw [show slT (some e) = (e.2.2 : Int) from rfl]
                  simp only [Bool.or_eq_false_iff, decide_eq_false_iff_not] at this ⊢
                  omega
                rw [this] at h2
                cases h2
              · cases e1
            · exact y.2.2
            · omega
          have hop : oOpen (some e) = false := by
            unfold oPost at hpo
            unfold oOpen
            rw [show slT (some e) = (e.2.2 : Int) from rfl] at hpo ⊢
            simp only [Bool.or_eq_true, decide_eq_true_eq] at hpo
            simp only [Bool.or_eq_false_iff, decide_eq_false_iff_not]
            omega
          refine xP_s rfl rfl rfl ?_
          exact nay _ hop
        · have q4 := xc_f y4
          dsimp only at q4
          have hps : (opP sl (kP p)).isSome = true := (slP_pos ho).2.mp (by omega)
          have hpe : opP sl (kP p) = some e := by
            have e1 : slF sl p = some e := he
            unfold slF at e1
            rw [if_pos k3, if_pos ⟨h1, hps⟩] at e1
            exact e1
          refine xP_s rfl rfl rfl ?_
          refine xP_s rfl rfl rfl ?_
          refine xP_cv rfl rfl rfl rfl rfl (mH_28 hB) (q_operandOf (e := e) hB ho (by rw [kk1]; exact hpe) (fun x hx => ?_))
          have hc := cmp x hx
          refine xP_s rfl rfl rfl ?_
          refine xP_s rfl rfl rfl ?_
          refine xP_if (fun y5 => ?_) (fun y5 => ?_)
          · have q5 := xc_t y5
            dsimp only at q5
            refine xP_s rfl rfl rfl ?_
            exact nay _ (by
              cases hz : oOpen (some e) with
              | false => rfl
              | true => exact absurd (hc.mpr hz) q5)
          · have q5 := xc_f y5
            dsimp only at q5
            refine xP_s rfl rfl rfl ?_
            refine xP_s rfl rfl rfl ?_
            exact yes _ (hc.mp q5)
      · have q3 := xc_f y3
        dsimp only at q3
        have h2 : p.2.2.2 = 2 := by omega
        have hbe : opB sl (kP p) = some e := by
          have e1 : slF sl p = some e := he
          unfold slF at e1
          rw [if_pos k3, if_neg (by omega)] at e1
          split at e1
          · exact e1
          · cases e1
        refine xP_s rfl rfl rfl ?_
        refine xP_s rfl rfl rfl ?_
        refine xP_cv rfl rfl rfl rfl rfl (mH_28 hB) (q_rightOf (e := e) hB ho (by rw [kk2]; exact hbe) (fun x hx => ?_))
        have hc := cmp x hx
        refine xP_s rfl rfl rfl ?_
        refine xP_s rfl rfl rfl ?_
        refine xP_if (fun y5 => ?_) (fun y5 => ?_)
        · have q5 := xc_t y5
          dsimp only at q5
          refine xP_s rfl rfl rfl ?_
          refine xP_s rfl rfl rfl ?_
          exact nay _ (by
            cases hz : oOpen (some e) with
            | false => rfl
            | true => exact absurd (hc.mpr hz) q5)
        · have q5 := xc_f y5
          dsimp only at q5
          refine xP_s rfl rfl rfl ?_
          refine xP_s rfl rfl rfl ?_
          exact yes _ (hc.mp q5)
    · have q2 := xc_f y2
      dsimp only at q2
      omega
/-- the pile of what is to be written, the next one first -/
def piA (a : Nat → Nat → Int32) : List (Int32 × Int32) → Prop
  | [] => True
  | x :: r => a 49 r.length = x.1 ∧ a 50 r.length = x.2 ∧ piA a r
theorem piA.same {a a' : Nat → Nat → Int32} : ∀ {S : List (Int32 × Int32)}, piA a S → (∀ i, i < S.length → a' 49 i = a 49 i ∧ a' 50 i = a 50 i) → piA a' S
  | [], h, hs => trivial
  | x :: r, h, hs => by
    rw [List.length_cons] at hs
    exact ⟨(hs r.length (by omega)).1.trans h.1, (hs r.length (by omega)).2.trans h.2.1, h.2.2.same (fun i hi => hs i (by omega))⟩
/-- what writing stands on -/
def zY (sl : List xSl) (N : List (List Nat)) (Q : List xIt) (v : Nat → Int32) (a : Nat → Nat → Int32) (o : Nat → Int64) (S : List (Int32 × Int32)) (w : List Nat) : Prop := zO v a o sl ∧ zN v a N ∧ zQ v a N Q ∧ (v 37 = nI S.length ∧ piA a S ∧ S.length ≤ 900) ∧ zX v a w
variable {S : List (Int32 × Int32)} {w : List Nat} {v' : Nat → Int32} {a' : Nat → Nat → Int32}
theorem zY.ou {w' : List Nat} (h : zY sl N Q v a o S w) (hv : vS v v' [40]) (ha : aS a a' [51]) (hx : zX v' a' w') : zY sl N Q v' a' o S w' := by
  obtain ⟨h1, h2, h3, ⟨h4, h5, h6⟩, h7⟩ := h
  exact ⟨h1.same hv ha (by decide) (by decide) (by decide) (by decide) (by decide), h2.same hv ha (by decide) (by decide) (by decide) (by decide) (by decide), h3.same hv ha (by decide) (by decide) (by decide) (by decide), ⟨by rw [hv 37 (by decide)]; exact h4, h5.same (fun i _ => ⟨by rw [ha 49 (by decide)], by rw [ha 50 (by decide)]⟩), h6⟩, hx⟩
theorem zY.pi {S' : List (Int32 × Int32)} (h : zY sl N Q v a o S w) (hv : vS v v' [37]) (ha : aS a a' [49, 50]) (h37 : v' 37 = nI S'.length) (hp : piA a' S') (hl : S'.length ≤ 900) : zY sl N Q v' a' o S' w := by
  obtain ⟨h1, h2, h3, _, h7⟩ := h
  exact ⟨h1.same hv ha (by decide) (by decide) (by decide) (by decide) (by decide), h2.same hv ha (by decide) (by decide) (by decide) (by decide) (by decide), h3.same hv ha (by decide) (by decide) (by decide) (by decide), ⟨h37, hp, hl⟩, h7.same hv ha (by decide) (by decide)⟩
/-- a character is written -/
theorem y_out {c : Nat} (hB : B.length = 28) (hY : zY sl N Q v a o S w) (hl : w.length < 2600) (hc : c < 128) (k : ∀ v' a', zY sl N Q v' a' o S (w ++ [c]) → vS v v' [37, 40] → aS a a' [49, 50, 51] → P (.inl none) (mH B C v' a' o, g)) : xM1 sc d 180 [.ref 28, .int (nI c)] (mH B C v a o, g) P :=
  q_out hB hY.2.2.2.2 hl hc (fun v1 a1 y1 y2 y3 => k v1 a1 (hY.ou y2 y3 y1) (y2.wide (by decide)) (y3.wide (by decide)))
theorem y_name {l : List Nat} {j : Nat} (hB : B.length = 28) (hY : zY sl N Q v a o S w) (hj : N[j]? = some l) (hl : w.length + (nmW l).length ≤ 2590) (k : ∀ v' a', zY sl N Q v' a' o S (w ++ nmW l) → vS v v' [37, 40] → aS a a' [49, 50, 51] → P (.inl none) (mH B C v' a' o, g)) : xM1 sc (d + 2) 184 [.ref 28, .int (nI j)] (mH B C v a o, g) P :=
  q_name hB hY.2.1 hj hY.2.2.2.2 hl (fun v1 a1 y1 y2 y3 => k v1 a1 (hY.ou y2 y3 y1) (y2.wide (by decide)) (y3.wide (by decide)))
theorem y_later {x y : Int32} (hB : B.length = 28) (hY : zY sl N Q v a o S w) (hl : S.length < 900) (k : ∀ v' a', zY sl N Q v' a' o ((x, y) :: S) w → vS v v' [37, 40] → aS a a' [49, 50, 51] → P (.inl none) (mH B C v' a' o, g)) : xM1 sc d 181 [.ref 28, .int x, .int y] (mH B C v a o, g) P :=
  q_later hB hY.2.2.2.1.1 hl (fun v1 a1 y1 y2 y3 y4 y5 => k v1 a1 (hY.pi y4 y5 (by rw [y1]; rfl) ⟨by rw [y2, upd_s], by rw [y3, upd_s], hY.2.2.2.1.2.1.same (fun i hi => ⟨by rw [y2, upd_n (by omega)], by rw [y3, upd_n (by omega)]⟩)⟩ (by rw [List.length_cons]; omega)) (y4.wide (by decide)) (y5.wide (by decide)))
end WH2
