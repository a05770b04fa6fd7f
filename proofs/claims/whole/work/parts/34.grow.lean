-- trees that grow; operators ahead
def xA0 (F F' : xF) (n : Nat) : Prop := ∀ j, j < n → F'.1 j = F.1 j ∧ F'.2.1 j = F.2.1 j ∧ F'.2.2.1 j = F.2.2.1 j ∧ F'.2.2.2.1 j = F.2.2.2.1 j ∧ F'.2.2.2.2.1 j = F.2.2.2.2.1 j ∧ F'.2.2.2.2.2 j = F.2.2.2.2.2 j
theorem xA0.refl (F : xF) (n : Nat) : xA0 F F n := fun _ _ => ⟨rfl, rfl, rfl, rfl, rfl, rfl⟩
theorem xA0.trans {F F' F2 : xF} {n n' : Nat} (h : xA0 F F' n) (h' : xA0 F' F2 n') (hn : n ≤ n') : xA0 F F2 n := fun j hj => by
  obtain ⟨a1, a2, a3, a4, a5, a6⟩ := h j hj
  obtain ⟨b1, b2, b3, b4, b5, b6⟩ := h' j (by omega)
  exact ⟨b1.trans a1, b2.trans a2, b3.trans a3, b4.trans a4, b5.trans a5, b6.trans a6⟩
theorem xA0_add (F : xF) (n : Nat) (x1 x2 x3 x4 x5 : Int32) {k : Nat} (hk : k ≤ n) : xA0 F (xAdd F n x1 x2 x3 x4 x5) k := fun j hj => by
  have h : j ≠ n := by omega
  exact ⟨pk_un h, pk_un h, pk_un h, pk_un h, pk_un h, pk_un h⟩
theorem xA0_lk (F : xF) {l r k : Nat} (hl : k ≤ l) (hr : k ≤ r) : xA0 F (xLk F l r) k := fun j hj => by
  have h1 : j ≠ l := by omega
  have h2 : j ≠ r := by omega
  refine ⟨rfl, rfl, rfl, rfl, ?_, rfl⟩
  show upd (upd F.2.2.2.2.1 l (nI r)) r (-1) j = _
  rw [pk_un h2, pk_un h1]
theorem xA0.ag {F F' : xF} {n lo hi : Nat} (h : xA0 F F' n) (hh : hi ≤ n) : xAg F F' lo hi := fun j _ h2 => by
  obtain ⟨a1, a2, a3, a4, a5, a6⟩ := h j (by omega)
  exact ⟨a1, a2, a3, a4, fun _ => a5⟩
theorem xTr.same0 {F F' : xF} {nm : List Nat} {e lo hi n : Nat} {L : List xIt} (h : xTr F nm e lo hi L) (hg : xA0 F F' n) (hh : hi ≤ n) : xTr F' nm e lo hi L := by
  have := h.frame (r := []) (hg.ag (lo := lo) hh)
  rwa [List.append_nil] at this
theorem xTr.frame0 {F F' : xF} {nm : List Nat} {e lo hi : Nat} {L : List xIt} (h : xTr F nm e lo hi L) (hg : xAg F F' lo hi) : xTr F' nm e lo hi L := by
  have := h.frame (r := []) hg
  rwa [List.append_nil] at this
/-- a part without arguments -/
theorem tr_leaf {F : xF} {nm : List Nat} {n : Nat} {x1 x2 x3 x5 : Int32} {p : xIt} (hk : x1 = nI p.1) (h3 : p.1 < 3) (hok : okIt p) (hv : p.1 < 2 → x2.toInt = p.2.1) (hn : 2 ≤ p.1 → ∃ z, x2 = nI z ∧ x3 = nI p.2.2.1.length ∧ nmAt nm z p.2.2.1) : xTr (xAdd F n x1 x2 x3 (-1) x5) nm 1 n (n + 1) [p] := by
  refine ⟨by omega, p, [], rfl, hok, ⟨?_, by omega, ?_, ?_⟩, ?_⟩
  · show upd F.1 n x1 n = _
    rw [pk_us]
    exact hk
  · intro h
    show (upd F.2.1 n x2 n).toInt = _
    rw [pk_us]
    exact hv h
  · intro h
    obtain ⟨z, z1, z2, z3⟩ := hn h
    refine ⟨z, ?_, ?_, z3⟩
    · show upd F.2.1 n x2 n = _
      rw [pk_us]
      exact z1
    · show upd F.2.2.1 n x3 n = _
      rw [pk_us]
      exact z2
  · rw [hok.1 h3]
    refine ⟨?_, rfl⟩
    show upd F.2.2.2.1 n (-1) n = -1
    rw [pk_us]
/-- a part with arguments that stand there -/
theorem tr_many {F : xF} {nm : List Nat} {e lo n k z : Nat} {x4 x5 : Int32} {w : List Nat} {L : List xIt} (hc : xCh F (fun a b l => xTr F nm e a b l) k x4 lo n L) (hk : 1 ≤ k ∧ k ≤ 6) (hlo : lo < n) (hz : nmAt nm z w) : xTr (xAdd F n 3 (nI z) (nI w.length) x4 x5) nm (e + 1) lo (n + 1) ((3, 0, w, k) :: L) := by
  refine ⟨by omega, (3, 0, w, k), L, rfl, ⟨fun h => by simp at h, fun _ => hk, fun h => by simp at h, fun _ => rfl⟩, ⟨?_, by simp, fun h => by simp at h, fun _ => ⟨z, ?_, ?_, hz⟩⟩, ?_⟩
  · show upd F.1 n 3 n = _
    rw [pk_us]
    rfl
  · show upd F.2.1 n (nI z) n = _
    rw [pk_us]
  · show upd F.2.2.1 n (nI w.length) n = _
    rw [pk_us]
  · show xCh _ _ k (upd F.2.2.2.1 n x4 n) lo n L
    rw [pk_us]
    refine xCh_map (fun j h1 h2 => ?_) (fun a b l h1 h2 ht => ht.same0 (xA0_add F n 3 (nI z) (nI w.length) x4 x5 (Nat.le_refl _)) h2) hc
    show upd F.2.2.2.2.1 n (-1) j = _
    rw [pk_un (by omega)]
theorem tr_one {F : xF} {nm : List Nat} {e lo n z : Nat} {x5 : Int32} {w : List Nat} {R : List xIt} (ht : xTr F nm e lo n R) (hx : F.2.2.2.2.1 (n - 1) = -1) (hz : nmAt nm z w) : xTr (xAdd F n 3 (nI z) (nI w.length) (nI (n - 1)) x5) nm (e + 1) lo (n + 1) ((3, 0, w, 1) :: R) :=
  tr_many ⟨lo, n, R, [], Nat.le_refl _, ht.root, Nat.le_refl _, rfl, ht, (List.append_nil _).symm, hx, rfl⟩ ⟨by omega, by omega⟩ ht.root hz
theorem tr_pair {F : xF} {nm : List Nat} {e1 e2 lo n l1 l2 r1 r2 z : Nat} {x5 : Int32} {w : List Nat} {L R : List xIt} (hl : xTr F nm e1 l1 l2 L) (hr : xTr F nm e2 r1 r2 R) (hd : l2 ≤ r1 ∨ r2 ≤ l1) (h1 : lo ≤ l1) (h2 : lo ≤ r1) (h3 : l2 ≤ n) (h4 : r2 ≤ n) (hz : nmAt nm z w) : xTr (xAdd (xLk F (l2 - 1) (r2 - 1)) n 3 (nI z) (nI w.length) (nI (l2 - 1)) x5) nm (max e1 e2 + 1) lo (n + 1) ((3, 0, w, 2) :: (L ++ R)) := by
  have q1 := hl.root
  have q2 := hr.root
  have fx : ∀ j, (xLk F (l2 - 1) (r2 - 1)).2.2.2.2.1 j = upd (upd F.2.2.2.2.1 (l2 - 1) (nI (r2 - 1))) (r2 - 1) (-1) j := fun _ => rfl
  have aL : xAg F (xLk F (l2 - 1) (r2 - 1)) l1 l2 := fun j z1 z2 => ⟨rfl, rfl, rfl, rfl, fun z3 => by
    rw [fx, pk_un (by omega), pk_un (by omega)]⟩
  have aR : xAg F (xLk F (l2 - 1) (r2 - 1)) r1 r2 := fun j z1 z2 => ⟨rfl, rfl, rfl, rfl, fun z3 => by
    rw [fx, pk_un (by omega), pk_un (by omega)]⟩
  refine tr_many (k := 2) ⟨l1, l2, L, R, h1, q1, h3, rfl, (hl.frame0 aL).le (by omega), rfl, r1, r2, R, [], h2, q2, h4, ?_, (hr.frame0 aR).le (by omega), (List.append_nil _).symm, ?_, rfl⟩ ⟨by omega, by omega⟩ (by omega) hz
  · rw [fx, pk_un (by omega), pk_us]
  · rw [fx, pk_us]
section PB
variable {sc : xSc} {d g : Nat} {A : List xC} {t nm : List Nat} {sl : List xSl} {u p v : Nat} {G : xG} {n : Nat} {F : xF} {a pr : Nat} {m : Nat} {s : List Nat} {vs : List (List Nat)} {P : xO → xH → Prop}
set_option maxRecDepth 100000 in
theorem p_isPrefixed (hw : xWd A t nm sl u p v G n F a pr) (hta : xTA t nm G u m a s vs) (hsx : sfx t s) (hch : ∀ c ∈ t, 32 ≤ c ∧ c ≤ 126) {x : Int32} {most : Int} (hx : x.toInt = most) (k : P (.inl (some (.int (xb (pfx sl most s).isSome)))) (A, g)) : xM1 sc (d + 5) 41 [.ref 25, .int x] (A, g) P := by
  obtain ⟨hs, hn, ho, ht, hp, h25, hpr⟩ := id hw
  unfold xPa at h25
  obtain ⟨q1, q2, _⟩ := TA_E hta
  have hu := ht.1
  have hl := hs.len
  have h1 : (1 : Int32).toInt = 1 := rfl
  have hm1 : (-1 : Int32).toInt = -1 := rfl
  have hkd := TA_kind hta
  have hky := TA_key hta
  have hB := sI_none _ (fun j h => (fnd_lt ho (pre := true) (key := tK (nx s)) h).2)
  have hv := fun j h => (fnd_lt ho (pre := true) (key := tK (nx s)) (i := j) h).1
  unfold xM1
  refine xP_s rfl rfl rfl ?_
  refine xP_get rfl h25 rfl ?_
  refine xP_s rfl rfl rfl ?_
  refine xP_get rfl h25 rfl ?_
  refine xP_cv rfl rfl rfl rfl rfl ht.2.1 (p_tkind ht (by omega) ?_)
  rw [if_pos q1]
  refine xP_s rfl rfl rfl ?_
  refine xP_s rfl rfl rfl ?_
  refine xP_if (fun hc => ?_) (fun hc => ?_)
  · have z := xc_t hc
    dsimp only at z
    have e : pfx sl most s = none := by
      unfold pfx
      rw [if_neg (fun q => by omega)]
    rw [e] at k
    repeat' first
      | refine xP_s rfl rfl rfl ?_
      | refine xP_ret rfl rfl rfl ?_
    exact k
  · have z := xc_f hc
    dsimp only at z
    have hk1 : (nx s).1 = 1 := by omega
    refine xP_s rfl rfl rfl ?_
    refine xP_get rfl h25 rfl ?_
    refine xP_s rfl rfl rfl ?_
    refine xP_get rfl h25 rfl ?_
    refine xP_cv rfl rfl rfl rfl rfl ht.2.1 (p_isCall ht (by omega) (TA_call hta hl hsx hch) ?_)
    cases hcal : isCal (nx s)
    · refine xP_s rfl rfl rfl ?_
      refine xP_s rfl rfl rfl ?_
      refine xP_get rfl h25 rfl ?_
      refine xP_s rfl rfl rfl ?_
      refine xP_get rfl h25 rfl ?_
      refine xP_cv rfl rfl rfl rfl rfl ht.2.1 (p_isMinusOfInteger ht hs (by omega) (TA_min hta hl hsx hch) ?_)
      cases hmin : isMin s (nx s)
      · have e : pfx sl most s = (match opP sl (tK (nx s)) with
          | some e => if (e.2.1 : Int) ≤ most ∧ bgn (nx (nx s).2.2.2) = true ∧ bare sl (nx s).2.2.2 = false then some e else none
          | none => none) := by
          unfold pfx
          rw [if_pos ⟨hk1, hcal, hmin⟩]
          rfl
        obtain ⟨m', h'⟩ := TA_next hta (by omega)
        have hsx' : sfx t (nx s).2.2.2 := hsx.trans (nx_sfx' q2)
        have hss' : ∀ c ∈ (nx s).2.2.2, 32 ≤ c ∧ c ≤ 126 := fun c hc => hch c (hsx'.mem c hc)
        obtain ⟨r1, r2, _⟩ := TA_E h'
        refine xP_s rfl rfl rfl ?_
        refine xP_s rfl rfl rfl ?_
        refine xP_get rfl h25 rfl ?_
        refine xP_s rfl rfl rfl ?_
        refine xP_get rfl h25 rfl ?_
        refine xP_s rfl rfl rfl ?_
        refine xP_get rfl h25 rfl ?_
        refine xP_cv rfl rfl rfl rfl rfl ht.2.1 (p_tkey ht (by omega) ?_)
        rw [if_pos q1, hky]
        refine xP_cv rfl rfl rfl rfl rfl ho.obj (p_prefix ho ?_)
        refine xP_s rfl rfl rfl ?_
        refine xP_s rfl rfl rfl ?_
        refine xP_s rfl rfl rfl ?_
        refine xP_s rfl rfl rfl ?_
        unfold opP at e
        refine xP_if (fun hc => ?_) (fun hc => ?_)
        · have y := xc_t hc
          dsimp only at y
          rw [hm1, hB] at y
          rw [y] at e
          rw [e] at k
          repeat' first
            | refine xP_s rfl rfl rfl ?_
            | refine xP_ret rfl rfl rfl ?_
          exact k
        · have y := xc_f hc
          dsimp only at y
          rw [hm1, hB] at y
          cases hf : fnd true (tK (nx s)) sl 0 with
          | none => exact absurd hf y
          | some j =>
            have hj := hv j hf
            obtain ⟨en, hen⟩ : ∃ en, sl[j]? = some en := ⟨sl[j]'hj, List.getElem?_eq_getElem hj⟩
            have hsE : slE sl (some j) = some en := hen
            rw [hf, hsE] at e
            dsimp only at e
            have hent := ho.ent hen
            have hEn : (nI en.2.1).toInt = (en.2.1 : Int) := nI_toInt (by omega)
            refine xP_s rfl rfl rfl ?_
            refine xP_get rfl h25 rfl ?_
            refine xP_s rfl rfl rfl ?_
            refine xP_cv rfl rfl rfl rfl rfl ho.obj (p_priority (o := some j) ho (fun i h => Option.some.inj h ▸ hj) ?_)
            rw [hsE]
            refine xP_s rfl rfl rfl ?_
            refine xP_s rfl rfl rfl ?_
            refine xP_if (fun hc => ?_) (fun hc => ?_)
            · have w := xc_t hc
              dsimp only [slP] at w
              rw [if_neg (fun q => by omega)] at e
              rw [e] at k
              repeat' first
                | refine xP_s rfl rfl rfl ?_
                | refine xP_ret rfl rfl rfl ?_
              exact k
            · have w := xc_f hc
              dsimp only [slP] at w
              refine xP_s rfl rfl rfl ?_
              refine xP_get rfl h25 rfl ?_
              refine xP_s rfl rfl rfl ?_
              refine xP_get rfl h25 rfl ?_
              refine xP_s rfl rfl rfl ?_
              refine xP_s rfl rfl rfl ?_
              rw [nI_1]
              refine xP_cv rfl rfl rfl rfl rfl ht.2.1 (p_beginsTerm ht (by omega) ?_)
              rw [TA_bgn h' hss']
              cases hbg : bgn (nx (nx s).2.2.2)
              · rw [if_neg (fun q => by rw [hbg] at q; exact absurd q.2.1 (by decide))] at e
                rw [e] at k
                repeat' first
                  | refine xP_s rfl rfl rfl ?_
                  | refine xP_ret rfl rfl rfl ?_
                exact k
              · refine xP_s rfl rfl rfl ?_
                refine xP_s rfl rfl rfl ?_
                refine xP_s rfl rfl rfl ?_
                refine xP_get rfl h25 rfl ?_
                refine xP_s rfl rfl rfl ?_
                refine xP_s rfl rfl rfl ?_
                rw [nI_1]
                refine xP_cv rfl rfl rfl rfl rfl h25 (p_isBareBehind hw h' hsx' hch ?_)
                cases hba : bare sl (nx s).2.2.2
                · rw [if_pos ⟨by omega, hbg, hba⟩] at e
                  rw [e] at k
                  repeat' first
                    | refine xP_s rfl rfl rfl ?_
                    | refine xP_ret rfl rfl rfl ?_
                  exact k
                · rw [if_neg (fun q => by rw [hba] at q; exact absurd q.2.2 (by decide))] at e
                  rw [e] at k
                  repeat' first
                    | refine xP_s rfl rfl rfl ?_
                    | refine xP_ret rfl rfl rfl ?_
                  exact k
      · have e : pfx sl most s = none := by
          unfold pfx
          rw [if_neg (fun q => by rw [hmin] at q; exact absurd q.2.2 (by decide))]
        rw [e] at k
        repeat' first
          | refine xP_s rfl rfl rfl ?_
          | refine xP_ret rfl rfl rfl ?_
        exact k
    · have e : pfx sl most s = none := by
        unfold pfx
        rw [if_neg (fun q => by rw [hcal] at q; exact absurd q.2.1 (by decide))]
      rw [e] at k
      repeat' first
        | refine xP_s rfl rfl rfl ?_
        | refine xP_ret rfl rfl rfl ?_
      exact k
end PB
