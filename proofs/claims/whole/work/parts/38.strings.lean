-- Parser: strings and lists
section PT
variable {sc : xSc} {d g : Nat} {t nm : List Nat} {sl : List xSl} {u p v : Nat} {G : xG} {P : xO → xH → Prop}
theorem iI_sub1 {i : Nat} (h : i < 2 ^ 31) : nI (i + 1) + (-1) = nI i := by
  rw [← nI_1, Int32.add_assoc]
  exact Int32.add_zero _
set_option maxHeartbeats 4000000 in
set_option maxRecDepth 100000 in
theorem p_stringLoop2 {n a b pr : Nat} {F0 : xF} {A0 : List xC} {w : List Nat} (h0 : nm0 nm) (hw12 : w.length ≤ 12) (ha : a < u) (hval : G.2.2.2.1 a = nI b) (hb : b + w.length ≤ t.length) (hbt : (t.drop b).take w.length = w) (hbud : n + 2 * w.length + 1 ≤ 840) :
    ∀ (i : Nat) (A : List xC) (F : xF) (c a' : Nat) (xi : Int32), i ≤ w.length → xi.toInt = (i : Int) - 1 → xWd A t nm sl u p v G c F a' pr → c = n + (strL (w.drop i)).length → xTr F nm ((w.drop i).length + 1) n c (strL (w.drop i)) → F.2.2.2.2.2 (c - 1) = nI ((w.drop i).length + 1) → F.2.2.2.2.1 (c - 1) = -1 → xA0 F0 F n → xSame A0 A pL →
    (∀ A' F', xWd A' t nm sl u p v G (n + (strL w).length) F' a' pr → xTr F' nm (w.length + 1) n (n + (strL w).length) (strL w) → F'.2.2.2.2.2 (n + (strL w).length - 1) = nI (w.length + 1) → F'.2.2.2.2.1 (n + (strL w).length - 1) = -1 → xA0 F0 F' n → xSame A0 A' pL → P (.inl (some (.int (nI (n + (strL w).length - 1))))) (A', g)) →
    xP sc (d + 12) 49 21 [(0, .ref 25), (1, .int (nI a)), (2, .int (nI (c - 1))), (3, .int xi)] [] (A, g) P
  | 0, A, F, c, a', xi, hi, hxi, hw, hc, htr, hdp, hnx, hag, hsm, k => by
    have h0' : (0 : Int32).toInt = 0 := rfl
    rw [List.drop_zero] at hc htr hdp
    subst hc
    refine xP_s rfl rfl rfl ?_
    refine xP_s rfl rfl rfl ?_
    refine xP_if (fun hc => ?_) (fun hc => ?_)
    · repeat' first
        | refine xP_s rfl rfl rfl ?_
        | refine xP_ret rfl rfl rfl ?_
      exact k A F hw htr hdp hnx hag hsm
    · have := xc_f hc
      dsimp only at this
      omega
  | i + 1, A, F, c, a', xi, hi, hxi, hw, hc, htr, hdp, hnx, hag, hsm, k => by
    have h0' : (0 : Int32).toInt = 0 := rfl
    obtain ⟨hs, hn, ho, ht, hp, h25, hpr⟩ := id hw
    unfold xPa at h25
    have hl := hs.len
    have exi : xi = nI i := Int32.toInt_inj.mp (by rw [hxi, nI_toInt (by omega)]; omega)
    subst exi
    obtain ⟨ch, hch⟩ : ∃ ch, w[i]? = some ch := ⟨w[i]'(by omega), List.getElem?_eq_getElem (by omega)⟩
    have hdrop : w.drop i = ch :: w.drop (i + 1) := by
      rw [List.drop_eq_getElem_cons (by omega)]
      congr 1
      have := List.getElem?_eq_getElem (show i < w.length by omega)
      rw [this] at hch
      exact Option.some.inj hch
    have htc : t[b + i]? = some ch := by
      have h1 := congrArg (fun l => l[i]?) hbt
      rw [List.getElem?_take_of_lt (by omega), List.getElem?_drop, hch] at h1
      exact h1
    have hch128 := hs.chr ch (List.mem_of_getElem? htc)
    have hln : (strL (w.drop (i + 1))).length = 2 * (w.length - (i + 1)) + 1 := by rw [strL_len, List.length_drop]
    have hdl : (w.drop (i + 1)).length = w.length - (i + 1) := List.length_drop
    have g1 := htr.root
    refine xP_s rfl rfl rfl ?_
    refine xP_s rfl rfl rfl ?_
    refine xP_if (fun hc => ?_) (fun hc => ?_)
    · have := xc_t hc
      dsimp only at this
      rw [nI_toInt (by omega)] at this
      omega
    · refine xP_s rfl rfl rfl ?_
      refine xP_get rfl h25 rfl ?_
      refine xP_s rfl rfl rfl ?_
      refine xP_get rfl h25 rfl ?_
      refine xP_s rfl rfl rfl ?_
      refine xP_s rfl rfl rfl ?_
      refine xP_cv rfl rfl rfl rfl rfl ht.2.1 (p_stringCharacter ht hs ha ?_)
      rw [hval, nI_add, cAt_get (by omega) htc]
      refine xP_cv rfl rfl rfl rfl rfl hp.2.1 (p_addInteger hp (fun hz => ?_) (fun hz A2 x1 x2 => ?_))
      · omega
      · have hw2 := hw.setP x1 x2
        obtain ⟨ys, yn, yo, yt, yp, y25, ypr⟩ := id hw2
        unfold xPa at y25
        have hcN : (nI ch).toInt = (ch : Int) := nI_toInt (by omega)
        have tl : xTr (xAdd F c 1 (nI ch) 0 (-1) 1) nm 1 c (c + 1) [(1, (ch : Int), [], 0)] := tr_leaf (x3 := 0) rfl (by simp) ⟨fun _ => rfl, fun h => by simp at h, fun _ => rfl, fun h => by simp at h⟩ (fun _ => hcN) (fun h => by simp at h)
        have a0 : xA0 F (xAdd F c 1 (nI ch) 0 (-1) 1) c := xA0_add F c _ _ _ _ _ (Nat.le_refl _)
        have tr := htr.same0 a0 (Nat.le_refl _)
        refine xP_s rfl rfl rfl ?_
        refine xP_s rfl rfl rfl ?_
        refine xP_get rfl y25 rfl ?_
        refine xP_s rfl rfl rfl ?_
        refine xP_s rfl rfl rfl ?_
        refine xP_s rfl rfl rfl ?_
        refine xP_s rfl rfl rfl ?_
        refine xP_cv rfl rfl rfl rfl rfl yp.2.1 (p_addPair (l := c) (r := c - 1) (Dl := 1) (Dr := (w.drop (i + 1)).length + 1) yp (by omega) (by omega) (by omega) pk_us ⟨by omega, by omega⟩ ((a0 (c - 1) (by omega)).2.2.2.2.2.trans hdp) ⟨by omega, by omega⟩ (fun hz A3 y1 y2 => ?_) (fun hz hz2 A3 y1 y2 => ?_))
        · omega
        · have hw3 := hw2.setP y1 y2
          have hpair := tr_pair (lo := n) (n := c + 1) (z := 0) (w := [46]) (x5 := nI (max 1 ((w.drop (i + 1)).length + 1) + 1)) tl tr (Or.inr (Nat.le_refl _)) (by omega) (Nat.le_refl _) (Nat.le_refl _) (by omega) h0.1
          have hmax : max 1 ((w.drop (i + 1)).length + 1) = (w.drop i).length := by
            rw [hdrop, List.length_cons]
            omega
          have hmax2 : max 1 ((w.drop (i + 1)).length + 1) + 1 = (w.drop i).length + 1 := by rw [hmax]
          have hlist : ((3, 0, [46], 2) :: ([(1, (ch : Int), [], 0)] ++ strL (w.drop (i + 1))) : List xIt) = strL (w.drop i) := by
            rw [hdrop]
            rfl
          have hlen2 : c + 1 + 1 = n + (strL (w.drop i)).length := by
            rw [← hlist]
            simp
            omega
          rw [hmax2, hlist] at hpair
          rw [hmax2] at hw3
          have a1 : xA0 F (xAdd (xLk (xAdd F c 1 (nI ch) 0 (-1) 1) c (c - 1)) (c + 1) 3 0 1 (nI c) (nI ((w.drop i).length + 1))) n := (xA0.trans (xA0.trans (fun j hj => a0 j (by omega)) (xA0_lk _ (by omega) (by omega)) (Nat.le_refl n)) (xA0_add _ _ _ _ _ _ _ (by omega)) (Nat.le_refl n))
          have go := p_stringLoop2 h0 hw12 ha hval hb hbt hbud i A3 _ (c + 1 + 1) a' (nI i + (-1)) (by omega) (by
            cases i with
            | zero => rfl
            | succ i =>
              rw [iI_sub1 (by omega), nI_toInt (by omega)]
              omega) hw3 hlen2 hpair pk_us pk_us (hag.trans a1 (Nat.le_refl _)) (((hsm.trans x2).trans y2).wide (by decide)) k
          have go1 := xP_more [(4, .int (nI c))] rfl go
          repeat' first
            | exact go1
            | refine xP_s rfl rfl rfl ?_
set_option maxRecDepth 100000 in
theorem p_string {n a m pr : Nat} {A : List xC} {F : xF} {s : List Nat} {vs : List (List Nat)} {a' : Nat} (h0 : nm0 nm) (hw : xWd A t nm sl u p v G n F a' pr) (hta : xTA t nm G u m a s vs) (hsx : sfx t s) (hk : (nx s).1 = 4) (hbud : n + 2 * s.length ≤ 840)
    (k : ∀ A' F', xWd A' t nm sl u p v G (n + (strL (nx s).2.2.1).length) F' a' pr → xTr F' nm ((nx s).2.2.1.length + 1) n (n + (strL (nx s).2.2.1).length) (strL (nx s).2.2.1) → F'.2.2.2.2.2 (n + (strL (nx s).2.2.1).length - 1) = nI ((nx s).2.2.1.length + 1) → F'.2.2.2.2.1 (n + (strL (nx s).2.2.1).length - 1) = -1 → xA0 F F' n → xSame A A' pL → P (.inl (some (.int (nI (n + (strL (nx s).2.2.1).length - 1))))) (A', g)) : xM1 sc (d + 12) 49 [.ref 25, .int (nI a)] (A, g) P := by
  obtain ⟨hs, hn, ho, ht, hp, h25, hpr⟩ := id hw
  unfold xPa at h25
  have hl := hs.len
  obtain ⟨q1, q2, s', y1, y2, y3⟩ := TA_E hta
  obtain ⟨w0, e0, e1, e2⟩ := nx_str hk
  have hu := ht.1
  have hsl2 := congrArg List.length e0
  rw [List.length_append] at hsl2
  have hk' : (lexT s').1 = 4 := by rw [← y2]; exact hk
  obtain ⟨w1, f1, f2, f3, f4⟩ := lexT_str hk'
  rw [← y2] at f1 f2 f3 f4
  have sx := hsx.trans (lay_sfx y1)
  have dr := sx.drop
  obtain ⟨v1, v2⟩ := y3.2.2.2.2.2.2.1 hk
  have hs'l := congrArg List.length f1
  rw [List.length_append] at hs'l
  have hbt : (t.drop (t.length - s'.length + 1)).take (nx s).2.2.1.length = (nx s).2.2.1 := by
    rw [← List.drop_drop, dr.1]
    exact f4
  unfold xM1
  refine xP_s rfl rfl rfl ?_
  refine xP_get rfl h25 rfl ?_
  refine xP_s rfl rfl rfl ?_
  refine xP_s rfl rfl rfl ?_
  refine xP_cv rfl rfl rfl rfl rfl hp.2.1 (p_addAtom hp (fun hz => ?_) (fun hz A2 x1 x2 => ?_))
  · omega
  · have hw2 := hw.setP x1 x2
    obtain ⟨ys, yn, yo, yt, yp, y25, ypr⟩ := id hw2
    unfold xPa at y25
    have tl : xTr (xAdd F n 2 1 2 (-1) 1) nm 1 n (n + 1) [nilP] := tr_leaf rfl (by decide) ⟨fun _ => rfl, fun h => by simp [nilP] at h, fun h => by simp [nilP] at h, fun _ => rfl⟩ (fun h => by simp [nilP] at h) (fun _ => ⟨1, rfl, rfl, h0.2.1⟩)
    have a0 : xA0 F (xAdd F n 2 1 2 (-1) 1) n := xA0_add F n _ _ _ _ _ (Nat.le_refl _)
    have hdr : (nx s).2.2.1.drop (nx s).2.2.1.length = [] := List.drop_eq_nil_of_le (Nat.le_refl _)
    have go := p_stringLoop2 (sc := sc) (d := d) (g := g) (P := P) h0 f3 q1 v1 (by omega) hbt (by omega) (nx s).2.2.1.length A2 _ (n + 1) a' (nI (nx s).2.2.1.length - 1) (Nat.le_refl _) (nI_sub1 (by omega)) hw2 (by rw [hdr]; rfl) (by rw [hdr]; exact tl) (by rw [hdr]; exact pk_us) pk_us a0 (x2.wide (by decide)) k
    refine xP_s rfl rfl rfl ?_
    refine xP_s rfl rfl rfl ?_
    refine xP_get rfl y25 rfl ?_
    refine xP_s rfl rfl rfl ?_
    refine xP_cv rfl rfl rfl rfl rfl yt.2.1 (p_tsize yt (by omega) ?_)
    rw [if_pos q1, v2]
    repeat' first
      | exact go
      | refine xP_s rfl rfl rfl ?_
end PT
