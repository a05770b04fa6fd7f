-- the reference: characters, text
theorem lcn_le {n m : Nat} (hn : n < 2 ^ 63) (hm : m < 2 ^ 63) : (lg_cmp (lN n) (lN m)).toInt ≤ 0 ↔ n ≤ m := by
  have q := lg_cmp_le (lN n) (lN m)
  rw [Int32.le_iff_toInt_le, Int64.le_iff_toInt_le, lN_T hn, lN_T hm] at q
  rw [show (0 : Int) = (0 : Int32).toInt from rfl, q]
  omega
theorem lcn_ge {n m : Nat} (hn : n < 2 ^ 63) (hm : m < 2 ^ 63) : 0 ≤ (lg_cmp (lN n) (lN m)).toInt ↔ m ≤ n := by
  have q := lg_cmp_ge (lN n) (lN m)
  rw [Int32.le_iff_toInt_le, Int64.le_iff_toInt_le, lN_T hn, lN_T hm] at q
  rw [show (0 : Int) = (0 : Int32).toInt from rfl, q]
  omega
section WR2
variable {sc : xSc} {d g : Nat} {A B C : List xC} {o : Nat → Int64} {P : xO → xH → Prop} {v : Nat → Int32} {a : Nat → Nat → Int32} {t : List Nat} {s : Int64}
set_option maxRecDepth 100000 in
theorem q_chsLoop : ∀ (m i : Nat), i + m = 8 → P (.inl (some (.int (nI (i + (tx s m i).length))))) (A, g) → xP sc d 149 2 [(0, .long s), (2, .int (nI i))] [] (A, g) P
  | 0, i, hm, k => by
    have hI := toI i (by omega)
    have c8 : (8 : Int32).toInt = 8 := rfl
    have e : (tx s 0 i).length = 0 := rfl
    rw [e, Nat.add_zero] at k
    refine xP_s rfl rfl rfl ?_
    refine xP_s rfl rfl rfl ?_
    refine xP_s rfl rfl rfl ?_
    refine xP_if (fun y1 => ?_) (fun y1 => ?_)
    · repeat' first
        | refine xP_s rfl rfl rfl ?_
        | refine xP_ret rfl rfl rfl ?_
      exact k
    · have q := xc_f y1
      dsimp only at q
      omega
  | m + 1, i, hm, k => by
    have hI := toI i (by omega)
    have c8 : (8 : Int32).toInt = 8 := rfl
    have c0 : (0 : Int32).toInt = 0 := rfl
    have hb := bN_lt s i
    have eb := x_byteL s i (by omega)
    have hl1 := lcn_le (n := bN s i) (m := 0) (by omega) (by omega)
    have hl2 := lcn_ge (n := bN s i) (m := 0) (by omega) (by omega)
    refine xP_s rfl rfl rfl ?_
    refine xP_s rfl rfl rfl ?_
    refine xP_s rfl rfl rfl ?_
    refine xP_if (fun y1 => ?_) (fun y1 => ?_)
    · have q := xc_t y1
      dsimp only at q
      omega
    · refine xP_s rfl rfl rfl ?_
      refine xP_s rfl rfl rfl ?_
      refine xP_s rfl rfl rfl ?_
      refine xP_s rfl rfl rfl ?_
      refine xP_s rfl rfl rfl ?_
      refine xP_s rfl rfl rfl ?_
      refine xP_s rfl rfl rfl ?_
      rw [eb]
      refine xP_s rfl rfl rfl ?_
      refine xP_s rfl rfl rfl ?_
      refine xP_s rfl rfl rfl ?_
      refine xP_if (fun y2 => ?_) (fun y2 => ?_)
      · have q2 : (lg_cmp (lN (bN s i)) (lN 0)).toInt = (0 : Int32).toInt := xc_t y2
        have ez : bN s i = 0 := by
          have := hl1.mp (by omega)
          omega
        have e : tx s (m + 1) i = [] := by
          unfold tx
          rw [if_pos ez]
        rw [e] at k
        repeat' first
          | refine xP_s rfl rfl rfl ?_
          | refine xP_ret rfl rfl rfl ?_
        exact k
      · have q2 : ¬ (lg_cmp (lN (bN s i)) (lN 0)).toInt = (0 : Int32).toInt := xc_f y2
        have ez : ¬ bN s i = 0 := fun h => q2 (by
          have h1 := hl1.mpr (by omega)
          have h2 := hl2.mpr (by omega)
          omega)
        have e : tx s (m + 1) i = bN s i :: tx s m (i + 1) := by
          conv => lhs; unfold tx
          rw [if_neg ez]
        rw [e, List.length_cons, show i + ((tx s m (i + 1)).length + 1) = i + 1 + (tx s m (i + 1)).length by omega] at k
        have go := q_chsLoop m (i + 1) (by omega) k
        rw [← nI_p1 i] at go
        refine xP_s rfl rfl rfl ?_
        refine xP_s rfl rfl rfl ?_
        exact go
set_option maxRecDepth 100000 in
theorem q_characters (k : P (.inl (some (.int (nI (txt s).length)))) (A, g)) : xM1 sc d 149 [.long s] (A, g) P := by
  have go := q_chsLoop (sc := sc) (d := d) (A := A) (g := g) (P := P) (s := s) 8 0 rfl (by rw [Nat.zero_add]; exact k)
  unfold xM1
  refine xP_s rfl rfl rfl ?_
  refine xP_s rfl rfl rfl ?_
  exact go
-- are the characters good?
set_option maxHeartbeats 4000000 in
set_option maxRecDepth 100000 in
theorem q_txGood {l : List Nat} (hl : l = txt s) : ∀ (m i : Nat) (b : Bool), i + m = l.length →
    (∀ x5, xP sc d 152 95 [(0, .ref 28), (1, .long s), (3, .int (nI l.length)), (4, .int (xb (b && (l.drop i).all prt))), (5, .int x5)] [] (A, g) P) →
    xP sc d 152 35 [(0, .ref 28), (1, .long s), (3, .int (nI l.length)), (4, .int (xb b)), (5, .int (nI i))] [] (A, g) P
  | 0, i, b, hm, k => by
    have h8 : l.length ≤ 8 := by rw [hl]; exact tx_len s 8 0
    have hI := toI i (by omega)
    have hL := toI l.length (by omega)
    have ed : l.drop i = [] := List.drop_eq_nil_of_le (by omega)
    have kk := k (nI i)
    rw [ed] at kk
    have e1 : (b && ([] : List Nat).all prt) = b := by simp
    rw [e1] at kk
    refine xP_s rfl rfl rfl ?_
    refine xP_s rfl rfl rfl ?_
    refine xP_s rfl rfl rfl ?_
    refine xP_if (fun y1 => ?_) (fun y1 => ?_)
    · exact kk
    · have q := xc_f y1
      dsimp only at q
      omega
  | m + 1, i, b, hm, k => by
    have h8 : l.length ≤ 8 := by rw [hl]; exact tx_len s 8 0
    have hI := toI i (by omega)
    have hL := toI l.length (by omega)
    have c0 : (0 : Int32).toInt = 0 := rfl
    obtain ⟨c, hc⟩ : ∃ c, l[i]? = some c := ⟨l[i]'(by omega), List.getElem?_eq_getElem (by omega)⟩
    have hbn : bN s i = c := by
      have := tx_get s 8 0 i c (by rw [hl] at hc; exact hc)
      rw [Nat.zero_add] at this
      exact this.1
    have hb := bN_lt s i
    have eb := x_byteL s i (by omega)
    rw [hbn] at eb hb
    have ed : l.drop i = c :: l.drop (i + 1) := by
      have e : l[i]'(by omega) = c := by
        have := List.getElem?_eq_getElem (l := l) (i := i) (by omega)
        rw [hc] at this
        exact (Option.some.inj this).symm
      rw [List.drop_eq_getElem_cons (by omega), e]
    have at87 : ∀ b' : Bool, b' = (b && prt c) → xP sc d 152 87 [(0, .ref 28), (1, .long s), (3, .int (nI l.length)), (4, .int (xb b)), (5, .int (nI i))] [.int (xb b')] (A, g) P := by
      intro b' e1
      have go := q_txGood hl m (i + 1) b' (by omega) (fun x5 => by
        have kk := k x5
        rw [ed, List.all_cons, ← Bool.and_assoc, ← e1] at kk
        exact kk)
      rw [← nI_p1 i] at go
      refine xP_s rfl rfl rfl ?_
      refine xP_s rfl rfl rfl ?_
      refine xP_s rfl rfl rfl ?_
      exact go
    have no : (b && prt c) = false → xP sc d 152 86 [(0, .ref 28), (1, .long s), (3, .int (nI l.length)), (4, .int (xb b)), (5, .int (nI i))] [] (A, g) P := by
      intro h
      have kk := at87 false h.symm
      refine xP_s rfl rfl rfl ?_
      exact kk
    have hge := lcn_ge (n := c) (m := 32) (by omega) (by omega)
    have hle := lcn_le (n := c) (m := 126) (by omega) (by omega)
    refine xP_s rfl rfl rfl ?_
    refine xP_s rfl rfl rfl ?_
    refine xP_s rfl rfl rfl ?_
    refine xP_if (fun y1 => ?_) (fun y1 => ?_)
    · have q := xc_t y1
      dsimp only at q
      omega
    · refine xP_s rfl rfl rfl ?_
      refine xP_s rfl rfl rfl ?_
      rw [xb_eq0]
      refine xP_if (fun y2 => ?_) (fun y2 => ?_)
      · exact no (by rw [show b = false by simpa using y2]; rfl)
      · have hb1 : b = true := by simpa using y2
        refine xP_s rfl rfl rfl ?_
        refine xP_s rfl rfl rfl ?_
        refine xP_s rfl rfl rfl ?_
        refine xP_s rfl rfl rfl ?_
        refine xP_s rfl rfl rfl ?_
        refine xP_s rfl rfl rfl ?_
        refine xP_s rfl rfl rfl ?_
        rw [eb]
        refine xP_s rfl rfl rfl ?_
        refine xP_s rfl rfl rfl ?_
        refine xP_s rfl rfl rfl ?_
        refine xP_if (fun y3 => ?_) (fun y3 => ?_)
        · have q3 : (lg_cmp (lN c) (lN 32)).toInt < (0 : Int32).toInt := xc_t y3
          refine no ?_
          unfold prt
          rw [decide_eq_false (fun h => by have := hge.mpr h; omega)]
          simp
        · have q3 : (0 : Int32).toInt ≤ (lg_cmp (lN c) (lN 32)).toInt := xc_f y3
          have h32 := hge.mp (by omega)
          refine xP_s rfl rfl rfl ?_
          refine xP_s rfl rfl rfl ?_
          refine xP_s rfl rfl rfl ?_
          refine xP_s rfl rfl rfl ?_
          refine xP_s rfl rfl rfl ?_
          refine xP_s rfl rfl rfl ?_
          refine xP_s rfl rfl rfl ?_
          rw [eb]
          refine xP_s rfl rfl rfl ?_
          refine xP_s rfl rfl rfl ?_
          refine xP_s rfl rfl rfl ?_
          refine xP_if (fun y4 => ?_) (fun y4 => ?_)
          · have q4 : (0 : Int32).toInt < (lg_cmp (lN c) (lN 126)).toInt := xc_t y4
            refine no ?_
            unfold prt
            rw [decide_eq_false (p := c ≤ 126) (fun h => by have := hle.mpr h; omega)]
            simp
          · have q4 : (lg_cmp (lN c) (lN 126)).toInt ≤ (0 : Int32).toInt := xc_f y4
            have h126 := hle.mp (by omega)
            have kk := at87 true (by
              unfold prt
              rw [hb1, decide_eq_true h32, decide_eq_true h126]
              rfl)
            refine xP_s rfl rfl rfl ?_
            refine xP_s rfl rfl rfl ?_
            exact kk
-- the characters are put behind the text
set_option maxRecDepth 100000 in
theorem q_txPut {l : List Nat} {x4 : Int32} (hB : B.length = 28) (hl : l = txt s) (h1 : v 1 = nI t.length) (hlen : t.length + l.length ≤ 120) (h128 : ∀ c ∈ l, c < 128) : ∀ (m i : Nat) (a : Nat → Nat → Int32), i + m = l.length → (∀ j c : Nat, j < i → l[j]? = some c → a 29 (t.length + j) = nI c) →
    (∀ a', aS a a' [29] → (∀ j, j < t.length → a' 29 j = a 29 j) → (∀ j c : Nat, l[j]? = some c → a' 29 (t.length + j) = nI c) → xP sc d 152 141 [(0, .ref 28), (1, .long s), (3, .int (nI l.length)), (4, .int x4), (5, .int (nI l.length))] [] (mH B C v a' o, g) P) →
    xP sc d 152 105 [(0, .ref 28), (1, .long s), (3, .int (nI l.length)), (4, .int x4), (5, .int (nI i))] [] (mH B C v a o, g) P
  | 0, i, a, hm, he, kk => by
    have h8 : l.length ≤ 8 := by rw [hl]; exact tx_len s 8 0
    have hI := toI i (by omega)
    have hL := toI l.length (by omega)
    have ei : i = l.length := by omega
    have k2 := kk a (aS.refl _ _) (fun _ _ => rfl) (fun j c hj => he j c (by have := (List.getElem?_eq_some_iff.mp hj).1; omega) hj)
    refine xP_s rfl rfl rfl ?_
    refine xP_s rfl rfl rfl ?_
    refine xP_s rfl rfl rfl ?_
    refine xP_if (fun y1 => ?_) (fun y1 => ?_)
    · rw [ei]
      exact k2
    · have q := xc_f y1
      dsimp only at q
      omega
  | m + 1, i, a, hm, he, kk => by
    have h8 : l.length ≤ 8 := by rw [hl]; exact tx_len s 8 0
    have hI := toI i (by omega)
    have hL := toI l.length (by omega)
    obtain ⟨c, hc⟩ : ∃ c, l[i]? = some c := ⟨l[i]'(by omega), List.getElem?_eq_getElem (by omega)⟩
    have hbn : bN s i = c := by
      have := tx_get s 8 0 i c (by rw [hl] at hc; exact hc)
      rw [Nat.zero_add] at this
      exact this.1
    have eb := x_byteL s i (by omega)
    rw [hbn] at eb
    have go := q_txPut (x4 := x4) hB hl h1 hlen h128 m (i + 1) (uA a 29 (upd (a 29) (t.length + i) (nI c))) (by omega) (fun j c' hj hc' => by
      rw [uA_s]
      rcases Nat.lt_or_ge j i with y | y
      · rw [upd_n (by omega)]
        exact he j c' y hc'
      · have ej : j = i := by omega
        rw [ej, upd_s]
        rw [ej, hc] at hc'
        cases hc'
        rfl) (fun a' q1 q2 q3 => kk a' ((aS.u _ _ _).trans q1) (fun j hj => by rw [q2 j hj, uA_s, upd_n (by omega)]) q3)
    rw [← nI_p1 i] at go
    refine xP_s rfl rfl rfl ?_
    refine xP_s rfl rfl rfl ?_
    refine xP_s rfl rfl rfl ?_
    refine xP_if (fun y1 => ?_) (fun y1 => ?_)
    · have q := xc_t y1
      dsimp only at q
      omega
    · refine xP_s rfl rfl rfl ?_
      refine xP_get rfl (mH_28 hB) rfl ?_
      refine xP_s rfl rfl rfl ?_
      refine xP_zg rfl hB rfl h1 ?_
      refine xP_s rfl rfl rfl ?_
      refine xP_s rfl rfl rfl ?_
      rw [nI_add]
      refine xP_s rfl rfl rfl ?_
      refine xP_s rfl rfl rfl ?_
      refine xP_s rfl rfl rfl ?_
      refine xP_s rfl rfl rfl ?_
      refine xP_s rfl rfl rfl ?_
      refine xP_s rfl rfl rfl ?_
      refine xP_s rfl rfl rfl ?_
      rw [eb]
      refine xP_s rfl rfl rfl ?_
      rw [lN_i]
      refine xP_zs (n := 120) rfl hB rfl rfl (by omega) ?_
      refine xP_s rfl rfl rfl ?_
      refine xP_s rfl rfl rfl ?_
      exact go
set_option maxHeartbeats 4000000 in
set_option maxRecDepth 100000 in
theorem q_text (hB : B.length = 28) (ht : zT v a t)
    (k0 : txOK t s = false → P (.inl (some (.int 0))) (mH B C (upd v 0 0) a o, g))
    (k1 : txOK t s = true → ∀ v' a', zT v' a' (t ++ txt s) → v' 0 = 0 → vS v v' [0, 1] → aS a a' [29] → P (.inl (some (.int 1))) (mH B C v' a' o, g)) : xM1 sc (d + 1) 152 [.ref 28, .long s] (mH B C v a o, g) P := by
  have h120 := ht.2.1
  have h8 : (txt s).length ≤ 8 := tx_len s 8 0
  generalize hl : txt s = l at h8
  have hl' : l = txt s := hl.symm
  have hL := toI l.length (by omega)
  have hTL := toI (t.length + l.length) (by omega)
  have c0 : (0 : Int32).toInt = 0 := rfl
  have c120 : (120 : Int32).toInt = 120 := rfl
  have h1 : upd v 0 0 1 = nI t.length := (upd_n (by decide)).trans ht.1
  have etx : txOK t s = (decide (0 < l.length ∧ t.length + l.length ≤ 120) && l.all prt) := by
    unfold txOK
    rw [hl]
  rw [etx] at k0 k1
  rw [hl] at k1
  have at30 : ∀ b : Bool, b = decide (0 < l.length ∧ t.length + l.length ≤ 120) → xP sc (d + 1) 152 30 [(0, .ref 28), (1, .long s), (3, .int (nI l.length))] [.int (xb b)] (mH B C (upd v 0 0) a o, g) P := by
    intro b hb
    have lp := q_txGood (sc := sc) (d := d + 1) (A := mH B C (upd v 0 0) a o) (g := g) (P := P) hl' l.length 0 b (by omega) (fun x5 => by
      rw [List.drop_zero, hb]
      cases hg : (decide (0 < l.length ∧ t.length + l.length ≤ 120) && l.all prt) with
      | false =>
        have k0 := k0 hg
        repeat' first
          | refine xP_s rfl rfl rfl ?_
          | refine xP_ret rfl rfl rfl ?_
        exact k0
      | true =>
        have k1 := k1 hg
        rw [Bool.and_eq_true, decide_eq_true_iff] at hg
        have h128 : ∀ c ∈ l, c < 128 := fun c hc => by
          have := List.all_eq_true.mp hg.2 c hc
          unfold prt at this
          simp only [Bool.and_eq_true, decide_eq_true_eq] at this
          omega
        refine xP_s rfl rfl rfl ?_
        refine xP_s rfl rfl rfl ?_
        refine xP_s rfl rfl rfl ?_
        refine xP_s rfl rfl rfl ?_
        refine q_txPut hB hl' h1 hg.1.2 h128 l.length 0 a (by omega) (fun j c hj => by omega) (fun a' u1 u2 u3 => ?_)
        refine xP_s rfl rfl rfl ?_
        refine xP_s rfl rfl rfl ?_
        refine xP_zg rfl hB rfl h1 ?_
        refine xP_s rfl rfl rfl ?_
        refine xP_s rfl rfl rfl ?_
        rw [nI_add]
        refine xP_zp rfl hB rfl rfl ?_
        have kk := k1 (upd (upd v 0 0) 1 (nI (t.length + l.length))) a' ⟨by rw [upd_s, List.length_append], by rw [List.length_append]; exact hg.1.2, fun i c hi => by
          rcases Nat.lt_or_ge i t.length with z | z
          · rw [List.getElem?_append_left z] at hi
            rw [u2 i z]
            exact ht.2.2 i c hi
          · rw [List.getElem?_append_right z] at hi
            have := u3 _ c hi
            rw [show t.length + (i - t.length) = i by omega] at this
            exact ⟨h128 c (List.mem_of_getElem? hi), this⟩⟩ (by rw [upd_n (by decide), upd_s]) (((vS.u v 0 0).wide (by decide)).up (by decide)) u1
        repeat' first
          | refine xP_s rfl rfl rfl ?_
          | refine xP_ret rfl rfl rfl ?_
        exact kk)
    refine xP_s rfl rfl rfl ?_
    refine xP_s rfl rfl rfl ?_
    refine xP_s rfl rfl rfl ?_
    exact lp
  unfold xM1
  refine xP_s rfl rfl rfl ?_
  refine xP_s rfl rfl rfl ?_
  refine xP_zp rfl hB rfl rfl ?_
  refine xP_s rfl rfl rfl ?_
  refine xP_call rfl rfl rfl (q_characters ?_)
  rw [hl]
  refine xP_s rfl rfl rfl ?_
  refine xP_s rfl rfl rfl ?_
  refine xP_s rfl rfl rfl ?_
  refine xP_if (fun y1 => ?_) (fun y1 => ?_)
  · have q := xc_t y1
    dsimp only at q
    have kk := at30 false (decide_eq_false (by omega)).symm
    refine xP_s rfl rfl rfl ?_
    exact kk
  · have q := xc_f y1
    dsimp only at q
    refine xP_s rfl rfl rfl ?_
    refine xP_zg rfl hB rfl h1 ?_
    refine xP_s rfl rfl rfl ?_
    refine xP_s rfl rfl rfl ?_
    rw [nI_add]
    refine xP_s rfl rfl rfl ?_
    refine xP_s rfl rfl rfl ?_
    refine xP_if (fun y2 => ?_) (fun y2 => ?_)
    · have q2 := xc_t y2
      dsimp only at q2
      have kk := at30 false (decide_eq_false (by omega)).symm
      refine xP_s rfl rfl rfl ?_
      exact kk
    · have q2 := xc_f y2
      dsimp only at q2
      have kk := at30 true (decide_eq_true (by omega)).symm
      refine xP_s rfl rfl rfl ?_
      refine xP_s rfl rfl rfl ?_
      exact kk
end WR2
