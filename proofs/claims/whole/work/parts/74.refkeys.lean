-- the reference: names kept, keys
def ltN : List (List Nat) → Nat
  | [] => 0
  | w :: r => w.length + ltN r
theorem ltN_app : ∀ (A B : List (List Nat)), ltN (A ++ B) = ltN A + ltN B
  | [], B => by simp [ltN]
  | w :: r, B => by
    rw [List.cons_append, ltN, ltN, ltN_app r B]
    omega
def ofN (N : List (List Nat)) (i : Nat) : Nat := ltN (N.take i)
theorem ofN_le : ∀ {N : List (List Nat)} {i : Nat} {w : List Nat}, N[i]? = some w → ofN N i + w.length ≤ ltN N
  | [], i, w, h => by simp at h
  | u :: r, 0, w, h => by
    simp at h
    subst h
    simp [ofN, ltN]
  | u :: r, i + 1, w, h => by
    rw [List.getElem?_cons_succ] at h
    have := ofN_le h
    unfold ofN at this ⊢
    rw [List.take_succ_cons, ltN, ltN]
    omega
theorem ofN_app {N : List (List Nat)} {w : List Nat} {i : Nat} (h : i ≤ N.length) : ofN (N ++ [w]) i = ofN N i := by
  unfold ofN
  rw [List.take_append_of_le_length h]
theorem ofN_end (N : List (List Nat)) : ofN N N.length = ltN N := by
  unfold ofN
  rw [List.take_length]
/-- the names kept -/
def zN (v : Nat → Int32) (a : Nat → Nat → Int32) (N : List (List Nat)) : Prop := v 9 = nI N.length ∧ v 12 = nI (ltN N) ∧ N.length ≤ 1500 ∧ ltN N ≤ 4600 ∧ (∀ (i j : Nat) (u : List Nat), N[i]? = some u → N[j]? = some u → i = j) ∧
  ∀ (i : Nat) (w : List Nat), N[i]? = some w → w.length ≤ 130 ∧ a 35 i = nI (ofN N i) ∧ a 36 i = nI w.length ∧ ∀ (j c : Nat), w[j]? = some c → c < 128 ∧ a 37 (ofN N i + j) = nI c
theorem zN.same {v v' : Nat → Int32} {a a' : Nat → Nat → Int32} {N : List (List Nat)} {l m : List Nat} (h : zN v a N) (hv : vS v v' l) (ha : aS a a' m) (h1 : 9 ∉ l) (h2 : 12 ∉ l) (h3 : 35 ∉ m) (h4 : 36 ∉ m) (h5 : 37 ∉ m) : zN v' a' N := by
  unfold zN at h ⊢
  rw [hv 9 h1, hv 12 h2, ha 35 h3, ha 36 h4, ha 37 h5]
  exact h
def nmA (N : List (List Nat)) (w : List Nat) : List (List Nat) := if w ∈ N then N else N ++ [w]
/-- a name's key, the reference's way -/
def keM (w : List Nat) : Int64 := if 1 ≤ w.length ∧ w.length ≤ 8 then lN (pn w) else -1
theorem x_or2 {a c i : Nat} (hi : i < 8) (ha : a < 256 ^ i) (hc : c < 128) : lN a ||| (lN c <<< ((8 * nI i).toInt64 &&& 63)) = lN (a + c * 256 ^ i) := by
  have h := x_or hi ha (show c < 256 by omega)
  have e : ∀ c, c < 128 → lN c &&& 255 = lN c := by decide
  rwa [e c hc] at h
section NB
variable {sc : xSc} {d g : Nat} {A B C : List xC} {v : Nat → Int32} {a : Nat → Nat → Int32} {o : Nat → Int64} {P : xO → xH → Prop} {N : List (List Nat)} {w : List Nat}
theorem pn_tk (hw : ∀ i c : Nat, w[i]? = some c → c < 128) {i c : Nat} (hc : w[i]? = some c) : pn (w.take i) < 256 ^ i ∧ pn (w.take (i + 1)) = pn (w.take i) + c * 256 ^ i := by
  have hi := (List.getElem?_eq_some_iff.mp hc).1
  constructor
  · have := pn_lt (l := w.take i) (fun x hx => by
      obtain ⟨j, hj⟩ := List.mem_iff_getElem?.mp hx
      have hj2 : w[j]? = some x := by
        rw [List.getElem?_take] at hj
        split at hj
        · exact hj
        · cases hj
      have := hw j x hj2
      omega)
    rwa [List.length_take, Nat.min_eq_left (by omega)] at this
  · rw [List.take_add_one, hc]
    simp only [Option.toList]
    rw [pn_snoc, List.length_take, Nat.min_eq_left (by omega)]
set_option maxRecDepth 100000 in
theorem q_keyLoop (hB : B.length = 28) (hw : zH v a w) (h8 : w.length ≤ 8) (k : P (.inl (some (.long (keM w)))) (mH B C v a o, g)) : ∀ m i, i + m = w.length → xP sc d 163 4 [(0, .ref 28), (1, .long (lN (pn (w.take i)))), (3, .int (nI i))] [] (mH B C v a o, g) P
  | 0, i, hm => by
    have hI := toI i (by omega)
    have hL := toI w.length (by omega)
    have c8 : (8 : Int32).toInt = 8 := rfl
    have c0 : (0 : Int32).toInt = 0 := rfl
    refine xP_s rfl rfl rfl ?_
    refine xP_s rfl rfl rfl ?_
    refine xP_zg rfl hB rfl hw.1 ?_
    refine xP_s rfl rfl rfl ?_
    refine xP_if (fun hq => ?_) (fun hq => ?_)
    · refine xP_s rfl rfl rfl ?_
      refine xP_zg rfl hB rfl hw.1 ?_
      refine xP_s rfl rfl rfl ?_
      refine xP_s rfl rfl rfl ?_
      refine xP_if (fun hq => ?_) (fun hq => ?_)
      · have z := xc_t hq
        dsimp only at z
        omega
      · refine xP_s rfl rfl rfl ?_
        refine xP_zg rfl hB rfl hw.1 ?_
        refine xP_s rfl rfl rfl ?_
        refine xP_if (fun hq => ?_) (fun hq => ?_)
        · have z := xc_t hq
          dsimp only at z
          unfold keM at k
          rw [if_pos (by omega)] at k
          repeat' first
            | refine xP_s rfl rfl rfl ?_
            | refine xP_ret rfl rfl rfl ?_
          rw [List.take_of_length_le (by omega)]
          exact k
        · have z := xc_f hq
          dsimp only at z
          unfold keM at k
          rw [if_neg (by omega)] at k
          repeat' first
            | refine xP_s rfl rfl rfl ?_
            | refine xP_ret rfl rfl rfl ?_
          exact k
    · have z := xc_f hq
      dsimp only at z
      omega
  | m + 1, i, hm => by
    have hI := toI i (by omega)
    have hL := toI w.length (by omega)
    have c8 : (8 : Int32).toInt = 8 := rfl
    obtain ⟨c, hc0⟩ : ∃ c, w[i]? = some c := ⟨w[i]'(by omega), List.getElem?_eq_getElem (by omega)⟩
    obtain ⟨hc1, hc2⟩ := hw.2.2 i c hc0
    obtain ⟨hp, e4⟩ := pn_tk (fun i c h => (hw.2.2 i c h).1) hc0
    have e2 : (nI c).toInt64 = lN c := nI_l (by omega)
    have e3 := x_or2 (a := pn (w.take i)) (c := c) (i := i) (by omega) hp hc1
    have go := q_keyLoop hB hw h8 k m (i + 1) (by omega)
    rw [e4, ← e3, ← nI_p1, ← e2] at go
    refine xP_s rfl rfl rfl ?_
    refine xP_s rfl rfl rfl ?_
    refine xP_zg rfl hB rfl hw.1 ?_
    refine xP_s rfl rfl rfl ?_
    refine xP_if (fun hq => ?_) (fun hq => ?_)
    · have z := xc_t hq
      dsimp only at z
      omega
    · refine xP_s rfl rfl rfl ?_
      refine xP_zg rfl hB rfl hw.1 ?_
      refine xP_s rfl rfl rfl ?_
      refine xP_s rfl rfl rfl ?_
      refine xP_if (fun hq => ?_) (fun hq => ?_)
      · have z := xc_t hq
        dsimp only at z
        omega
      · refine xP_s rfl rfl rfl ?_
        refine xP_s rfl rfl rfl ?_
        refine xP_get rfl (mH_28 hB) rfl ?_
        refine xP_s rfl rfl rfl ?_
        refine xP_zl (n := 130) rfl hB rfl rfl (by omega) hc2 ?_
        refine xP_s rfl rfl rfl ?_
        refine xP_s rfl rfl rfl ?_
        refine xP_s rfl rfl rfl ?_
        refine xP_s rfl rfl rfl ?_
        refine xP_s rfl rfl rfl ?_
        refine xP_s rfl rfl rfl ?_
        refine xP_s rfl rfl rfl ?_
        refine xP_s rfl rfl rfl ?_
        refine xP_s rfl rfl rfl ?_
        exact go
set_option maxRecDepth 100000 in
theorem q_key (hB : B.length = 28) (hw : zH v a w) (k : P (.inl (some (.long (keM w)))) (mH B C v a o, g)) : xM1 sc d 163 [.ref 28] (mH B C v a o, g) P := by
  have hwl := hw.2.1
  have hL := toI w.length (by omega)
  have c8 : (8 : Int32).toInt = 8 := rfl
  have c0 : (0 : Int32).toInt = 0 := rfl
  unfold xM1
  rcases Nat.lt_or_ge 8 w.length with h8 | h8
  · unfold keM at k
    rw [if_neg (by omega)] at k
    refine xP_s rfl rfl rfl ?_
    refine xP_s rfl rfl rfl ?_
    refine xP_s rfl rfl rfl ?_
    refine xP_s rfl rfl rfl ?_
    refine xP_s rfl rfl rfl ?_
    refine xP_s rfl rfl rfl ?_
    refine xP_zg rfl hB rfl hw.1 ?_
    refine xP_s rfl rfl rfl ?_
    refine xP_if (fun hq => ?_) (fun hq => ?_)
    · have z := xc_t hq
      dsimp only at z
      omega
    · refine xP_s rfl rfl rfl ?_
      refine xP_zg rfl hB rfl hw.1 ?_
      refine xP_s rfl rfl rfl ?_
      refine xP_s rfl rfl rfl ?_
      refine xP_if (fun hq => ?_) (fun hq => ?_)
      · refine xP_s rfl rfl rfl ?_
        refine xP_zg rfl hB rfl hw.1 ?_
        refine xP_s rfl rfl rfl ?_
        refine xP_s rfl rfl rfl ?_
        refine xP_if (fun hq => ?_) (fun hq => ?_)
        · repeat' first
            | refine xP_s rfl rfl rfl ?_
            | refine xP_ret rfl rfl rfl ?_
          exact k
        · have z := xc_f hq
          dsimp only at z
          omega
      · have z := xc_f hq
        dsimp only at z
        omega
  · have go := q_keyLoop (sc := sc) (d := d) hB hw h8 k w.length 0 (by omega)
    refine xP_s rfl rfl rfl ?_
    refine xP_s rfl rfl rfl ?_
    refine xP_s rfl rfl rfl ?_
    refine xP_s rfl rfl rfl ?_
    exact go
set_option maxRecDepth 100000 in
theorem q_keyOfLoop {j : Nat} (hB : B.length = 28) (hn : zN v a N) (hj : N[j]? = some w) (h8 : w.length ≤ 8) (k : P (.inl (some (.long (keM w)))) (mH B C v a o, g)) : ∀ m i, i + m = w.length → xP sc d 164 12 [(0, .ref 28), (1, .int (nI j)), (2, .int (nI w.length)), (3, .long (lN (pn (w.take i)))), (5, .int (nI i))] [] (mH B C v a o, g) P
  | 0, i, hm => by
    have hI := toI i (by omega)
    have hL := toI w.length (by omega)
    have c8 : (8 : Int32).toInt = 8 := rfl
    have c0 : (0 : Int32).toInt = 0 := rfl
    refine xP_s rfl rfl rfl ?_
    refine xP_s rfl rfl rfl ?_
    refine xP_s rfl rfl rfl ?_
    refine xP_if (fun hq => ?_) (fun hq => ?_)
    · refine xP_s rfl rfl rfl ?_
      refine xP_s rfl rfl rfl ?_
      refine xP_s rfl rfl rfl ?_
      refine xP_if (fun hq => ?_) (fun hq => ?_)
      · have z := xc_t hq
        dsimp only at z
        omega
      · refine xP_s rfl rfl rfl ?_
        refine xP_s rfl rfl rfl ?_
        refine xP_if (fun hq => ?_) (fun hq => ?_)
        · have z := xc_t hq
          dsimp only at z
          unfold keM at k
          rw [if_pos (by omega)] at k
          repeat' first
            | refine xP_s rfl rfl rfl ?_
            | refine xP_ret rfl rfl rfl ?_
          rw [List.take_of_length_le (by omega)]
          exact k
        · have z := xc_f hq
          dsimp only at z
          unfold keM at k
          rw [if_neg (by omega)] at k
          repeat' first
            | refine xP_s rfl rfl rfl ?_
            | refine xP_ret rfl rfl rfl ?_
          exact k
    · have z := xc_f hq
      dsimp only at z
      omega
  | m + 1, i, hm => by
    have hI := toI i (by omega)
    have hL := toI w.length (by omega)
    have c8 : (8 : Int32).toInt = 8 := rfl
    have hjl := (List.getElem?_eq_some_iff.mp hj).1
    have hof := ofN_le hj
    obtain ⟨n1, n2, n3, n4, _, n5⟩ := hn
    obtain ⟨m1, m2, m3, m4⟩ := n5 j w hj
    obtain ⟨c, hc0⟩ : ∃ c, w[i]? = some c := ⟨w[i]'(by omega), List.getElem?_eq_getElem (by omega)⟩
    obtain ⟨hc1, hc2⟩ := m4 i c hc0
    obtain ⟨hp, e4⟩ := pn_tk (fun i c h => (m4 i c h).1) hc0
    have e2 : (nI c).toInt64 = lN c := nI_l (by omega)
    have e3 := x_or2 (a := pn (w.take i)) (c := c) (i := i) (by omega) hp hc1
    have go := q_keyOfLoop hB ⟨n1, n2, n3, n4, ‹_›, n5⟩ hj h8 k m (i + 1) (by omega)
    rw [e4, ← e3, ← nI_p1, ← e2] at go
    refine xP_s rfl rfl rfl ?_
    refine xP_s rfl rfl rfl ?_
    refine xP_s rfl rfl rfl ?_
    refine xP_if (fun hq => ?_) (fun hq => ?_)
    · have z := xc_t hq
      dsimp only at z
      omega
    · refine xP_s rfl rfl rfl ?_
      refine xP_s rfl rfl rfl ?_
      refine xP_s rfl rfl rfl ?_
      refine xP_if (fun hq => ?_) (fun hq => ?_)
      · have z := xc_t hq
        dsimp only at z
        omega
      · refine xP_s rfl rfl rfl ?_
        refine xP_s rfl rfl rfl ?_
        refine xP_get rfl (mH_28 hB) rfl ?_
        refine xP_s rfl rfl rfl ?_
        refine xP_get rfl (mH_28 hB) rfl ?_
        refine xP_s rfl rfl rfl ?_
        refine xP_zl (n := 1500) rfl hB rfl rfl (by omega) m2 ?_
        refine xP_s rfl rfl rfl ?_
        refine xP_s rfl rfl rfl ?_
        rw [nI_add]
        refine xP_zl (n := 4600) rfl hB rfl rfl (by omega) hc2 ?_
        refine xP_s rfl rfl rfl ?_
        refine xP_s rfl rfl rfl ?_
        refine xP_s rfl rfl rfl ?_
        refine xP_s rfl rfl rfl ?_
        refine xP_s rfl rfl rfl ?_
        refine xP_s rfl rfl rfl ?_
        refine xP_s rfl rfl rfl ?_
        refine xP_s rfl rfl rfl ?_
        refine xP_s rfl rfl rfl ?_
        exact go
set_option maxRecDepth 100000 in
theorem q_keyOf {j : Nat} (hB : B.length = 28) (hn : zN v a N) (hj : N[j]? = some w) (k : P (.inl (some (.long (keM w)))) (mH B C v a o, g)) : xM1 sc d 164 [.ref 28, .int (nI j)] (mH B C v a o, g) P := by
  have hjl := (List.getElem?_eq_some_iff.mp hj).1
  obtain ⟨m1, m2, m3, m4⟩ := hn.2.2.2.2.2 j w hj
  have hN := hn.2.2.1
  have hL := toI w.length (by omega)
  have c8 : (8 : Int32).toInt = 8 := rfl
  have c0 : (0 : Int32).toInt = 0 := rfl
  unfold xM1
  refine xP_s rfl rfl rfl ?_
  refine xP_get rfl (mH_28 hB) rfl ?_
  refine xP_s rfl rfl rfl ?_
  refine xP_zl (n := 1500) rfl hB rfl rfl (by omega) m3 ?_
  rcases Nat.lt_or_ge 8 w.length with h8 | h8
  · unfold keM at k
    rw [if_neg (by omega)] at k
    refine xP_s rfl rfl rfl ?_
    refine xP_s rfl rfl rfl ?_
    refine xP_s rfl rfl rfl ?_
    refine xP_s rfl rfl rfl ?_
    refine xP_s rfl rfl rfl ?_
    refine xP_s rfl rfl rfl ?_
    refine xP_s rfl rfl rfl ?_
    refine xP_s rfl rfl rfl ?_
    refine xP_if (fun hq => ?_) (fun hq => ?_)
    · have z := xc_t hq
      dsimp only at z
      omega
    · refine xP_s rfl rfl rfl ?_
      refine xP_s rfl rfl rfl ?_
      refine xP_s rfl rfl rfl ?_
      refine xP_if (fun hq => ?_) (fun hq => ?_)
      · refine xP_s rfl rfl rfl ?_
        refine xP_s rfl rfl rfl ?_
        refine xP_s rfl rfl rfl ?_
        refine xP_if (fun hq => ?_) (fun hq => ?_)
        · repeat' first
            | refine xP_s rfl rfl rfl ?_
            | refine xP_ret rfl rfl rfl ?_
          exact k
        · have z := xc_f hq
          dsimp only at z
          omega
      · have z := xc_f hq
        dsimp only at z
        omega
  · have go := q_keyOfLoop (sc := sc) (d := d) hB hn hj h8 k w.length 0 (by omega)
    refine xP_s rfl rfl rfl ?_
    refine xP_s rfl rfl rfl ?_
    refine xP_s rfl rfl rfl ?_
    refine xP_s rfl rfl rfl ?_
    refine xP_s rfl rfl rfl ?_
    exact go
end NB
