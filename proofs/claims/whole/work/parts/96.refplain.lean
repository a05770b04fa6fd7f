-- the reference: isPlain
def oddN (l : List Nat) : Bool := (decide (l.length = 1) && decide (oz l 0 = 46)) || (decide (oz l 0 = 47) && decide (oz l 1 = 42))
def oneN (l : List Nat) : Bool := decide (l.length = 1) && (decide (oz l 0 = 33) || decide (oz l 0 = 59))
def twoN (l : List Nat) : Bool := decide (l.length = 2) && ((decide (oz l 0 = 91) && decide (oz l 1 = 93)) || (decide (oz l 0 = 123) && decide (oz l 1 = 125)))
def wdN (l : List Nat) : Bool := (decide (0 < l.length) && isSm (oz l 0)) && l.all isWd
def sgN (l : List Nat) : Bool := decide (0 < l.length) && l.all isSg
def plR (l : List Nat) : Bool := wdN l || ((sgN l && !oddN l) || (oneN l || twoN l))
theorem oc_oz {l : List Nat} (hl : ∀ c ∈ l, c < 128) (k : Nat) : (oc l k).toInt = (oz l k : Int) ∨ ((oc l k).toInt = -1 ∧ oz l k = 0) := by
  unfold oc oz
  cases h : l[k]? with
  | none => exact Or.inr ⟨rfl, rfl⟩
  | some c =>
    have := hl c (List.mem_of_getElem? h)
    exact Or.inl (nI_toInt (by omega))
theorem plR_e {l : List Nat} (hl : ∀ c ∈ l, c < 128) : plR l = pln l := by
  have h0 := oc_oz hl 0
  have h1 := oc_oz hl 1
  have hne : (oc l 0).toInt = -1 → l = [] := fun q => by
    cases l with
    | nil => rfl
    | cons c r =>
      have := hl c List.mem_cons_self
      have e : (oc (c :: r) 0).toInt = (c : Int) := nI_toInt (by omega)
      omega
  have hs : isSm (oz l 0) = true ↔ 97 ≤ oz l 0 ∧ oz l 0 ≤ 122 := by simp [isSm]
  have hsg : l.all isSg = true → 0 < l.length → isSm (oz l 0) = false := fun q p => by
    cases l with
    | nil => exact absurd p (by decide)
    | cons c r =>
      rw [oz_c]
      exact (sg_no c (hl c List.mem_cons_self) (List.all_eq_true.mp q c List.mem_cons_self)).1
  have hps : isSm (oz l 0) = true → 0 < l.length := fun q => by
    cases l with
    | nil => exact absurd q (by decide)
    | cons c r => exact Nat.zero_lt_succ _
  rw [Bool.eq_iff_iff]
  unfold pln
  rw [decide_eq_true_iff]
  constructor
  · intro h
    unfold plR at h
    rw [Bool.or_eq_true, Bool.or_eq_true, Bool.or_eq_true] at h
    rcases h with h | h | h | h
    · unfold wdN at h
      rw [Bool.and_eq_true, Bool.and_eq_true] at h
      have := hs.mp h.1.2
      exact Or.inr (Or.inr (Or.inl ⟨by omega, by omega, h.2⟩))
    · unfold sgN at h
      rw [Bool.and_eq_true, Bool.and_eq_true, decide_eq_true_iff] at h
      have z := hsg h.1.2 h.1.1
      refine Or.inr (Or.inr (Or.inr ⟨fun q => ?_, h.1.1, fun q => ?_, h.1.2⟩))
      · have : isSm (oz l 0) = true := hs.mpr (by omega)
        rw [this] at z
        cases z
      · have ho : oddN l = true := by
          unfold oddN
          rw [Bool.or_eq_true, Bool.and_eq_true, Bool.and_eq_true, decide_eq_true_iff, decide_eq_true_iff, decide_eq_true_iff, decide_eq_true_iff]
          rcases q with q | q
          · exact Or.inl ⟨q.1, by omega⟩
          · exact Or.inr ⟨by omega, by omega⟩
        rw [ho] at h
        cases h.2
    · unfold oneN at h
      rw [Bool.and_eq_true, Bool.or_eq_true, decide_eq_true_iff, decide_eq_true_iff, decide_eq_true_iff] at h
      refine Or.inl ⟨h.1, ?_⟩
      rcases h.2 with q | q
      · exact Or.inl (by omega)
      · exact Or.inr (by omega)
    · unfold twoN at h
      rw [Bool.and_eq_true, Bool.or_eq_true, Bool.and_eq_true, Bool.and_eq_true, decide_eq_true_iff, decide_eq_true_iff, decide_eq_true_iff, decide_eq_true_iff, decide_eq_true_iff] at h
      refine Or.inr (Or.inl ⟨h.1, ?_⟩)
      rcases h.2 with q | q
      · exact Or.inl ⟨by omega, by omega⟩
      · exact Or.inr ⟨by omega, by omega⟩
  · intro h
    unfold plR
    rw [Bool.or_eq_true, Bool.or_eq_true, Bool.or_eq_true]
    rcases h with h | h | h | h
    · refine Or.inr (Or.inr (Or.inl ?_))
      unfold oneN
      rw [Bool.and_eq_true, Bool.or_eq_true, decide_eq_true_iff, decide_eq_true_iff, decide_eq_true_iff]
      refine ⟨h.1, ?_⟩
      rcases h.2 with q | q
      · exact Or.inl (by omega)
      · exact Or.inr (by omega)
    · refine Or.inr (Or.inr (Or.inr ?_))
      unfold twoN
      rw [Bool.and_eq_true, Bool.or_eq_true, Bool.and_eq_true, Bool.and_eq_true, decide_eq_true_iff, decide_eq_true_iff, decide_eq_true_iff, decide_eq_true_iff, decide_eq_true_iff]
      refine ⟨h.1, ?_⟩
      rcases h.2 with q | q
      · exact Or.inl ⟨by omega, by omega⟩
      · exact Or.inr ⟨by omega, by omega⟩
    · refine Or.inl ?_
      unfold wdN
      have z : isSm (oz l 0) = true := hs.mpr (by omega)
      rw [Bool.and_eq_true, Bool.and_eq_true, decide_eq_true_iff]
      exact ⟨⟨hps z, z⟩, h.2.2⟩
    · refine Or.inr (Or.inl ?_)
      unfold sgN
      rw [Bool.and_eq_true, Bool.and_eq_true, decide_eq_true_iff]
      refine ⟨⟨h.2.1, h.2.2.2⟩, ?_⟩
      rw [Bool.not_eq_true']
      cases ho : oddN l with
      | false => rfl
      | true =>
        exfalso
        refine h.2.2.1 ?_
        unfold oddN at ho
        rw [Bool.or_eq_true, Bool.and_eq_true, Bool.and_eq_true, decide_eq_true_iff, decide_eq_true_iff, decide_eq_true_iff, decide_eq_true_iff] at ho
        rcases ho with q | q
        · exact Or.inl ⟨q.1, by omega⟩
        · exact Or.inr ⟨by omega, by omega⟩
theorem isWd_3 (c : Nat) : isWd c = (isSm c || (isGr c || isDg c)) := by
  unfold isWd isGr
  cases isSm c <;> cases isLg c <;> cases isDg c <;> simp
section WB2
variable {sc : xSc} {d g : Nat} {B C : List xC} {o : Nat → Int64} {P : xO → xH → Prop} {v : Nat → Int32} {a : Nat → Nat → Int32} {N : List (List Nat)} {l : List Nat} {j : Nat}
set_option maxHeartbeats 4000000 in
set_option maxRecDepth 100000 in
theorem q_plLoop {x1 x4 x5 : Int32} (hB : B.length = 28) (hn : zN v a N) (hj : N[j]? = some l) : ∀ (m i : Nat) (W S : Bool) (ex : xL), (ex = [] ∨ ∃ y, ex = [(9, .int y)]) → i + m = l.length →
    (∀ x8, xP sc (d + 1) 183 161 [(0, .ref 28), (1, .int x1), (2, .int (nI l.length)), (3, .int (nI (ofN N j))), (4, .int x4), (5, .int x5), (6, .int (xb (W && (l.drop i).all isWd))), (7, .int (xb (S && (l.drop i).all isSg))), (8, .int x8)] [] (mH B C v a o, g) P) →
    xP sc (d + 1) 183 82 ([(0, .ref 28), (1, .int x1), (2, .int (nI l.length)), (3, .int (nI (ofN N j))), (4, .int x4), (5, .int x5), (6, .int (xb W)), (7, .int (xb S)), (8, .int (nI i))] ++ ex) [] (mH B C v a o, g) P
  | 0, i, W, S, ex, hex, hm, k => by
    have hjl := (List.getElem?_eq_some_iff.mp hj).1
    obtain ⟨m1, m2, m3, m4⟩ := hn.2.2.2.2.2 j l hj
    have hI := toI i (by omega)
    have hL := toI l.length (by omega)
    have ed : l.drop i = [] := List.drop_eq_nil_of_le (by omega)
    rw [ed] at k
    have base : xP sc (d + 1) 183 82 [(0, .ref 28), (1, .int x1), (2, .int (nI l.length)), (3, .int (nI (ofN N j))), (4, .int x4), (5, .int x5), (6, .int (xb W)), (7, .int (xb S)), (8, .int (nI i))] [] (mH B C v a o, g) P := by
      have kk := k (nI i)
      have e1 : (W && ([] : List Nat).all isWd) = W := by simp
      have e2 : (S && ([] : List Nat).all isSg) = S := by simp
      rw [e1, e2] at kk
      refine xP_s rfl rfl rfl ?_
      refine xP_s rfl rfl rfl ?_
      refine xP_s rfl rfl rfl ?_
      refine xP_if (fun z => ?_) (fun z => ?_)
      · exact kk
      · have q := xc_f z
        dsimp only at q
        omega
    rcases hex with rfl | ⟨y, rfl⟩
    · exact base
    · exact xP_more [(9, .int y)] rfl base
  | m + 1, i, W, S, ex, hex, hm, k => by
    have hjl := (List.getElem?_eq_some_iff.mp hj).1
    have hof := ofN_le hj
    have hN := hn.2.2.2.1
    obtain ⟨m1, m2, m3, m4⟩ := hn.2.2.2.2.2 j l hj
    have hI := toI i (by omega)
    have hL := toI l.length (by omega)
    obtain ⟨c, hc⟩ : ∃ c, l[i]? = some c := ⟨l[i]'(by omega), List.getElem?_eq_getElem (by omega)⟩
    obtain ⟨hc1, hc2⟩ := m4 i c hc
    have ed : l.drop i = c :: l.drop (i + 1) := by
      have e : l[i]'(by omega) = c := by
        have := List.getElem?_eq_getElem (l := l) (i := i) (by omega)
        rw [hc] at this
        exact (Option.some.inj this).symm
      rw [List.drop_eq_getElem_cons (by omega), e]
    rw [ed] at k
    have base : xP sc (d + 1) 183 82 [(0, .ref 28), (1, .int x1), (2, .int (nI l.length)), (3, .int (nI (ofN N j))), (4, .int x4), (5, .int x5), (6, .int (xb W)), (7, .int (xb S)), (8, .int (nI i))] [] (mH B C v a o, g) P := by
      have go : ∀ (W' S' : Bool), W' = (W && isWd c) → S' = (S && isSg c) → xP sc (d + 1) 183 82 [(0, .ref 28), (1, .int x1), (2, .int (nI l.length)), (3, .int (nI (ofN N j))), (4, .int x4), (5, .int x5), (6, .int (xb W')), (7, .int (xb S')), (8, .int (nI (i + 1))), (9, .int (nI c))] [] (mH B C v a o, g) P := fun W' S' e1 e2 => q_plLoop hB hn hj m (i + 1) W' S' [(9, .int (nI c))] (Or.inr ⟨_, rfl⟩) (by omega) (fun x8 => by
        have kk := k x8
        rw [List.all_cons, List.all_cons, ← Bool.and_assoc, ← Bool.and_assoc, ← e1, ← e2] at kk
        exact kk)
      -- the signs
      have at133 : ∀ W' : Bool, W' = (W && isWd c) → xP sc (d + 1) 183 133 [(0, .ref 28), (1, .int x1), (2, .int (nI l.length)), (3, .int (nI (ofN N j))), (4, .int x4), (5, .int x5), (6, .int (xb W)), (7, .int (xb S)), (8, .int (nI i)), (9, .int (nI c))] [.int (xb W')] (mH B C v a o, g) P := by
        intro W' e1
        have fin : ∀ S' : Bool, S' = (S && isSg c) → xP sc (d + 1) 183 153 [(0, .ref 28), (1, .int x1), (2, .int (nI l.length)), (3, .int (nI (ofN N j))), (4, .int x4), (5, .int x5), (6, .int (xb W')), (7, .int (xb S)), (8, .int (nI i)), (9, .int (nI c))] [.int (xb S')] (mH B C v a o, g) P := by
          intro S' e2
          have kk := go W' S' e1 e2
          rw [← nI_p1 i] at kk
          refine xP_s rfl rfl rfl ?_
          refine xP_s rfl rfl rfl ?_
          refine xP_s rfl rfl rfl ?_
          exact kk
        refine xP_s rfl rfl rfl ?_
        refine xP_s rfl rfl rfl ?_
        refine xP_s rfl rfl rfl ?_
        rw [xb_eq0]
        refine xP_if (fun z => ?_) (fun z => ?_)
        · have hS : S = false := by simpa using z
          refine xP_s rfl rfl rfl ?_
          exact fin false (by rw [hS]; rfl)
        · have hS : S = true := by simpa using z
          refine xP_s rfl rfl rfl ?_
          refine xP_call rfl rfl rfl (q_isSign hc1 ?_)
          refine xP_s rfl rfl rfl ?_
          rw [xb_eq0]
          refine xP_if (fun z2 => ?_) (fun z2 => ?_)
          · have h2 : isSg c = false := by simpa using z2
            refine xP_s rfl rfl rfl ?_
            exact fin false (by rw [h2]; simp)
          · have h2 : isSg c = true := by simpa using z2
            refine xP_s rfl rfl rfl ?_
            refine xP_s rfl rfl rfl ?_
            exact fin true (by rw [hS, h2]; rfl)
      refine xP_s rfl rfl rfl ?_
      refine xP_s rfl rfl rfl ?_
      refine xP_s rfl rfl rfl ?_
      refine xP_if (fun z => ?_) (fun z => ?_)
      · have q := xc_t z
        dsimp only at q
        omega
      · refine xP_s rfl rfl rfl ?_
        refine xP_get rfl (mH_28 hB) rfl ?_
        refine xP_s rfl rfl rfl ?_
        refine xP_s rfl rfl rfl ?_
        refine xP_s rfl rfl rfl ?_
        rw [nI_add]
        refine xP_zl (n := 4600) rfl hB rfl rfl (by omega) hc2 ?_
        refine xP_s rfl rfl rfl ?_
        refine xP_s rfl rfl rfl ?_
        refine xP_s rfl rfl rfl ?_
        rw [xb_eq0]
        refine xP_if (fun z => ?_) (fun z => ?_)
        · have hW : W = false := by simpa using z
          refine xP_s rfl rfl rfl ?_
          exact at133 false (by rw [hW]; rfl)
        · have hW : W = true := by simpa using z
          have yes : isWd c = true → xP sc (d + 1) 183 128 [(0, .ref 28), (1, .int x1), (2, .int (nI l.length)), (3, .int (nI (ofN N j))), (4, .int x4), (5, .int x5), (6, .int (xb W)), (7, .int (xb S)), (8, .int (nI i)), (9, .int (nI c))] [] (mH B C v a o, g) P := by
            intro h
            have kk := at133 true (by rw [hW, h]; rfl)
            refine xP_s rfl rfl rfl ?_
            refine xP_s rfl rfl rfl ?_
            exact kk
          refine xP_s rfl rfl rfl ?_
          refine xP_call rfl rfl rfl (q_isSmall hc1 ?_)
          refine xP_s rfl rfl rfl ?_
          rw [xb_ne0]
          refine xP_if (fun z1 => ?_) (fun z1 => ?_)
          · exact yes (by rw [isWd_3, z1]; rfl)
          · refine xP_s rfl rfl rfl ?_
            refine xP_call rfl rfl rfl (q_isGreat hc1 ?_)
            refine xP_s rfl rfl rfl ?_
            rw [xb_ne0]
            refine xP_if (fun z2 => ?_) (fun z2 => ?_)
            · exact yes (by rw [isWd_3, z1, z2]; rfl)
            · refine xP_s rfl rfl rfl ?_
              refine xP_call rfl rfl rfl (q_isDigit hc1 ?_)
              refine xP_s rfl rfl rfl ?_
              rw [xb_eq0]
              refine xP_if (fun z3 => ?_) (fun z3 => ?_)
              · have h3 : isDg c = false := by simpa using z3
                refine xP_s rfl rfl rfl ?_
                exact at133 false (by rw [isWd_3, z1, z2, h3]; simp)
              · have h3 : isDg c = true := by simpa using z3
                exact yes (by rw [isWd_3, z1, z2, h3]; rfl)
    rcases hex with rfl | ⟨y, rfl⟩
    · exact base
    · exact xP_more [(9, .int y)] rfl base
end WB2
