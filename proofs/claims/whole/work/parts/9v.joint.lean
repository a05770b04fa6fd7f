-- class and reference side by side
theorem trP_mono : ∀ {D D' : Nat} {L : List xIt}, trP D L → D ≤ D' → trP D' L
  | 0, D', L, h, hd => h.elim
  | D + 1, 0, L, h, hd => by omega
  | D + 1, D' + 1, L, h, hd => by
    obtain ⟨p, L1, h1, h2, h3, h4⟩ := h
    exact ⟨p, L1, h1, h2, h3, chP_mono (fun l hl => trP_mono hl (by omega)) h4⟩
theorem chP_all {T : List xIt → Prop} {R : xIt → Prop} (hT : ∀ l, T l → ∀ p ∈ l, R p) : ∀ {k : Nat} {L : List xIt}, chP T k L → ∀ p ∈ L, R p
  | 0, L, h, p, hp => by
    rw [show L = [] from h] at hp
    cases hp
  | k + 1, L, h, p, hp => by
    obtain ⟨L1, L2, h1, h2, h3⟩ := h
    rw [h2] at hp
    rcases List.mem_append.mp hp with q | q
    · exact hT L1 h1 p q
    · exact chP_all hT h3 p q
theorem trP_ok : ∀ {D : Nat} {L : List xIt}, trP D L → ∀ p ∈ L, okIt p
  | 0, L, h => h.elim
  | D + 1, L, h => by
    obtain ⟨p, L1, h1, h2, h3, h4⟩ := h
    rw [h1]
    intro q hq
    rcases List.mem_cons.mp hq with e | e
    · rw [e]
      exact h2
    · exact chP_all (fun l hl => trP_ok hl) h4 q e
theorem tlen_fl : ∀ (Ts : List (List xIt × Nat)), (Ts.map Prod.fst).flatten.length = tlen Ts
  | [] => rfl
  | q :: Ts => by
    have := tlen_fl Ts
    rw [List.map_cons, List.flatten_cons, List.length_append, this]
    simp [tlen]
theorem tlen_app (Ts : List (List xIt × Nat)) (q : List xIt × Nat) : tlen (Ts ++ [q]) = tlen Ts + q.1.length := by
  simp [tlen]
/-- good slots -/
def gSl (sl : List xSl) : Prop := uS sl ∧ ∀ e ∈ sl, ¬ e.1 = 0 ∧ 1 ≤ e.2.1 ∧ e.2.1 ≤ 1200 ∧ e.2.2 ≤ 6 ∧ ¬ e.1 = 46 ∧ ¬ e.1 = 32123 ∧ (e.1 = 44 → e.2.2 = 1)
theorem gSl.take {sl : List xSl} {ty : Nat} {key : Int64} (h : gSl sl) : gSl (takeS sl ty key) := by
  obtain ⟨t1, t2, _⟩ := take_m (ty := ty) (key := key) h.1
  exact ⟨t1, fun e he => h.2 e ((t2 e).mp he).1⟩
theorem gSl.tell {sl : List xSl} {p ty : Nat} {s : Int64} (h : gSl sl) (hc : canS sl ty (trm s) = true) (hop : opn (txt s) = true) (hp : ¬ p = 0) (hp2 : p ≤ 1200) (hty : ty ≤ 6) : gSl (tellS sl p ty (trm s)) := by
  obtain ⟨t1, t2, _⟩ := tell_m (p := p) h.1 hc
  obtain ⟨k44, _, k0, k46, _, k32⟩ := opn_key hop
  refine ⟨t1, fun e he => ?_⟩
  rcases (t2 e).mp he with q | q
  · rw [q]
    exact ⟨k0, by show 1 ≤ p; omega, hp2, hty, k46, k32, fun z => absurd z k44⟩
  · exact h.2 e q.1
-- what the class keeps
def JC (A : List xC) (t nm : List Nat) (sl : List xSl) (Ts : List (List xIt × Nat)) (wr : List Nat) : Prop :=
  xTo A Ts.length ∧ xRt A Ts ∧ (∃ u q v G F a pr, xWd A t nm sl u q v G (tlen Ts) F a pr ∧ xTms F nm 0 Ts (tlen Ts)) ∧ xRw A 3 1200 wr ∧ xWo A ∧ nm0 nm
abbrev mL : List Nat := [28, 29, 30, 31, 32, 33, 34, 35, 36, 37, 38, 39, 40, 41, 42, 43, 44, 45, 46, 47, 48, 49, 50, 51, 52, 53]
section JS
variable {A A' B C : List xC} {t nm : List Nat} {sl : List xSl} {Ts : List (List xIt × Nat)} {wr : List Nat} {v v' : Nat → Int32} {a a' : Nat → Nat → Int32} {o o' : Nat → Int64}
theorem JC.same (h : JC A t nm sl Ts wr) (s : xSame A A' mL) : JC A' t nm sl Ts wr := by
  obtain ⟨h1, ⟨fr, r1, r2⟩, ⟨u, q, v, G, F, a, pr, ⟨w1, w2, w3, w4, w5, w6, w7⟩, w8⟩, h4, h5, h6⟩ := h
  exact ⟨(s.2 0 (by decide)).trans h1, ⟨fr, (s.2 27 (by decide)).trans r1, r2⟩, ⟨u, q, v, G, F, a, pr, ⟨w1.same s (by decide) (by decide), w2.same s (by decide) (by decide), w3.same s (by decide) (by decide) (by decide) (by decide), w4.same s (by decide), w5.same s (by decide) (by decide) (by decide) (by decide) (by decide) (by decide) (by decide), (s.2 25 (by decide)).trans w6, w7⟩, w8⟩, h4.same s (by decide) (by decide), (s.2 26 (by decide)).trans h5, h6⟩
theorem mH_len (hB : B.length = 28) : (mH B C v a o).length = 53 + C.length := by
  unfold mH
  rw [List.length_append, List.length_cons, List.length_append, mA_len]
  omega
theorem mH_lo (hB : B.length = 28) {k : Nat} (hk : k < 28) : (mH B C v a o)[k]? = B[k]? := by
  unfold mH
  rw [List.getElem?_append_left (by omega)]
theorem mH_hi (hB : B.length = 28) {k : Nat} (hk : 53 ≤ k) : (mH B C v a o)[k]? = C[k - 53]? := by
  unfold mH
  rw [List.getElem?_append_right (by omega), hB, show k - 28 = (k - 29) + 1 by omega, List.getElem?_cons_succ, List.getElem?_append_right (by rw [mA_len]; omega), mA_len]
  congr 1
theorem mH_same (hB : B.length = 28) {C' : List xC} (hC : C'.length = C.length) (hC2 : C.length = 1) : xSame (mH B C v a o) (mH B C' v' a' o') mL := ⟨by rw [mH_len hB, mH_len hB, hC], fun k hk => by
  by_cases h1 : k < 28
  · rw [mH_lo hB h1, mH_lo hB h1]
  · by_cases h2 : k ≤ 53
    · exact absurd (by simp [mL]; omega) hk
    · rw [mH_hi hB (by omega), mH_hi hB (by omega), List.getElem?_eq_none (by omega), List.getElem?_eq_none (by omega)]⟩
/-- the class and its helpers leave the reference alone -/
theorem mH_of {c : xC} {l : List Nat} (hB : B.length = 28) (s : xSame (mH B [c] v a o) A' l) (hl : ∀ k ∈ l, k < 28 ∨ k = 53) : ∃ B' c', B'.length = 28 ∧ A' = mH B' [c'] v a o := by
  have hlen : A'.length = 54 := by rw [s.1, mH_len hB]; rfl
  refine ⟨A'.take 28, A'[53]'(by omega), by rw [List.length_take]; omega, ?_⟩
  have hB' : (A'.take 28).length = 28 := by rw [List.length_take]; omega
  apply List.ext_getElem?
  intro k
  by_cases h1 : k < 28
  · rw [mH_lo hB' h1, List.getElem?_take, if_pos h1]
  · by_cases h2 : k = 53
    · rw [h2, mH_hi hB' (by omega), List.getElem?_eq_getElem (by omega)]
      rfl
    · by_cases h3 : 53 < k
      · rw [List.getElem?_eq_none (by omega), List.getElem?_eq_none (by rw [mH_len hB']; simp; omega)]
      · rw [s.2 k (fun q => by have := hl k q; omega)]
        unfold mH
        rw [List.getElem?_append_right (by omega), List.getElem?_append_right (by omega), hB, hB']
        obtain ⟨j, rfl⟩ : ∃ j, k = j + 28 := ⟨k - 28, by omega⟩
        rw [Nat.add_sub_cancel]
        cases j with
        | zero => rfl
        | succ j =>
          rw [List.getElem?_cons_succ, List.getElem?_cons_succ, List.getElem?_append_left (by rw [mA_len]; omega), List.getElem?_append_left (by rw [mA_len]; omega)]
end JS
-- the pure side
def X0 : List (List Nat) := fixL ++ [45] :: (List.range 121).map (fun k => 95 :: ten k)
def JP (t nm : List Nat) (sl : List xSl) (Ts : List (List xIt × Nat)) (wr : List Nat) (N X : List (List Nat)) (p b : List Nat) (m : Nat) : Prop :=
  gSl sl ∧ Ts.length ≤ 40 ∧ tlen Ts ≤ 600 ∧ nm.length ≤ 6 + 120 * Ts.length ∧ (t.length ≤ 120 ∧ gds t) ∧ (t = p ++ b ∧ (p = [] ∨ ((∃ r, b = 32 :: r) ∧ ∀ z, stp z → (p ++ z).length ≤ 120 → TN (fun u => u ∈ X) (p ++ z) z))) ∧
  (∀ q ∈ Ts, trP 14 q.1 ∧ okL (fun u => u ∈ X) q.1 ∧ cstL q.1 ≤ 1200 ∧ dT q.2 q.1) ∧ (wr = [] ∨ NW (fun u => u ∈ X) wr) ∧ ((∀ u ∈ N, u ∈ X) ∧ flN N ≤ tlen Ts) ∧ (∀ u ∈ X0, u ∈ X) ∧ ltN X + b.length + 8 * m ≤ 4500
set_option maxRecDepth 100000 in
theorem X0_lt : ltN X0 ≤ 400 := by decide +kernel
theorem tkR_mono {al al' : List Nat → Prop} (hm : ∀ u, al u → al' u) : ∀ {n : Nat} {s s' : List Nat}, tkR al n s s' → tkR al' n s s'
  | 0, s, s', h => h
  | n + 1, s, s', h => ⟨h.1, h.2.1, fun q => hm _ (h.2.2.1 q), tkR_mono hm h.2.2.2⟩
theorem TN.mono {al al' : List Nat → Prop} (hm : ∀ u, al u → al' u) {s s' : List Nat} (h : TN al s s') : TN al' s s' := by
  obtain ⟨n, h⟩ := h
  exact ⟨n, tkR_mono hm h⟩
theorem NW.mono {al al' : List Nat → Prop} (hm : ∀ u, al u → al' u) {o : List Nat} (h : NW al o) : NW al' o := ⟨h.1, h.2.1, fun z hz hl => (h.2.2 z hz hl).mono hm⟩
theorem okL.mono {al al' : List Nat → Prop} (hm : ∀ u, al u → al' u) {L : List xIt} (h : okL al L) : okL al' L := fun p hp => ⟨(h p hp).1, fun q => hm _ ((h p hp).2.1 q), fun q => hm _ ((h p hp).2.2 q)⟩
section JJ
variable {t nm : List Nat} {sl sl' : List xSl} {Ts : List (List xIt × Nat)} {wr : List Nat} {N X : List (List Nat)} {p b : List Nat} {m : Nat}
theorem JP.less (h : JP t nm sl Ts wr N X p b (m + 1)) : JP t nm sl Ts wr N X p b m := by
  obtain ⟨h1, h2, h3, h4, h5, h6, h7, h8, h9, h10, h11⟩ := h
  exact ⟨h1, h2, h3, h4, h5, h6, h7, h8, h9, h10, by omega⟩
theorem JP.text {s : Int64} (h : JP t nm sl Ts wr N X p b (m + 1)) (ht : txOK t s = true) : JP (t ++ txt s) nm sl Ts wr N X p (b ++ txt s) m := by
  obtain ⟨h1, h2, h3, h4, h5, ⟨h6, h6'⟩, h7, h8, h9, h10, h11⟩ := h
  unfold txOK at ht
  rw [Bool.and_eq_true, decide_eq_true_eq] at ht
  obtain ⟨⟨_, ht1⟩, ht2⟩ := ht
  have hl : (txt s).length ≤ 8 := tx_len s 8 0
  refine ⟨h1, h2, h3, h4, ⟨by rw [List.length_append]; exact ht1, fun c hc => ?_⟩, ⟨by rw [h6, List.append_assoc], ?_⟩, h7, h8, h9, h10, by rw [List.length_append]; omega⟩
  · rcases List.mem_append.mp hc with q | q
    · exact h5.2 c q
    · have := List.all_eq_true.mp ht2 c q
      simpa [prt] using this
  · rcases h6' with q | ⟨⟨r, q⟩, q2⟩
    · exact Or.inl q
    · exact Or.inr ⟨⟨r ++ txt s, by rw [q]; rfl⟩, q2⟩
theorem JP.again (h : JP t nm sl Ts wr N X p b (m + 1)) (hl : wr.length + 3 ≤ 120) : JP (wr ++ [32, 46, 32]) nm sl Ts wr N X wr [32, 46, 32] m := by
  obtain ⟨h1, h2, h3, h4, h5, ⟨h6, h6'⟩, h7, h8, h9, h10, h11⟩ := h
  have e3 : ([32, 46, 32] : List Nat).length = 3 := rfl
  refine ⟨h1, h2, h3, h4, ⟨by rw [List.length_append]; exact hl, fun c hc => ?_⟩, ⟨rfl, ?_⟩, h7, h8, h9, h10, by omega⟩
  · rcases List.mem_append.mp hc with q | q
    · rcases h8 with z | z
      · rw [z] at q
        cases q
      · exact z.2.1 c q
    · simp at q
      omega
  · rcases h8 with z | z
    · exact Or.inl z
    · exact Or.inr ⟨⟨_, rfl⟩, z.2.2⟩
theorem JP.op (h : JP t nm sl Ts wr N X p b (m + 1)) (hs : gSl sl') : JP t nm sl' Ts wr N X p b m := by
  obtain ⟨h1, h2, h3, h4, h5, h6, h7, h8, h9, h10, h11⟩ := h
  exact ⟨hs, h2, h3, h4, h5, h6, h7, h8, h9, h10, by omega⟩
theorem JP.fail (h : JP t nm sl Ts wr N X p b (m + 1)) : JP [] nm sl Ts wr N X [] [] m := by
  obtain ⟨h1, h2, h3, h4, h5, h6, h7, h8, h9, h10, h11⟩ := h
  exact ⟨h1, h2, h3, h4, ⟨Nat.zero_le _, fun c hc => by cases hc⟩, ⟨rfl, Or.inl rfl⟩, h7, h8, h9, h10, by rw [List.length_nil]; omega⟩
theorem JP.write {w : List Nat} {q : List xIt × Nat} (h : JP t nm sl Ts wr N X p b (m + 1)) (hq : q ∈ Ts) (hw : ∀ R, wrt sl 14 1200 (q.1 ++ R) = (w, R)) : JP t nm sl Ts w N X p b m := by
  obtain ⟨h1, h2, h3, h4, h5, h6, h7, h8, h9, h10, h11⟩ := h
  obtain ⟨q1, q2, q3, q4⟩ := h7 q hq
  obtain ⟨o, w1, _, w2, _⟩ := wrt_X (al := fun u => u ∈ X) (fun e he => (h1.2 e he).2.2.2.2.1) (h10 [45] (by simp [X0])) 14 14 q.1 q1 (Nat.le_refl _) (by decide) q2 1200
  have e : o = w := by
    have := w1 []
    rw [hw []] at this
    exact (Prod.mk.inj this).1.symm
  rw [e] at w2
  exact ⟨h1, h2, h3, h4, h5, h6, h7, Or.inr w2, h9, h10, by omega⟩
/-- the names that a read may meet -/
theorem JP.al (h : JP t nm sl Ts wr N X p b m) : aS2 (fun u => u ∈ X ++ tkL 121 b) t := by
  obtain ⟨h1, h2, h3, h4, h5, ⟨h6, h6'⟩, h7, h8, h9, h10, h11⟩ := h
  have hb : b.length ≤ 120 := by
    have := h5.1
    rw [h6, List.length_append] at this
    omega
  have ab : aS2 (fun u => u ∈ X ++ tkL 121 b) b := (tkL_S hb).mono (fun u hu => List.mem_append_right _ hu)
  rcases h6' with q | ⟨⟨r, q⟩, q2⟩
  · rw [h6, q]
    exact ab
  · obtain ⟨n, hn⟩ := (q2 b (by rw [q]; exact stp.c (by simp)) (by rw [← h6]; exact h5.1)).mono (al' := fun u => u ∈ X ++ tkL 121 b) (fun u hu => List.mem_append_left _ hu)
    rw [h6]
    exact aS2.tk hn ab
theorem ltN_x {X b : List (List Nat)} : ltN (X ++ b) = ltN X + ltN b := ltN_app X b
theorem JP.room (h : JP t nm sl Ts wr N X p b m) : ∀ N' : List (List Nat), N'.Nodup → (∀ u ∈ N', u ∈ X ++ tkL 121 b) → ∀ Q s, cnN N' s ≤ Q + 0 → Q ≤ 840 → N'.length + 4 ≤ 1500 ∧ ltN N' + 60 ≤ 4600 := by
  obtain ⟨h1, h2, h3, h4, h5, ⟨h6, h6'⟩, h7, h8, h9, h10, h11⟩ := h
  intro N' hn hs Q s hc hQ
  have e1 := len_fl hn
  have e2 := fl_cn1 (s := s) hn
  have e3 := ltN_sub hn hs
  have e4 := tkL_le 121 b
  rw [ltN_x] at e3
  omega
theorem JP.read {L : List xIt} {D : Nat} {s' : List Nat} {N' : List (List Nat)} {w : List Nat} (h : JP t nm sl Ts wr N X p b (m + 1)) (hw : wholeF sl t = some (L, D, s')) (h40 : Ts.length < 40) (h600 : tlen Ts + L.length ≤ 600) (hwl : w.length ≤ 120) (hN : ∀ u ∈ N', u ∈ X ++ tkL 121 b) (hfl : flN N' ≤ tlen Ts + L.length) (htr : trP 14 L) (hnm : ∀ q ∈ L, 2 ≤ q.1 → q.2.2.1 ∈ N') : JP s' (nm ++ w) sl (Ts ++ [(L, D)]) wr N' (X ++ tkL 121 b) [] s' m := by
  have hal := h.al
  obtain ⟨h1, h2, h3, h4, h5, ⟨h6, h6'⟩, h7, h8, h9, h10, h11⟩ := h
  have hsl : ∀ e ∈ sl, ¬ e.1 = 0 := fun e he => (h1.2 e he).1
  obtain ⟨s2, ⟨n2, c1⟩, c2, c3, c4, c5⟩ := wholeF_T hsl hw
  obtain ⟨j1, j2, j3⟩ := wholeF_J hsl (fun e he => (h1.2 e he).2.2.2.2.2.2) h5.1 h5.2 hw
  have up : ∀ u, u ∈ X → u ∈ X ++ tkL 121 b := fun u hu => List.mem_append_left _ hu
  have hchain : ∃ k, tkR anyN k b s2 := by
    rcases h6' with q | ⟨⟨r, q⟩, q2⟩
    · rw [h6, q] at c1
      exact ⟨_, c1⟩
    · obtain ⟨n, hn⟩ := q2 b (by rw [q]; exact stp.c (by simp)) (by rw [← h6]; exact h5.1)
      rw [h6] at c1
      exact tkR_det c1 c2 hn
  obtain ⟨k, ck⟩ := hchain
  have lt := tkL_lt 121 ck c2
  rw [← c3] at lt
  have l1 : s'.length ≤ t.length := by
    obtain ⟨w0, e0⟩ := j3
    rw [e0, List.length_append]
    omega
  refine ⟨h1, by rw [List.length_append]; exact h40, by rw [tlen_app]; exact h600, by rw [List.length_append, List.length_append, List.length_singleton]; omega, ⟨by omega, h5.2.sfx j3⟩, ⟨rfl, Or.inl rfl⟩, fun q hq => ?_, h8.imp id (fun z => z.mono up), ⟨hN, by rw [tlen_app]; exact hfl⟩, fun u hu => up u (h10 u hu), by rw [ltN_x]; omega⟩
  rcases List.mem_append.mp hq with z | z
  · obtain ⟨q1, q2, q3, q4⟩ := h7 q z
    exact ⟨q1, q2.mono up, q3, q4⟩
  · rw [List.mem_singleton.mp z]
    refine ⟨htr, fun x hx => ⟨j2 x hx, fun hk => hN _ (hnm x hx hk), fun hk => ?_⟩, by show cstL L ≤ 1200; omega, c4⟩
    have := (j2 x hx).2.1 hk
    refine up _ (h10 _ ?_)
    unfold X0
    refine List.mem_append_right _ (List.mem_cons_of_mem _ (List.mem_map.mpr ⟨x.2.1.natAbs, ?_, rfl⟩))
    rw [List.mem_range]
    omega
end JJ
