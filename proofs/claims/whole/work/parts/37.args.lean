-- Parser: arguments
/-- k terms in a chain that goes on at y, and their greatest depth -/
def xSg (F : xF) (nm : List Nat) : Nat → Int32 → Nat → Nat → List xIt → Nat → Int32 → Prop
  | 0, x, _, _, L, m, y => x = y ∧ L = [] ∧ m = 0
  | k + 1, x, lo, hi, L, m, y => ∃ a b D m' L1 L2, lo ≤ a ∧ a < b ∧ b ≤ hi ∧ x = nI (b - 1) ∧ xTr F nm D a b L1 ∧ F.2.2.2.2.2 (b - 1) = nI D ∧ 1 ≤ D ∧ D ≤ 14 ∧ m = max D m' ∧ L = L1 ++ L2 ∧ xSg F nm k (F.2.2.2.2.1 (b - 1)) lo hi L2 m' y
theorem xSg.same {F F' : xF} {nm : List Nat} {lo hi : Nat} {y : Int32} (hg : xA0 F F' hi) : ∀ {k : Nat} {x : Int32} {L : List xIt} {m : Nat}, xSg F nm k x lo hi L m y → xSg F' nm k x lo hi L m y
  | 0, x, L, m, h => h
  | k + 1, x, L, m, h => by
    obtain ⟨a, b, D, m', L1, L2, h1, h2, h3, h4, h5, h6, h7, h8, h9, h10, h11⟩ := h
    obtain ⟨g1, g2, g3, g4, g5, g6⟩ := hg (b - 1) (by omega)
    exact ⟨a, b, D, m', L1, L2, h1, h2, h3, h4, h5.same0 hg h3, g6.trans h6, h7, h8, h9, h10, by rw [g5]; exact h11.same hg⟩
theorem xSg.wide {F : xF} {nm : List Nat} {lo hi hi' : Nat} {y : Int32} (hh : hi ≤ hi') : ∀ {k : Nat} {x : Int32} {L : List xIt} {m : Nat}, xSg F nm k x lo hi L m y → xSg F nm k x lo hi' L m y
  | 0, x, L, m, h => h
  | k + 1, x, L, m, h => by
    obtain ⟨a, b, D, m', L1, L2, h1, h2, h3, h4, h5, h6, h7, h8, h9, h10, h11⟩ := h
    exact ⟨a, b, D, m', L1, L2, h1, h2, by omega, h4, h5, h6, h7, h8, h9, h10, h11.wide hh⟩
theorem xSg.snoc {F : xF} {nm : List Nat} {lo hi a b D : Nat} {R : List xIt} {y : Int32} (h1 : lo ≤ a) (h2 : a < b) (h3 : b ≤ hi) (h4 : xTr F nm D a b R) (h5 : F.2.2.2.2.2 (b - 1) = nI D) (h6 : 1 ≤ D ∧ D ≤ 14) (h7 : F.2.2.2.2.1 (b - 1) = y) : ∀ {k : Nat} {x : Int32} {L : List xIt} {m : Nat}, xSg F nm k x lo hi L m (nI (b - 1)) → xSg F nm (k + 1) x lo hi (L ++ R) (max m D) y
  | 0, x, L, m, h => by
    obtain ⟨q1, q2, q3⟩ := h
    subst q1 q2 q3
    exact ⟨a, b, D, 0, R, [], h1, h2, h3, rfl, h4, h5, h6.1, h6.2, by omega, by simp, h7, rfl, rfl⟩
  | k + 1, x, L, m, h => by
    obtain ⟨a', b', D', m', L1, L2, q1, q2, q3, q4, q5, q6, q7, q8, q9, q10, q11⟩ := h
    exact ⟨a', b', D', max m' D, L1, L2 ++ R, q1, q2, q3, q4, q5, q6, q7, q8, by omega, by rw [q10, List.append_assoc], xSg.snoc h1 h2 h3 h4 h5 h6 h7 q11⟩
theorem xSg.cd {F : xF} {nm : List Nat} {lo hi n : Nat} (hn : hi ≤ n) : ∀ {k : Nat} {x : Int32} {L : List xIt} {m : Nat}, xSg F nm k x lo hi L m (-1) → xCd F n x k m
  | 0, x, L, m, h => ⟨h.1, h.2.2⟩
  | k + 1, x, L, m, h => by
    obtain ⟨a, b, D, m', L1, L2, h1, h2, h3, h4, h5, h6, h7, h8, h9, h10, h11⟩ := h
    exact ⟨b - 1, D, m', by omega, h4, h6, h8, h9, h11.cd hn⟩
theorem xSg.ch {F : xF} {nm : List Nat} {lo hi E : Nat} : ∀ {k : Nat} {x : Int32} {L : List xIt} {m : Nat}, xSg F nm k x lo hi L m (-1) → m ≤ E → xCh F (fun a b l => xTr F nm E a b l) k x lo hi L
  | 0, x, L, m, h, _ => ⟨h.1, h.2.1⟩
  | k + 1, x, L, m, h, hE => by
    obtain ⟨a, b, D, m', L1, L2, h1, h2, h3, h4, h5, h6, h7, h8, h9, h10, h11⟩ := h
    exact ⟨a, b, L1, L2, h1, h2, h3, h4, h5.le (by omega), h10, h11.ch (by omega)⟩
theorem xSg.m14 {F : xF} {nm : List Nat} {lo hi : Nat} {y : Int32} : ∀ {k : Nat} {x : Int32} {L : List xIt} {m : Nat}, xSg F nm k x lo hi L m y → m ≤ 14
  | 0, x, L, m, h => by have := h.2.2; omega
  | k + 1, x, L, m, h => by
    obtain ⟨a, b, D, m', L1, L2, h1, h2, h3, h4, h5, h6, h7, h8, h9, h10, h11⟩ := h
    have := h11.m14
    omega
/-- the arguments that have been read: none, or a chain and the last of them -/
def xAr (F : xF) (nm : List Nat) (i : Nat) (xf xl : Int32) (n c : Nat) (L : List xIt) (M : Nat) : Prop :=
  (i = 0 ∧ xf = -1 ∧ xl = -1 ∧ c = n ∧ L = [] ∧ M = 0) ∨
  (∃ k mid Ls Ml Rl Dl, i = k + 1 ∧ xl = nI (c - 1) ∧ n ≤ mid ∧ mid < c ∧ xSg F nm k xf n mid Ls Ml (nI (c - 1)) ∧ xTr F nm Dl mid c Rl ∧ F.2.2.2.2.2 (c - 1) = nI Dl ∧ 1 ≤ Dl ∧ Dl ≤ 14 ∧ F.2.2.2.2.1 (c - 1) = -1 ∧ L = Ls ++ Rl ∧ M = max Ml Dl)
section PS
variable {sc : xSc} {d g : Nat} {t nm : List Nat} {sl : List xSl} {u p v : Nat} {G : xG} {P : xO → xH → Prop}
set_option maxHeartbeats 4000000 in
set_option maxRecDepth 100000 in
theorem p_argsLoop {e lv n : Nat} {A0 : List xC} {F0 : xF} (hd : 4 * e ≤ d) (IH : ∀ dd, 4 * e + 10 ≤ dd → xTmC sc dd g t nm sl u p v G e (lv + 1)) (hsl : ∀ e ∈ sl, ¬ e.1 = 0 ∧ 1 ≤ e.2.1 ∧ e.2.1 ≤ 1200) (hch : ∀ c ∈ t, 32 ≤ c ∧ c ≤ 126) :
    ∀ (k i : Nat) (A : List xC) (F : xF) (a m c pr : Nat) (xf xl : Int32) (L : List xIt) (M : Nat) (st : xSt), i + k = 6 → xWd A t nm sl u p v G c F a pr → c = n + L.length → xAr F nm i xf xl n c L M → xTA t nm G u m a st.1 st.2 → sfx t st.1 → c + 2 * st.1.length ≤ 840 → xA0 F0 F n → xSame A0 A pL →
    (∀ A', (args (tmF sl e) k st = none ∨ ∃ r, args (tmF sl e) k st = some r ∧ 14 < max M r.2.2.1) → xBd A0 A' t nm sl u p v G n F0 (e + 1) → P (.inl (some (.int (-1)))) (A', g)) →
    (∀ A' F' a' m' pr' x r, args (tmF sl e) k st = some r → max M r.2.2.1 ≤ 14 → xWd A' t nm sl u p v G (n + (L ++ r.1).length) F' a' pr' → xTA t nm G u m' a' r.2.2.2.1 r.2.2.2.2 → xSg F' nm (i + r.2.1) x n (n + (L ++ r.1).length) (L ++ r.1) (max M r.2.2.1) (-1) → xA0 F0 F' n → xSame A0 A' pL → P (.inl (some (.int x))) (A', g)) →
    xP sc (d + 11) 51 7 [(0, .ref 25), (1, .int (nI lv)), (2, .int xf), (3, .int xl), (4, .int (nI i))] [] (A, g) P
  | 0, i, A, F, a, m, c, pr, xf, xl, L, M, st, hi, hw, hcn, har, hta, hsx, hbud, hag, hsm, kb, ko => by
    have h6 : (6 : Int32).toInt = 6 := rfl
    have hI : (nI i).toInt = (i : Int) := nI_toInt (by omega)
    have hua := (TA_E hta).1
    have hu := hw.2.2.2.1.1
    refine xP_s rfl rfl rfl ?_
    refine xP_s rfl rfl rfl ?_
    refine xP_s rfl rfl rfl ?_
    refine xP_if (fun hc => ?_) (fun hc => ?_)
    · repeat' first
        | refine xP_s rfl rfl rfl ?_
        | refine xP_ret rfl rfl rfl ?_
      exact kb A (Or.inl rfl) ⟨c, F, a, pr, hw, by omega, hag, by omega, hsm⟩
    · have := xc_f hc
      dsimp only at this
      omega
  | k + 1, i, A, F, a, m, c, pr, xf, xl, L, M, st, hi, hw, hcn, har, hta, hsx, hbud, hag, hsm, kb, ko => by
    have h6 : (6 : Int32).toInt = 6 := rfl
    have hm1 : (-1 : Int32).toInt = -1 := rfl
    have h0' : (0 : Int32).toInt = 0 := rfl
    have hI : (nI i).toInt = (i : Int) := nI_toInt (by omega)
    have h25 := hw.2.2.2.2.2.1
    unfold xPa at h25
    have hu := hw.2.2.2.1.1
    have hncc : n ≤ c := by omega
    have eq0 : args (tmF sl e) (k + 1) st = (match tmF sl e 999 st with
      | none => none
      | some (R, DR, st', _) => if isMk st'.1 44 = true then (match args (tmF sl e) k ((nx st'.1).2.2.2, st'.2) with
          | none => none
          | some (As, k', DA, st2) => some (R ++ As, k' + 1, max DR DA, st2))
        else if isMk st'.1 41 = true then some (R, 1, DR, ((nx st'.1).2.2.2, st'.2)) else none) := by
      conv => lhs; unfold args
      rfl
    refine xP_s rfl rfl rfl ?_
    refine xP_s rfl rfl rfl ?_
    refine xP_s rfl rfl rfl ?_
    refine xP_if (fun hc => ?_) (fun hc => ?_)
    · have := xc_t hc
      dsimp only at this
      omega
    · refine xP_s rfl rfl rfl ?_
      refine xP_s rfl rfl rfl ?_
      refine xP_s rfl rfl rfl ?_
      refine xP_s rfl rfl rfl ?_
      refine xP_s rfl rfl rfl ?_
      rw [nI_1]
      refine xP_cv rfl rfl rfl rfl rfl h25 (IH (d + 10) (by omega) A c F a pr m st.1 st.2 999 999 _ rfl (by omega) (by omega) hw hta hsx hbud (fun A2 z1 z2 => ?_) (fun A2 F2 a2 m2 r z1 z2 z3 => ?_))
      · obtain ⟨n', F', a', pr', y1, y2, y3, y4, y5⟩ := z2
        repeat' first
          | refine xP_s rfl rfl rfl ?_
          | refine xP_ret rfl rfl rfl ?_
        refine kb A2 ?_ ⟨n', F', a', pr', y1, by omega, hag.trans y3 hncc, by omega, (hsm.trans y5).wide (by decide)⟩
        rw [eq0]
        rcases z1 with z1 | ⟨⟨R, DR, st', pr1⟩, z1, z3⟩
        · rw [show tmF sl e 999 st = none from z1]
          exact Or.inl rfl
        · rw [show tmF sl e 999 st = some (R, DR, st', pr1) from z1]
          dsimp only at z3 ⊢
          split
          · cases hx : args (tmF sl e) k ((nx st'.1).2.2.2, st'.2) with
            | none => exact Or.inl rfl
            | some r => exact Or.inr ⟨_, rfl, by dsimp only; omega⟩
          · split
            · exact Or.inr ⟨_, rfl, by dsimp only; omega⟩
            · exact Or.inl rfl
      · obtain ⟨R, DR, st', pr1⟩ := r
        obtain ⟨y1, y2, y3, y4, y5, y6, y7⟩ := z3
        dsimp only at z2 y1 y2 y3 y4 y5
        rw [show tmF sl e 999 st = some (R, DR, st', pr1) from z1] at eq0
        dsimp only at eq0
        have rI := tmF_I (fun e he => ⟨(hsl e he).1, (hsl e he).2.2⟩) e _ _ _ z1
        obtain ⟨i1, i2, i3, i4⟩ := rI
        dsimp only at i1 i2 i3 i4
        have i1l := i1.len
        obtain ⟨ys, yn, yo, yt, yp, y25, ypr⟩ := id y1
        unfold xPa at y25
        have hpn := yp.1
        have hsx2 : sfx t st'.1 := hsx.trans i1.sfx
        have hss2 : ∀ c ∈ st'.1, 32 ≤ c ∧ c ≤ 126 := fun c hc => hch c (hsx2.mem c hc)
        have hC2 : ((c + R.length - 1 : Nat) : Int) = c + R.length - 1 := by omega
        have hlR : (L ++ R).length = L.length + R.length := List.length_append
        -- behind the link: F3, in which the new one is the last
        have after : ∀ A3 F3 xf3, xWd A3 t nm sl u p v G (c + R.length) F3 a2 pr1 → xAr F3 nm (i + 1) xf3 (nI (c + R.length - 1)) n (c + R.length) (L ++ R) (max M DR) → xA0 F0 F3 n → xSame A0 A3 pL → xP sc (d + 11) 51 56 [(0, .ref 25), (1, .int (nI lv)), (2, .int xf3), (3, .int xl), (4, .int (nI i)), (5, .int (nI (c + R.length - 1)))] [] (A3, g) P := by
          intro A3 F3 xf3 hw3 har3 hag3 hsm3
          obtain ⟨ws, wn, wo, wt, wp, w25, wpr⟩ := id hw3
          unfold xPa at w25
          refine xP_s rfl rfl rfl ?_
          refine xP_s rfl rfl rfl ?_
          refine xP_s rfl rfl rfl ?_
          refine xP_s rfl rfl rfl ?_
          refine xP_cv rfl rfl rfl rfl rfl w25 (p_take (c := 44) hw3 y2 hss2 (by omega) (fun c1 => ?_) (fun c1 A4 m4 x1 x2 x3 => ?_))
          · rw [if_neg (by rw [c1]; decide)] at eq0
            refine xP_s rfl rfl rfl ?_
            refine xP_s rfl rfl rfl ?_
            refine xP_s rfl rfl rfl ?_
            refine xP_cv rfl rfl rfl rfl rfl w25 (p_take (c := 41) hw3 y2 hss2 (by omega) (fun c2 => ?_) (fun c2 A4 m4 x1 x2 x3 => ?_))
            · rw [if_neg (by rw [c2]; decide)] at eq0
              repeat' first
                | refine xP_s rfl rfl rfl ?_
                | refine xP_ret rfl rfl rfl ?_
              have hua2 := (TA_E y2).1
              exact kb A3 (Or.inl eq0) ⟨_, F3, a2, _, hw3, by omega, hag3, by omega, hsm3⟩
            · rw [if_pos c2] at eq0
              repeat' first
                | refine xP_s rfl rfl rfl ?_
                | refine xP_ret rfl rfl rfl ?_
              rcases har3 with ⟨q, _⟩ | ⟨k', mid, Ls, Ml, Rl, Dl, q1, q2, q3, q4, q5, q6, q7, q8, q9, q10, q11, q12⟩
              · omega
              · have hsg := (q5.wide (hi' := c + R.length) (by omega)).snoc q3 q4 (Nat.le_refl _) q6 q7 ⟨q8, q9⟩ q10
                rw [← q11, ← q12, ← q1] at hsg
                have hm14 := hsg.m14
                have e1 : c + R.length = n + (L ++ R).length := by omega
                rw [e1] at x1 hsg
                exact ko A4 F3 (a2 + 1) m4 _ xf3 (R, 1, DR, ((nx st'.1).2.2.2, st'.2)) eq0 (by dsimp only; omega) x1 x2 hsg hag3 ((hsm3.trans x3).wide (by decide))
          · rw [if_pos c1] at eq0
            have q5 := (isMk_k c1).1
            have tk := nx_tk2 (s := st'.1) (by omega)
            have tkl := tk.len
            have hm14 : max M DR ≤ 14 := by
              rcases har3 with ⟨q, _⟩ | ⟨k', mid, Ls, Ml, Rl, Dl, q1, q2, q3, q4, q5, q6, q7, q8, q9, q10, q11, q12⟩
              · omega
              · have := q5.m14
                omega
            have go := p_argsLoop hd IH hsl hch k (i + 1) A4 F3 (a2 + 1) m4 (c + R.length) _ xf3 _ (L ++ R) (max M DR) ((nx st'.1).2.2.2, st'.2) (by omega) x1 (by omega) har3 x2 (hsx2.trans (nx_sfx' (by omega))) (by dsimp only; omega) hag3 ((hsm3.trans x3).wide (by decide)) (fun A' z1 z2 => kb A' (by
              rw [eq0]
              rcases z1 with z1 | ⟨⟨As, k', DA, st2⟩, z1, z3⟩
              · rw [z1]
                exact Or.inl rfl
              · rw [z1]
                exact Or.inr ⟨_, rfl, by dsimp only at z3 ⊢; omega⟩) z2) (fun A' F' a' m' pr' x r z1 z2 z3 z4 z5 z6 z7 => by
              obtain ⟨As, k', DA, st2⟩ := r
              rw [z1] at eq0
              dsimp only at eq0 z2 z3 z4 z5
              refine ko A' F' a' m' pr' x (R ++ As, k' + 1, max DR DA, st2) eq0 (by dsimp only; omega) ?_ z4 ?_ z6 z7
              · dsimp only
                rw [← List.append_assoc]
                exact z3
              · dsimp only
                rw [← List.append_assoc, show i + (k' + 1) = i + 1 + k' by omega, show max M (max DR DA) = max (max M DR) DA by omega]
                exact z5)
            rw [← nI_1 i] at go
            have go1 := xP_more [(5, .int (nI (c + R.length - 1)))] rfl go
            repeat' first
              | exact go1
              | refine xP_s rfl rfl rfl ?_
        have trR : ∀ F3 : xF, xAg F2 F3 c (c + R.length) → xTr F3 nm DR c (c + R.length) R := fun F3 h => y3.frame0 h
        refine xP_s rfl rfl rfl ?_
        refine xP_s rfl rfl rfl ?_
        refine xP_s rfl rfl rfl ?_
        refine xP_s rfl rfl rfl ?_
        refine xP_if (fun hc => ?_) (fun hc => ?_)
        · rcases har with ⟨q1, q2, q3, q4, q5, q6⟩ | ⟨k', mid, Ls, Ml, Rl, Dl, q1, q2, q3, q4, q5, q6, q7, q8, q9, q10, q11, q12⟩
          · -- the first one
            subst q1 q2 q3 q4 q5 q6
            have ar : xAr F2 nm (0 + 1) (nI (c + R.length - 1)) (nI (c + R.length - 1)) c (c + R.length) ([] ++ R) (max 0 DR) := Or.inr ⟨0, c, [], 0, R, DR, rfl, rfl, Nat.le_refl _, by omega, ⟨rfl, rfl, rfl⟩, y3, y4, i3, z2, y5, rfl, rfl⟩
            have af := after _ _ (nI (c + R.length - 1)) y1 ar (hag.trans y6 (Nat.le_refl _)) ((hsm.trans y7).wide (by decide))
            refine xP_s rfl rfl rfl ?_
            refine xP_s rfl rfl rfl ?_
            refine xP_s rfl rfl rfl ?_
            refine xP_s rfl rfl rfl ?_
            refine xP_s rfl rfl rfl ?_
            refine xP_s rfl rfl rfl ?_
            refine xP_get rfl y25 rfl ?_
            refine xP_s rfl rfl rfl ?_
            refine xP_s rfl rfl rfl ?_
            refine xP_cv rfl rfl rfl rfl rfl yp.2.1 (p_link (o := none) yp (fun i h => by cases h) (fun A3 x1 x2 => ?_))
            have hw3 := y1.setP x1 (x2.wide (by decide))
            exact after A3 _ (nI (c + R.length - 1)) hw3 ar (hag.trans y6 (Nat.le_refl _)) (((hsm.trans y7).trans x2).wide (by decide))
          · subst q1 q2
            have hne : ¬ (nI (k' + 1)).toInt = 0 := by rw [nI_toInt (by omega)]; omega
            have F3d : ∀ A3, xPt A3 (c + R.length) (F2.1, F2.2.1, F2.2.2.1, F2.2.2.2.1, upd F2.2.2.2.2.1 (c - 1) (nI (c + R.length - 1)), F2.2.2.2.2.2) → xSame A2 A3 [16] → xP sc (d + 11) 51 56 [(0, .ref 25), (1, .int (nI lv)), (2, .int xf), (3, .int (nI (c - 1))), (4, .int (nI (k' + 1))), (5, .int (nI (c + R.length - 1)))] [] (A3, g) P := by
              intro A3 x1 x2
              have hw3 := y1.setP x1 (x2.wide (by decide))
              have ax : ∀ {lo hi : Nat}, (hi ≤ c ∨ c ≤ lo) → xAg F2 (F2.1, F2.2.1, F2.2.2.1, F2.2.2.2.1, upd F2.2.2.2.2.1 (c - 1) (nI (c + R.length - 1)), F2.2.2.2.2.2) lo hi := fun hh j g1 g2 => ⟨rfl, rfl, rfl, rfl, fun g3 => pk_un (by omega)⟩
              have a0 : xA0 F2 (F2.1, F2.2.1, F2.2.2.1, F2.2.2.2.1, upd F2.2.2.2.2.1 (c - 1) (nI (c + R.length - 1)), F2.2.2.2.2.2) mid := fun j hj => ⟨rfl, rfl, rfl, rfl, pk_un (by omega), rfl⟩
              have sg := (((q5.same (fun j hj => y6 j (by omega))).same a0).wide (hi' := c) (by omega)).snoc (a := mid) (b := c) (R := Rl) (D := Dl) (y := nI (c + R.length - 1)) q3 q4 (Nat.le_refl _) ((q6.same0 y6 (Nat.le_refl _)).frame0 (ax (Or.inl (Nat.le_refl _)))) ((y6 (c - 1) (by omega)).2.2.2.2.2.trans q7) ⟨q8, q9⟩ pk_us
              refine after A3 _ xf hw3 (Or.inr ⟨k' + 1, c, Ls ++ Rl, max Ml Dl, R, DR, rfl, rfl, by omega, by omega, sg, y3.frame0 (ax (Or.inr (Nat.le_refl _))), y4, i3, z2, ?_, by rw [q11], by rw [q12]⟩) ?_ (((hsm.trans y7).trans x2).wide (by decide))
              · show upd F2.2.2.2.2.1 (c - 1) (nI (c + R.length - 1)) (c + R.length - 1) = -1
                rw [pk_un (by omega)]
                exact y5
              · exact (hag.trans y6 (by omega)).trans a0 (by omega)
            refine xP_s rfl rfl rfl ?_
            refine xP_s rfl rfl rfl ?_
            refine xP_if (fun hc => ?_) (fun hc => ?_)
            · refine xP_s rfl rfl rfl ?_
              refine xP_s rfl rfl rfl ?_
              refine xP_s rfl rfl rfl ?_
              refine xP_get rfl y25 rfl ?_
              refine xP_s rfl rfl rfl ?_
              refine xP_s rfl rfl rfl ?_
              refine xP_cv rfl rfl rfl rfl rfl yp.2.1 (p_link (o := some (c - 1)) yp (fun i h => by have := Option.some.inj h; omega) (fun A3 x1 x2 => ?_))
              exact F3d A3 x1 x2
            · exact absurd (xc_f hc) hne
        · exact absurd (xc_f hc) (nI_neg1 (show c + R.length - 1 < 2 ^ 31 by omega))
set_option maxRecDepth 100000 in
theorem p_arguments {e lv n m a pr : Nat} {A : List xC} {F : xF} {st : xSt} (hd : 4 * e ≤ d) (IH : ∀ dd, 4 * e + 10 ≤ dd → xTmC sc dd g t nm sl u p v G e (lv + 1)) (hsl : ∀ e ∈ sl, ¬ e.1 = 0 ∧ 1 ≤ e.2.1 ∧ e.2.1 ≤ 1200) (hch : ∀ c ∈ t, 32 ≤ c ∧ c ≤ 126) (hw : xWd A t nm sl u p v G n F a pr) (hta : xTA t nm G u m a st.1 st.2) (hsx : sfx t st.1) (hbud : n + 2 * st.1.length ≤ 840)
    (kb : ∀ A', (args (tmF sl e) 6 st = none ∨ ∃ r, args (tmF sl e) 6 st = some r ∧ 14 < r.2.2.1) → xBd A A' t nm sl u p v G n F (e + 1) → P (.inl (some (.int (-1)))) (A', g))
    (ko : ∀ A' F' a' m' pr' x r, args (tmF sl e) 6 st = some r → r.2.2.1 ≤ 14 → xWd A' t nm sl u p v G (n + r.1.length) F' a' pr' → xTA t nm G u m' a' r.2.2.2.1 r.2.2.2.2 → xSg F' nm r.2.1 x n (n + r.1.length) r.1 r.2.2.1 (-1) → xA0 F F' n → xSame A A' pL → P (.inl (some (.int x))) (A', g)) : xM1 sc (d + 11) 51 [.ref 25, .int (nI lv)] (A, g) P := by
  have go := p_argsLoop (P := P) hd IH hsl hch 6 0 A F a m n pr (-1) (-1) [] 0 st rfl hw rfl (Or.inl ⟨rfl, rfl, rfl, rfl, rfl, rfl⟩) hta hsx hbud (xA0.refl _ _) (xSame.refl A pL) (fun A' z1 z2 => kb A' (by simpa using z1) z2) (fun A' F' a' m' pr' x r z1 z2 z3 z4 z5 z6 z7 => by
    rw [List.nil_append] at z3 z5
    rw [Nat.zero_add, Nat.max_eq_right (Nat.zero_le _)] at z5
    exact ko A' F' a' m' pr' x r z1 (by omega) z3 z4 z5 z6 z7)
  unfold xM1
  repeat' first
    | exact go
    | refine xP_s rfl rfl rfl ?_
end PS
