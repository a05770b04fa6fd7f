-- the text taken apart: all tokens up to the first end
def scanOK : Nat → List Nat → Bool
  | 0, _ => false
  | m + 1, s => match lay 121 s with
    | none => false
    | some s' => if 6 ≤ (lexT s').1 then false else if (lexT s').1 = 0 then true else scanOK m (lexT s').2.2.2
/-- the tokens from i on are those of s -/
def xTA (t nm : List Nat) (G : xG) (u : Nat) : Nat → Nat → List Nat → List (List Nat) → Prop
  | 0, _, _, _ => False
  | m + 1, i, s, vs => i < u ∧ vs.length ≤ i ∧ ∃ s', lay 121 s = some s' ∧ (lexT s').1 < 6 ∧ tkE t nm G i (t.length - s'.length) vs (lexT s') ∧ (((lexT s').1 = 0 ∧ u = i + 1) ∨ (¬ (lexT s').1 = 0 ∧ xTA t nm G u m (i + 1) (lexT s').2.2.2 (vsx vs (lexT s'))))
set_option maxRecDepth 100000 in
theorem p_scanLoop {sc : xSc} {d g : Nat} {t : List Nat} {P : xO → xH → Prop} : ∀ (m i : Nat) (A : List xC) (p : Nat) (s nm : List Nat) (G : xG) (vs : List (List Nat)), i + m = 120 → xTk A i p vs.length G → xRw A 1 120 t → xRw A 5 4926 nm → xVT t G i vs → t.drop p = s → p ≤ t.length → nm.length + s.length ≤ 4926 →
    (∀ A' u p' v G' w', (scanOK m s = true → xTA t (nm ++ w') G' u m i s vs ∧ w'.length ≤ s.length ∧ xGa G G' i) → xTk A' u p' v G' → xRw A' 5 4926 (nm ++ w') → xSame A A' [5, 6, 18, 19, 20, 21, 22, 23, 24] → P (.inl (some (.int (xb (scanOK m s))))) (A', g)) →
    xP sc (d + 6) 83 17 [(0, .ref 18), (1, .int (nI i))] [] (A, g) P
  | 0, i, A, p, s, nm, G, vs, hm, ht, hs, hn, hvt, hd, hp, hr, k => by
    have h120 : (120 : Int32).toInt = 120 := rfl
    have hI : (nI i).toInt = (i : Int) := nI_toInt (by omega)
    refine xP_s rfl rfl rfl ?_
    refine xP_s rfl rfl rfl ?_
    refine xP_s rfl rfl rfl ?_
    refine xP_if (fun hc => ?_) (fun hc => ?_)
    · repeat' first
        | refine xP_s rfl rfl rfl ?_
        | refine xP_ret rfl rfl rfl ?_
      exact k A i p _ G [] (fun h => by cases h) ht (by rw [List.append_nil]; exact hn) (xSame.refl _ _)
    · have := xc_f hc
      dsimp only at this
      omega
  | m + 1, i, A, p, s, nm, G, vs, hm, ht, hs, hn, hvt, hd, hp, hr, k => by
    have h18 := ht.2.1
    have hl := hs.len
    have h120 : (120 : Int32).toInt = 120 := rfl
    have hI : (nI i).toInt = (i : Int) := nI_toInt (by omega)
    have hsl : s.length = t.length - p := by rw [← hd, List.length_drop]
    refine xP_s rfl rfl rfl ?_
    refine xP_s rfl rfl rfl ?_
    refine xP_s rfl rfl rfl ?_
    refine xP_if (fun hc => ?_) (fun hc => ?_)
    · have := xc_t hc
      dsimp only at this
      omega
    · refine xP_s rfl rfl rfl ?_
      refine xP_cv rfl rfl rfl rfl rfl h18 (p_skipLayout ht hs hd hp (fun A1 p1 z1 z2 => ?_))
      cases hy : lay 121 s with
      | none =>
        have e : scanOK (m + 1) s = false := by
          unfold scanOK
          rw [hy]
        rw [hy] at z1
        dsimp only at z1
        rw [e] at k
        repeat' first
          | refine xP_s rfl rfl rfl ?_
          | refine xP_ret rfl rfl rfl ?_
        exact k A1 i p1 _ G [] (fun h => by cases h) z1 (by rw [List.append_nil]; exact hn.same z2 (by decide) (by decide)) (z2.wide (by decide))
      | some s' =>
        rw [hy] at z1
        dsimp only at z1
        obtain ⟨w0, ew0⟩ := lay_len hy
        obtain ⟨y1, y2, y3⟩ := sfx_drop hd hp ew0
        have hs1 := hs.same z2 (by decide) (by decide)
        have hn1 := hn.same z2 (by decide) (by decide)
        have hsl2 : s.length = w0.length + s'.length := by
          conv => lhs; rw [ew0]
          rw [List.length_append]
        refine xP_s rfl rfl rfl ?_
        refine xP_s rfl rfl rfl ?_
        refine xP_cv rfl rfl rfl rfl rfl z1.2.1 (p_scanToken z1 hs1 hn1 hvt rfl (by omega) y1 y3 (by omega) (fun A2 u2 p2 v2 G2 w2 q1 q2 q3 q4 => ?_) (fun A2 G2 w2 q1 q2 q3 q4 q5 q6 q7 => ?_))
        · have e : scanOK (m + 1) s = false := by
            unfold scanOK
            rw [hy]
            dsimp only
            rw [if_pos q1]
          rw [e] at k
          repeat' first
            | refine xP_s rfl rfl rfl ?_
            | refine xP_ret rfl rfl rfl ?_
          exact k A2 u2 p2 v2 G2 w2 (fun h => by cases h) q2 q3 ((z2.trans q4).wide (by decide))
        · have h18b := q2.2.1
          have hsub : nI (i + 1) - 1 = nI i := by rw [← nI_1]; exact Int32.add_sub_cancel _ _
          have hk : (nI (lexT s').1).toInt = ((lexT s').1 : Int) := nI_toInt (by omega)
          have h0 : (0 : Int32).toInt = 0 := rfl
          obtain ⟨w1, ew1, hw1⟩ := lexT_sfx q1
          obtain ⟨x1, x2, x3⟩ := sfx_drop y1 y3 ew1
          have hsl3 : s'.length = w1.length + (lexT s').2.2.2.length := by
            conv => lhs; rw [ew1]
            rw [List.length_append]
          refine xP_s rfl rfl rfl ?_
          refine xP_s rfl rfl rfl ?_
          refine xP_s rfl rfl rfl ?_
          refine xP_get rfl h18b rfl ?_
          refine xP_s rfl rfl rfl ?_
          refine xP_s rfl rfl rfl ?_
          rw [hsub]
          refine xP_cv rfl rfl rfl rfl rfl h18b (p_tkind q2 (by omega) ?_)
          rw [if_pos (by omega), q4.1]
          refine xP_s rfl rfl rfl ?_
          refine xP_if (fun hc => ?_) (fun hc => ?_)
          · have hne := xc_t hc
            dsimp only at hne
            have e : scanOK (m + 1) s = scanOK m (lexT s').2.2.2 := by
              conv => lhs; unfold scanOK
              rw [hy]
              dsimp only
              rw [if_neg (by omega), if_neg (by omega)]
            have hs2 := hs.same (z2.trans q7) (by decide) (by decide)
            have go := p_scanLoop (sc := sc) (d := d) (g := g) (P := P) m (i + 1) A2 (t.length - (lexT s').2.2.2.length) (lexT s').2.2.2 (nm ++ w2) G2 (vsx vs (lexT s')) (by omega) q2 hs2 q5 (vt_step hvt q3 q4 q1) x1 x3 (by rw [List.length_append]; omega) (fun A3 u3 p3 v3 G3 w3 r1 r3 r4 r5 => by
              have r1' : scanOK m (lexT s').2.2.2 = true → xTA t (nm ++ (w2 ++ w3)) G3 u3 (m + 1) i s vs ∧ (w2 ++ w3).length ≤ s.length ∧ xGa G G3 i := by
                intro h
                obtain ⟨f1, f2, f3⟩ := r1 h
                rw [List.append_assoc] at f1
                refine ⟨⟨?_, hvt.2.2.2, s', hy, q1, ?_, Or.inr ⟨by omega, f1⟩⟩, by rw [List.length_append]; omega, q3.trans f3 (by omega)⟩
                · cases m with
                  | zero => exact f1.elim
                  | succ m =>
                    have := f1.1
                    omega
                · have := q4.ga (r := w3) f3 (show i < i + 1 by omega)
                  rw [List.append_assoc] at this
                  exact this
              rw [← e] at r1'
              have r := k A3 u3 p3 v3 G3 (w2 ++ w3) r1' r3 (by rw [← List.append_assoc]; exact r4) (((z2.trans q7).trans r5).wide (by decide))
              rw [e] at r
              exact r)
            rw [← nI_1] at go
            repeat' first
              | exact go
              | refine xP_s rfl rfl rfl ?_
          · have heq := xc_f hc
            dsimp only at heq
            have e : scanOK (m + 1) s = true := by
              unfold scanOK
              rw [hy]
              dsimp only
              rw [if_neg (by omega), if_pos (by omega)]
            repeat' first
              | refine xP_s rfl rfl rfl ?_
              | refine xP_ret rfl rfl rfl ?_
            have r := k A2 (i + 1) _ _ G2 w2 (fun _ => ⟨⟨by omega, hvt.2.2.2, s', hy, q1, q4, Or.inl ⟨by omega, rfl⟩⟩, by omega, q3⟩) q2 q5 ((z2.trans q7).wide (by decide))
            rw [e] at r
            exact r
set_option maxRecDepth 100000 in
theorem p_scan {sc : xSc} {d g u p v : Nat} {A : List xC} {G : xG} {t nm : List Nat} {P : xO → xH → Prop} (ht : xTk A u p v G) (hs : xRw A 1 120 t) (hn : xRw A 5 4926 nm) (hr : nm.length + t.length ≤ 4926)
    (k : ∀ A' u p' v G' w', (scanOK 120 t = true → xTA t (nm ++ w') G' u 120 0 t [] ∧ w'.length ≤ t.length) → xTk A' u p' v G' → xRw A' 5 4926 (nm ++ w') → xSame A A' [5, 6, 18, 19, 20, 21, 22, 23, 24] → P (.inl (some (.int (xb (scanOK 120 t))))) (A', g)) : xM1 sc (d + 6) 83 [.ref 18] (A, g) P := by
  have h18 := ht.2.1
  have t1 := ht.setO (u' := 0) (p' := p) (v' := v) (by omega)
  have t2 := t1.setO (u' := 0) (p' := 0) (v' := v) (by omega)
  have t3 := t2.setO (u' := 0) (p' := 0) (v' := 0) (by omega)
  have s3 := ((xSame.set (A := A) 18 (.inr (5, [.ref 1, .ref 5, .ref 19, .ref 20, .ref 21, .ref 22, .ref 23, .ref 24, .int (nI 0), .int (nI p), .int (nI v)]))).trans (xSame.set 18 (.inr (5, [.ref 1, .ref 5, .ref 19, .ref 20, .ref 21, .ref 22, .ref 23, .ref 24, .int (nI 0), .int (nI 0), .int (nI v)])))).trans (xSame.set 18 (.inr (5, [.ref 1, .ref 5, .ref 19, .ref 20, .ref 21, .ref 22, .ref 23, .ref 24, .int (nI 0), .int (nI 0), .int (nI 0)])))
  have go := p_scanLoop (sc := sc) (d := d) (g := g) (P := P) (t := t) 120 0 _ 0 t nm G [] rfl t3 (hs.same s3 (by decide) (by decide)) (hn.same s3 (by decide) (by decide)) ⟨fun j hj => by omega, fun i w hi => by simp at hi, fun i i' w hi => by simp at hi, by simp⟩ (by simp) (by omega) hr (fun A' u p' v G' w' z1 z2 z3 z4 => k A' u p' v G' w' (fun h => ⟨(z1 h).1, (z1 h).2.1⟩) z2 z3 ((s3.trans z4).wide (by decide)))
  unfold xM1
  refine xP_s rfl rfl rfl ?_
  refine xP_s rfl rfl rfl ?_
  refine xP_put rfl h18 (Nat.le_of_ble_eq_true rfl) rfl ?_
  refine xP_s rfl rfl rfl ?_
  refine xP_s rfl rfl rfl ?_
  refine xP_put rfl t1.2.1 (Nat.le_of_ble_eq_true rfl) rfl ?_
  refine xP_s rfl rfl rfl ?_
  refine xP_s rfl rfl rfl ?_
  refine xP_put rfl t2.2.1 (Nat.le_of_ble_eq_true rfl) rfl ?_
  repeat' first
    | exact go
    | refine xP_s rfl rfl rfl ?_
