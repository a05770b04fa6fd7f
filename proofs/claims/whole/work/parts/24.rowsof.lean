-- rows of characters; names
abbrev xTn (G : xG) (u : Nat) (x1 : Int32) (p e : Nat) (x4 x5 : Int32) (key : Int64) : xG := (upd G.1 u x1, upd G.2.1 u (nI p), upd G.2.2.1 u (nI e), upd G.2.2.2.1 u x4, upd G.2.2.2.2.1 u x5, vp_updL G.2.2.2.2.2 u key)
theorem p_isWordN {sc : xSc} {d g c : Nat} {A : List xC} {b : Bool} {P : xO → xH → Prop} (hb : isWd c = b) (hc : c < 2 ^ 31) (k : P (.inl (some (.int (xb b)))) (A, g)) : xM1 sc (d + 1) 204 [.int (nI c)] (A, g) P := by
  refine p_isWord ?_
  rw [isW_nI hc, hb]
  exact k
def spf (b : Bool) : Nat → Bool := if b then isSg else isWd
set_option maxRecDepth 100000 in
theorem p_behindRowLoop {sc : xSc} {d g u p v : Nat} {A : List xC} {G : xG} {t : List Nat} {b : Bool} {P : xO → xH → Prop} (ht : xTk A u p v G) (hs : xRw A 1 120 t) : ∀ (s : List Nat) (i : Nat), t.drop i = s → i ≤ t.length → P (.inl (some (.int (nI (t.length - (s.dropWhile (spf b)).length))))) (A, g) →
    xP sc (d + 2) 101 5 [(0, .ref 18), (1, .int (xb b)), (2, .int (nI i))] [] (A, g) P
  | [], i, hd, hi, k => by
    have h18 := ht.2.1
    have hl := hs.len
    have e := drop_n hd hi
    have hI : (nI i).toInt = (i : Int) := nI_toInt (by omega)
    have hL : (nI t.length).toInt = (t.length : Int) := nI_toInt (by omega)
    refine xP_s rfl rfl rfl ?_
    refine xP_s rfl rfl rfl ?_
    refine xP_get rfl h18 rfl ?_
    refine xP_cv rfl rfl rfl rfl rfl hs.obj (p_length hs ?_)
    refine xP_s rfl rfl rfl ?_
    refine xP_if (fun hc => ?_) (fun hc => ?_)
    · repeat' first
        | refine xP_s rfl rfl rfl ?_
        | refine xP_get rfl h18 rfl ?_
        | refine xP_cv rfl rfl rfl rfl rfl hs.obj (p_length hs ?_)
        | refine xP_ret rfl rfl rfl ?_
      exact k
    · have := xc_f hc
      dsimp only at this
      omega
  | c :: r, i, hd, hi, k => by
    have h18 := ht.2.1
    have hl := hs.len
    obtain ⟨hd1, hlt⟩ := drop_s hd
    have hI : (nI i).toInt = (i : Int) := nI_toInt (by omega)
    have hL : (nI t.length).toInt = (t.length : Int) := nI_toInt (by omega)
    have hc128 : c < 128 := hs.chr c (List.mem_of_mem_drop (hd ▸ List.mem_cons_self))
    have go := p_behindRowLoop (sc := sc) (d := d) (g := g) (b := b) (P := P) ht hs r (i + 1) hd1 (by omega)
    rw [← nI_1] at go
    refine xP_s rfl rfl rfl ?_
    refine xP_s rfl rfl rfl ?_
    refine xP_get rfl h18 rfl ?_
    refine xP_cv rfl rfl rfl rfl rfl hs.obj (p_length hs ?_)
    refine xP_s rfl rfl rfl ?_
    refine xP_if (fun hc => ?_) (fun hc => ?_)
    · have := xc_t hc
      dsimp only at this
      omega
    · refine xP_s rfl rfl rfl ?_
      refine xP_get rfl h18 rfl ?_
      refine xP_s rfl rfl rfl ?_
      refine xP_cv rfl rfl rfl rfl rfl hs.obj (p_at hs (by decide) (by decide) ?_)
      rw [cAt_sfx0 hd (by omega), oc_0]
      cases hf : spf b c
      · rw [List.dropWhile_cons_of_neg (by simp [hf]), ← drop_len hd hi] at k
        cases b
        · repeat' first
            | refine xP_s rfl rfl rfl ?_
            | refine xP_call rfl rfl rfl (p_isWordN (show isWd c = false from hf) (show c < 2 ^ 31 by omega) ?_)
            | refine xP_ret rfl rfl rfl ?_
          exact k
        · repeat' first
            | refine xP_s rfl rfl rfl ?_
            | refine xP_call rfl rfl rfl (p_isSignN (show isSg c = false from hf) (show c < 256 by omega) ?_)
            | refine xP_ret rfl rfl rfl ?_
          exact k
      · rw [List.dropWhile_cons_of_pos (by simp [hf])] at k
        have go := xP_more [(3, .int (nI c))] rfl (go k)
        cases b
        · repeat' first
            | exact go
            | refine xP_s rfl rfl rfl ?_
            | refine xP_call rfl rfl rfl (p_isWordN (show isWd c = true from hf) (show c < 2 ^ 31 by omega) ?_)
        · repeat' first
            | exact go
            | refine xP_s rfl rfl rfl ?_
            | refine xP_call rfl rfl rfl (p_isSignN (show isSg c = true from hf) (show c < 256 by omega) ?_)
set_option maxRecDepth 100000 in
theorem p_behindRow {sc : xSc} {d g u p v : Nat} {A : List xC} {G : xG} {t s : List Nat} {b : Bool} {P : xO → xH → Prop} (ht : xTk A u p v G) (hs : xRw A 1 120 t) (hd : t.drop p = s) (hp : p ≤ t.length) (k : P (.inl (some (.int (nI (t.length - (s.dropWhile (spf b)).length))))) (A, g)) : xM1 sc (d + 2) 101 [.ref 18, .int (xb b)] (A, g) P := by
  have h18 := ht.2.1
  have go := p_behindRowLoop (sc := sc) (d := d) (g := g) (b := b) (P := P) ht hs s p hd hp k
  unfold xM1
  repeat' first
    | exact go
    | refine xP_s rfl rfl rfl ?_
    | refine xP_get rfl h18 rfl ?_
set_option maxRecDepth 100000 in
theorem p_addName {sc : xSc} {d g u p v e : Nat} {A : List xC} {G : xG} {nm w : List Nat} {P : xO → xH → Prop} (ht : xTk A u p v G) (hn : xRw A 5 4926 (nm ++ w)) (hu : u < 120)
    (k0 : 24 < w.length → P (.inl (some (.int 0))) (A, g))
    (k : w.length ≤ 24 → ∀ A', xTk A' (u + 1) e v (xTn G u 1 p e (nI nm.length) (nI w.length) (kL w)) → xSame A A' [18, 19, 20, 21, 22, 23, 24] → P (.inl (some (.int 1))) (A', g)) : xM1 sc (d + 2) 104 [.ref 18, .int (nI nm.length), .int (nI e)] (A, g) P := by
  have h18 := ht.2.1
  have hl := hn.len
  rw [List.length_append] at hl
  have h24 : (24 : Int32).toInt = 24 := rfl
  have e1 : nI (nm ++ w).length - nI nm.length = nI w.length := by
    rw [List.length_append, ← nI_add, Int32.add_comm]
    exact Int32.add_sub_cancel _ _
  have hW : (nI w.length).toInt = (w.length : Int) := nI_toInt (by omega)
  unfold xM1
  refine xP_s rfl rfl rfl ?_
  refine xP_get rfl h18 rfl ?_
  refine xP_cv rfl rfl rfl rfl rfl hn.obj (p_length hn ?_)
  refine xP_s rfl rfl rfl ?_
  refine xP_s rfl rfl rfl ?_
  rw [e1]
  refine xP_s rfl rfl rfl ?_
  refine xP_s rfl rfl rfl ?_
  refine xP_s rfl rfl rfl ?_
  refine xP_s rfl rfl rfl ?_
  refine xP_if (fun hc => ?_) (fun hc => ?_)
  · have := xc_t hc
    dsimp only at this
    repeat' first
      | refine xP_s rfl rfl rfl ?_
      | refine xP_ret rfl rfl rfl ?_
    exact k0 (by omega)
  · have := xc_f hc
    dsimp only at this
    refine xP_s rfl rfl rfl ?_
    refine xP_s rfl rfl rfl ?_
    refine xP_s rfl rfl rfl ?_
    refine xP_s rfl rfl rfl ?_
    refine xP_s rfl rfl rfl ?_
    refine xP_s rfl rfl rfl ?_
    refine xP_get rfl h18 rfl ?_
    refine xP_s rfl rfl rfl ?_
    refine xP_s rfl rfl rfl ?_
    refine xP_call rfl rfl rfl (p_ofRow (l := w) hn (by decide) (by decide) rfl (by simp) (fun i c hi => by
      rw [List.getElem?_append_right (by omega)]
      simpa using hi) ?_)
    refine xP_cv rfl rfl rfl rfl rfl h18 (p_tadd ht hu (fun A' h1 h2 => ?_))
    repeat' first
      | refine xP_s rfl rfl rfl ?_
      | refine xP_ret rfl rfl rfl ?_
    exact k (by omega) A' h1 h2
set_option maxRecDepth 100000 in
theorem p_addPlainLoop {sc : xSc} {d g u p v e z : Nat} {G : xG} {t nm : List Nat} {P : xO → xH → Prop} (he : e ≤ t.length) (hz : z = nm.length) : ∀ (m i : Nat) (A : List xC) (w : List Nat), i + m = e → xTk A u p v G → xRw A 1 120 t → xRw A 5 4926 (nm ++ w) → nm.length + w.length + m ≤ 4926 →
    (∀ A', xTk A' u p v G → xRw A' 1 120 t → xRw A' 5 4926 (nm ++ (w ++ (t.drop i).take m)) → xSame A A' [5, 6] → xP sc (d + 1) 103 50 [(0, .ref 18), (1, .int (nI e)), (2, .int (nI z)), (3, .int (nI e))] [] (A', g) P) →
    xP sc (d + 1) 103 13 [(0, .ref 18), (1, .int (nI e)), (2, .int (nI z)), (3, .int (nI i))] [] (A, g) P
  | 0, i, A, w, hm, ht, hs, hn, hr, k => by
    have hl := hs.len
    have hI : (nI i).toInt = (i : Int) := nI_toInt (by omega)
    have ei : i = e := by omega
    subst ei
    refine xP_s rfl rfl rfl ?_
    refine xP_s rfl rfl rfl ?_
    refine xP_s rfl rfl rfl ?_
    refine xP_if (fun hc => ?_) (fun hc => ?_)
    · exact k A ht hs (by simpa using hn) (xSame.refl _ _)
    · have := xc_f hc
      dsimp only at this
      omega
  | m + 1, i, A, w, hm, ht, hs, hn, hr, k => by
    have h18 := ht.2.1
    have hl := hs.len
    have hI : (nI i).toInt = (i : Int) := nI_toInt (by omega)
    have hE : (nI e).toInt = (e : Int) := nI_toInt (by omega)
    have hL : (nI t.length).toInt = (t.length : Int) := nI_toInt (by omega)
    obtain ⟨c, hc0⟩ : ∃ c, t[i]? = some c := ⟨t[i]'(by omega), List.getElem?_eq_getElem (by omega)⟩
    have hc128 : c < 128 := hs.chr c (List.mem_of_getElem? hc0)
    refine xP_s rfl rfl rfl ?_
    refine xP_s rfl rfl rfl ?_
    refine xP_s rfl rfl rfl ?_
    refine xP_if (fun hc => ?_) (fun hc => ?_)
    · have := xc_t hc
      dsimp only at this
      omega
    · refine xP_s rfl rfl rfl ?_
      refine xP_s rfl rfl rfl ?_
      refine xP_get rfl h18 rfl ?_
      refine xP_cv rfl rfl rfl rfl rfl hs.obj (p_length hs ?_)
      refine xP_s rfl rfl rfl ?_
      refine xP_if (fun hc => ?_) (fun hc => ?_)
      · have := xc_t hc
        dsimp only at this
        omega
      · refine xP_s rfl rfl rfl ?_
        refine xP_get rfl h18 rfl ?_
        refine xP_s rfl rfl rfl ?_
        refine xP_get rfl h18 rfl ?_
        refine xP_s rfl rfl rfl ?_
        refine xP_cv rfl rfl rfl rfl rfl hs.obj (p_at hs (by decide) (by decide) ?_)
        rw [cAt_get (by omega) hc0]
        refine xP_cv rfl rfl rfl rfl rfl hn.obj (p_add hn (by decide) (by decide) hc128 (by rw [List.length_append]; omega) (fun A1 h1 s1 => ?_))
        rw [List.append_assoc] at h1
        have go := p_addPlainLoop (sc := sc) (d := d) (g := g) (P := P) he hz m (i + 1) A1 (w ++ [c]) (by omega) (ht.same s1 (by decide)) (hs.same s1 (by decide) (by decide)) h1 (by rw [List.length_append, List.length_singleton]; omega) (fun A' q1 q2 q3 q4 => k A' q1 q2 (by
          rw [List.append_assoc] at q3
          have e2 : (t.drop i).take (m + 1) = [c] ++ (t.drop (i + 1)).take m := by
            have e3 : t.drop i = c :: t.drop (i + 1) := by
              rw [List.drop_eq_getElem_cons (by omega)]
              congr 1
              have := List.getElem?_eq_getElem (show i < t.length by omega)
              rw [this] at hc0
              exact Option.some.inj hc0
            rw [e3]
            rfl
          rw [e2]
          exact q3) ((s1.trans q4).wide (by decide)))
        rw [← nI_1] at go
        repeat' first
          | exact go
          | refine xP_s rfl rfl rfl ?_
set_option maxRecDepth 100000 in
theorem p_addPlainName {sc : xSc} {d g u p v e : Nat} {A : List xC} {G : xG} {t nm w : List Nat} {P : xO → xH → Prop} (ht : xTk A u p v G) (hs : xRw A 1 120 t) (hn : xRw A 5 4926 nm) (hu : u < 120) (hpe : p ≤ e) (he : e ≤ t.length) (hw : (t.drop p).take (e - p) = w) (hr : nm.length + (e - p) ≤ 4926)
    (k0 : 24 < w.length → ∀ A', xTk A' u p v G → xRw A' 5 4926 (nm ++ w) → xSame A A' [5, 6, 18, 19, 20, 21, 22, 23, 24] → P (.inl (some (.int 0))) (A', g))
    (k : w.length ≤ 24 → ∀ A', xTk A' (u + 1) e v (xTn G u 1 p e (nI nm.length) (nI w.length) (kL w)) → xRw A' 5 4926 (nm ++ w) → xSame A A' [5, 6, 18, 19, 20, 21, 22, 23, 24] → P (.inl (some (.int 1))) (A', g)) : xM1 sc (d + 3) 103 [.ref 18, .int (nI e)] (A, g) P := by
  have h18 := ht.2.1
  have go := p_addPlainLoop (sc := sc) (d := d + 2) (g := g) (P := P) (z := nm.length) he rfl (e - p) p A [] (by omega) ht hs (by simpa using hn) (by simp; omega) (fun A1 q1 q2 q3 q4 => by
    rw [List.nil_append, hw] at q3
    refine xP_s rfl rfl rfl ?_
    refine xP_s rfl rfl rfl ?_
    refine xP_s rfl rfl rfl ?_
    refine xP_cv rfl rfl rfl rfl rfl q1.2.1 (p_addName q1 q3 hu (fun hz => ?_) (fun hz A2 z1 z2 => ?_))
    · repeat' first
        | refine xP_s rfl rfl rfl ?_
        | refine xP_ret rfl rfl rfl ?_
      exact k0 hz A1 q1 q3 (q4.wide (by decide))
    · repeat' first
        | refine xP_s rfl rfl rfl ?_
        | refine xP_ret rfl rfl rfl ?_
      exact k hz A2 z1 (q3.same z2 (by decide) (by decide)) ((q4.trans z2).wide (by decide)))
  unfold xM1
  repeat' first
    | exact go
    | refine xP_s rfl rfl rfl ?_
    | refine xP_get rfl h18 rfl ?_
    | refine xP_cv rfl rfl rfl rfl rfl hn.obj (p_length hn ?_)
