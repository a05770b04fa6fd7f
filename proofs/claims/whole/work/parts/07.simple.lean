section XS2
variable {p : Program} {l : Launch} {e : Env} {R : Room} {s : State} {m : MethodId} {args : Array Value} {below : List Frame} {meth : Method} {c : Code} {Q : State → Prop}
theorem x_if {P : Nat → Prop} {b : Bool} {x y : Nat} (h : P (if b = true then x else y)) (hb : b = true) : P x := by rw [if_pos hb] at h; exact h
theorem x_el {P : Nat → Prop} {b : Bool} {x y : Nat} (h : P (if b = true then x else y)) (hb : ¬ b = true) : P y := by rw [if_neg hb] at h; exact h
set_option maxHeartbeats 4000000 in
set_option maxRecDepth 100000 in
/-- a simple instruction, on the machine -/
theorem xs_sound {D : va_G} {K : xTy} {b scr : Nat} {sc : xSc} {C0 S0 mi d g pc : Nat} {r : xRow} {ls : xL} {st : List Value} {A : List xC} {q : xN} {H : Heap} {locs : List Loc} {cells slots : Nat} {la : Array Slot}
    (cx : xcx D K b scr sc mi p s m args meth c) (hok : xok mi pc r = true)
    (hs : xs sc (xme mi).2.2.1 d g r pc ls st A = some q) (hl : lv_has la (xme mi).2.2.1 (ls.map (xtv b scr))) (hw : xwd D K b scr s C0 S0 A g H locs cells slots)
    (hR : q.2.2.2.length + g ≤ C0 + R.cells ∧ xsn (q.2.2.2, g) ≤ S0 + R.slots) (hd : d ≤ R.frames ∧ 64 * d ≤ R.locals)
    (k : ∀ (la' : Array Slot) (H' : Heap) (locs' : List Loc) (cells' slots' : Nat), lv_has la' (xme mi).2.2.1 (q.2.1.map (xtv b scr)) → xwd D K b scr s C0 S0 q.2.2.2 g H' locs' cells' slots' → W p l e R s m args below meth c H' locs' cells' slots' Q (F0 m q.1 la' (q.2.2.1.map (xv b scr)))) :
    W p l e R s m args below meth c H locs cells slots Q (F0 m pc la (st.map (xv b scr))) := by
  obtain ⟨hx, hb, hml, hown, hts, hK, hX, hsb, hbs, hnm, hrt, hlk, hex⟩ := id cx
  obtain ⟨w1, w2, w3, w4, w5, hP, hS⟩ := id hw
  have hbA : ¬ (fun q : Nat => b ≤ q) scr := Nat.not_le.mpr hsb
  have hscr : scr < s.heap.size := Nat.lt_of_lt_of_le hsb hbs
  have hD := xw_D K b scr A
  have hne : ∀ {a : Nat} {e0 : xC}, A[a]? = some e0 → ¬ a = xscr := fun {a} {e0} ha h9 => by
    have := (List.getElem?_eq_some_iff.mp ha).1
    rw [h9] at this
    simp only [xscr] at this
    omega
  obtain ⟨i, len, r1, r2, r3, rv, rk, sw⟩ := r
  simp only [xok, Bool.and_eq_true, decide_eq_true_eq] at hok
  obtain ⟨hdec, hlen, hok⟩ := hok
  cases i with
  | iconst v =>
    simp only [xlen, Bool.or_eq_true, beq_iff_eq] at hlen
    obtain rfl : len = 1 := by omega
    simp only [xokI, decide_eq_true_eq] at hok
    cases hs
    exact lv_iconst hx hb hdec hok (k _ _ _ _ _ hl hw)
  | bipush v =>
    simp only [xlen, Bool.or_eq_true, beq_iff_eq] at hlen
    obtain rfl : len = 2 := by omega
    simp only [xokI, decide_eq_true_eq] at hok
    cases hs
    exact lv_bipush hx hb hdec hok (k _ _ _ _ _ hl hw)
  | sipush v =>
    simp only [xlen, Bool.or_eq_true, beq_iff_eq] at hlen
    obtain rfl : len = 3 := by omega
    simp only [xokI, decide_eq_true_eq] at hok
    cases hs
    exact lv_sipush hx hb hdec hok (k _ _ _ _ _ hl hw)
  | lconst v =>
    simp only [xlen, Bool.or_eq_true, beq_iff_eq] at hlen
    obtain rfl : len = 1 := by omega
    cases hs
    exact lv_lconst hx hb hdec rfl (k _ _ _ _ _ hl hw)
  | ldc2_w ix =>
    simp only [xlen, Bool.or_eq_true, beq_iff_eq] at hlen
    obtain rfl : len = 3 := by omega
    simp only [xokI] at hok
    cases hs
    exact lv_ldc2 hx hb hown (hts _ (xhas_in hok)) hdec (k _ _ _ _ _ hl hw)
  | iload ix =>
    simp only [xlen, Bool.or_eq_true, beq_iff_eq] at hlen
    obtain rfl : len = 2 := by omega
    simp only [xs, xlki] at hs
    split at hs
    · rename_i x hx1
      cases hs
      exact lv_iload hx hb hdec (xhas_lk hl hx1) (k _ _ _ _ _ hl hw)
    · cases hs
  | iload_n ix =>
    simp only [xlen, Bool.or_eq_true, beq_iff_eq] at hlen
    obtain rfl : len = 1 := by omega
    simp only [xs, xlki] at hs
    split at hs
    · rename_i x hx1
      cases hs
      exact lv_iload_n hx hb hdec rfl (xhas_lk hl hx1) (k _ _ _ _ _ hl hw)
    · cases hs
  | lload ix =>
    simp only [xlen, Bool.or_eq_true, beq_iff_eq] at hlen
    obtain rfl : len = 2 := by omega
    simp only [xs, xlkl] at hs
    split at hs
    · rename_i x hx1
      cases hs
      exact lv_lload hx hb hdec (xhas_lk hl hx1) (k _ _ _ _ _ hl hw)
    · cases hs
  | lload_n ix =>
    simp only [xlen, Bool.or_eq_true, beq_iff_eq] at hlen
    obtain rfl : len = 1 := by omega
    simp only [xs, xlkl] at hs
    split at hs
    · rename_i x hx1
      cases hs
      exact lv_lload_n hx hb hdec rfl (xhas_lk hl hx1) (k _ _ _ _ _ hl hw)
    · cases hs
  | aload ix =>
    simp only [xlen, Bool.or_eq_true, beq_iff_eq] at hlen
    obtain rfl : len = 2 := by omega
    simp only [xs, xlka] at hs
    split at hs
    · rename_i x hx1
      cases hs
      exact lv_aload hx hb hdec (xhas_lk hl hx1) (k _ _ _ _ _ hl hw)
    · cases hs
  | aload_n ix =>
    simp only [xlen, Bool.or_eq_true, beq_iff_eq] at hlen
    obtain rfl : len = 1 := by omega
    simp only [xs, xlka] at hs
    split at hs
    · rename_i x hx1
      cases hs
      exact lv_aload_n hx hb hdec rfl (xhas_lk hl hx1) (k _ _ _ _ _ hl hw)
    · cases hs
  | istore ix =>
    simp only [xlen, Bool.or_eq_true, beq_iff_eq] at hlen
    obtain rfl : len = 2 := by omega
    simp only [xs, xi1] at hs
    split at hs
    · split at hs
      · rename_i hlt
        cases hs
        exact lv_istore hx hb hdec hl hlt rfl (fun la2 hl2 => k _ _ _ _ _ (lv_has_mono hl2 xst1_sub) hw)
      · cases hs
    · cases hs
  | istore_n ix =>
    simp only [xlen, Bool.or_eq_true, beq_iff_eq] at hlen
    obtain rfl : len = 1 := by omega
    simp only [xs, xi1] at hs
    split at hs
    · split at hs
      · rename_i hlt
        cases hs
        exact lv_istore_n hx hb hdec rfl hl hlt rfl (fun la2 hl2 => k _ _ _ _ _ (lv_has_mono hl2 xst1_sub) hw)
      · cases hs
    · cases hs
  | lstore ix =>
    simp only [xlen, Bool.or_eq_true, beq_iff_eq] at hlen
    obtain rfl : len = 2 := by omega
    simp only [xs, xl1] at hs
    split at hs
    · split at hs
      · rename_i hlt
        cases hs
        exact lv_lstore hx hb hdec hl hlt rfl (fun la2 hl2 => k _ _ _ _ _ (lv_has_mono hl2 xst2_sub) hw)
      · cases hs
    · cases hs
  | lstore_n ix =>
    simp only [xlen, Bool.or_eq_true, beq_iff_eq] at hlen
    obtain rfl : len = 1 := by omega
    simp only [xs, xl1] at hs
    split at hs
    · split at hs
      · rename_i hlt
        cases hs
        exact lv_lstore_n hx hb hdec rfl hl hlt rfl (fun la2 hl2 => k _ _ _ _ _ (lv_has_mono hl2 xst2_sub) hw)
      · cases hs
    · cases hs
  | astore ix =>
    simp only [xlen, Bool.or_eq_true, beq_iff_eq] at hlen
    obtain rfl : len = 2 := by omega
    simp only [xs, xr1] at hs
    split at hs
    · split at hs
      · rename_i hlt
        cases hs
        exact lv_astore hx hb hdec hl hlt rfl (fun la2 hl2 => k _ _ _ _ _ (lv_has_mono hl2 xst1_sub) hw)
      · cases hs
    · cases hs
  | astore_n ix =>
    simp only [xlen, Bool.or_eq_true, beq_iff_eq] at hlen
    obtain rfl : len = 1 := by omega
    simp only [xs, xr1] at hs
    split at hs
    · split at hs
      · rename_i hlt
        cases hs
        exact lv_astore_n hx hb hdec rfl hl hlt rfl (fun la2 hl2 => k _ _ _ _ _ (lv_has_mono hl2 xst1_sub) hw)
      · cases hs
    · cases hs
  | iinc ix v =>
    simp only [xlen, Bool.or_eq_true, beq_iff_eq] at hlen
    obtain rfl : len = 3 := by omega
    simp only [xokI, decide_eq_true_eq] at hok
    simp only [xs, xlki] at hs
    split at hs
    · rename_i x hx1
      split at hs
      · rename_i hlt
        cases hs
        obtain ⟨kp, hkp⟩ := List.getElem?_of_mem (List.mem_map.mpr ⟨(ix, Value.int x), xlk_mem hx1, rfl⟩ : xtv b scr (ix, Value.int x) ∈ ls.map (xtv b scr))
        exact lv_iinc hx hb hdec hl hkp (by rw [hok]) hlt rfl (fun la2 hl2 => k _ _ _ _ _ (lv_has_mono hl2 xst1_sub) hw)
      · cases hs
    · cases hs
  | dup =>
    simp only [xlen, Bool.or_eq_true, beq_iff_eq] at hlen
    obtain rfl : len = 1 := by omega
    simp only [xs] at hs
    split at hs
    · split at hs
      · rename_i hc1
        cases hs
        exact lv_dup hx hb hdec (by rw [xv_cat]; exact hc1) (k _ _ _ _ _ hl hw)
      · cases hs
    · cases hs
  | pop =>
    simp only [xlen, Bool.or_eq_true, beq_iff_eq] at hlen
    obtain rfl : len = 1 := by omega
    simp only [xs] at hs
    split at hs
    · split at hs
      · rename_i hc1
        cases hs
        exact lv_pop hx hb hdec (by rw [xv_cat]; exact hc1) (k _ _ _ _ _ hl hw)
      · cases hs
    · cases hs
  | dup2 =>
    simp only [xlen, Bool.or_eq_true, beq_iff_eq] at hlen
    obtain rfl : len = 1 := by omega
    simp only [xs] at hs
    split at hs
    · split at hs
      · rename_i hc1
        split at hs
        · rename_i hc2
          cases hs
          exact lv_dup2_11 hx hb hdec (by rw [xv_cat]; exact hc1) (by rw [xv_cat]; exact hc2) (k _ _ _ _ _ hl hw)
        · cases hs
      · cases hs
    · cases hs
  | iadd =>
    simp only [xlen, Bool.or_eq_true, beq_iff_eq] at hlen
    obtain rfl : len = 1 := by omega
    simp only [xs, xi2] at hs
    split at hs
    · cases hs
      exact lv_iadd hx hb hdec (k _ _ _ _ _ hl hw)
    · cases hs
  | isub =>
    simp only [xlen, Bool.or_eq_true, beq_iff_eq] at hlen
    obtain rfl : len = 1 := by omega
    simp only [xs, xi2] at hs
    split at hs
    · cases hs
      exact lv_isub hx hb hdec (k _ _ _ _ _ hl hw)
    · cases hs
  | imul =>
    simp only [xlen, Bool.or_eq_true, beq_iff_eq] at hlen
    obtain rfl : len = 1 := by omega
    simp only [xs, xi2] at hs
    split at hs
    · cases hs
      exact lv_imul hx hb hdec (k _ _ _ _ _ hl hw)
    · cases hs
  | iand =>
    simp only [xlen, Bool.or_eq_true, beq_iff_eq] at hlen
    obtain rfl : len = 1 := by omega
    simp only [xs, xi2] at hs
    split at hs
    · cases hs
      exact lv_iand hx hb hdec (k _ _ _ _ _ hl hw)
    · cases hs
  | ladd =>
    simp only [xlen, Bool.or_eq_true, beq_iff_eq] at hlen
    obtain rfl : len = 1 := by omega
    simp only [xs, xl2] at hs
    split at hs
    · cases hs
      exact lv_ladd hx hb hdec (k _ _ _ _ _ hl hw)
    · cases hs
  | lsub =>
    simp only [xlen, Bool.or_eq_true, beq_iff_eq] at hlen
    obtain rfl : len = 1 := by omega
    simp only [xs, xl2] at hs
    split at hs
    · cases hs
      exact lv_lsub hx hb hdec (k _ _ _ _ _ hl hw)
    · cases hs
  | lmul =>
    simp only [xlen, Bool.or_eq_true, beq_iff_eq] at hlen
    obtain rfl : len = 1 := by omega
    simp only [xs, xl2] at hs
    split at hs
    · cases hs
      exact lv_lmul hx hb hdec (k _ _ _ _ _ hl hw)
    · cases hs
  | land =>
    simp only [xlen, Bool.or_eq_true, beq_iff_eq] at hlen
    obtain rfl : len = 1 := by omega
    simp only [xs, xl2] at hs
    split at hs
    · cases hs
      exact lv_land hx hb hdec (k _ _ _ _ _ hl hw)
    · cases hs
  | lor =>
    simp only [xlen, Bool.or_eq_true, beq_iff_eq] at hlen
    obtain rfl : len = 1 := by omega
    simp only [xs, xl2] at hs
    split at hs
    · cases hs
      exact lv_lor hx hb hdec (k _ _ _ _ _ hl hw)
    · cases hs
  | irem =>
    simp only [xlen, Bool.or_eq_true, beq_iff_eq] at hlen
    obtain rfl : len = 1 := by omega
    simp only [xs, xi2] at hs
    split at hs
    · split at hs
      · cases hs
      · rename_i hy
        cases hs
        exact lv_irem hx hb hdec hy (k _ _ _ _ _ hl hw)
    · cases hs
  | ldiv =>
    simp only [xlen, Bool.or_eq_true, beq_iff_eq] at hlen
    obtain rfl : len = 1 := by omega
    simp only [xs, xl2] at hs
    split at hs
    · split at hs
      · cases hs
      · rename_i hy
        cases hs
        exact lv_ldiv hx hb hdec hy (k _ _ _ _ _ hl hw)
    · cases hs
  | lrem =>
    simp only [xlen, Bool.or_eq_true, beq_iff_eq] at hlen
    obtain rfl : len = 1 := by omega
    simp only [xs, xl2] at hs
    split at hs
    · split at hs
      · cases hs
      · rename_i hy
        cases hs
        exact lv_lrem hx hb hdec hy (k _ _ _ _ _ hl hw)
    · cases hs
  | ineg =>
    simp only [xlen, Bool.or_eq_true, beq_iff_eq] at hlen
    obtain rfl : len = 1 := by omega
    simp only [xs, xi1] at hs
    split at hs
    · cases hs
      exact lv_ineg hx hb hdec (k _ _ _ _ _ hl hw)
    · cases hs
  | lneg =>
    simp only [xlen, Bool.or_eq_true, beq_iff_eq] at hlen
    obtain rfl : len = 1 := by omega
    simp only [xs, xl1] at hs
    split at hs
    · cases hs
      exact lv_lneg hx hb hdec (k _ _ _ _ _ hl hw)
    · cases hs
  | lshl =>
    simp only [xlen, Bool.or_eq_true, beq_iff_eq] at hlen
    obtain rfl : len = 1 := by omega
    simp only [xs, xli] at hs
    split at hs
    · cases hs
      exact lv_lshl hx hb hdec rfl (k _ _ _ _ _ hl hw)
    · cases hs
  | lushr =>
    simp only [xlen, Bool.or_eq_true, beq_iff_eq] at hlen
    obtain rfl : len = 1 := by omega
    simp only [xs, xli] at hs
    split at hs
    · cases hs
      exact lv_lushr hx hb hdec rfl (k _ _ _ _ _ hl hw)
    · cases hs
  | i2l =>
    simp only [xlen, Bool.or_eq_true, beq_iff_eq] at hlen
    obtain rfl : len = 1 := by omega
    simp only [xs, xi1] at hs
    split at hs
    · cases hs
      exact lv_i2l hx hb hdec rfl (k _ _ _ _ _ hl hw)
    · cases hs
  | l2i =>
    simp only [xlen, Bool.or_eq_true, beq_iff_eq] at hlen
    obtain rfl : len = 1 := by omega
    simp only [xs, xl1] at hs
    split at hs
    · cases hs
      exact lv_l2i hx hb hdec rfl (k _ _ _ _ _ hl hw)
    · cases hs
  | i2c =>
    simp only [xlen, Bool.or_eq_true, beq_iff_eq] at hlen
    obtain rfl : len = 1 := by omega
    simp only [xs, xi1] at hs
    split at hs
    · cases hs
      exact lv_i2c hx hb hdec rfl (k _ _ _ _ _ hl hw)
    · cases hs
  | lcmp =>
    simp only [xlen, Bool.or_eq_true, beq_iff_eq] at hlen
    obtain rfl : len = 1 := by omega
    simp only [xs, xl2] at hs
    split at hs
    · cases hs
      exact W.lcmp hx hb hdec (k _ _ _ _ _ hl hw)
    · cases hs
  | goto o =>
    simp only [xlen, Bool.or_eq_true, beq_iff_eq] at hlen
    obtain rfl : len = 3 := by omega
    simp only [xokI, decide_eq_true_eq] at hok
    cases hs
    exact lv_goto hx hb hdec hok (k _ _ _ _ _ hl hw)
  | ifCond kc o =>
    simp only [xlen, Bool.or_eq_true, beq_iff_eq] at hlen
    obtain rfl : len = 3 := by omega
    simp only [xokI, decide_eq_true_eq] at hok
    simp only [xs, xi1] at hs
    split at hs
    · cases hs
      have kk := k _ _ _ _ _ hl hw
      cases kc with
      | eq => exact lv_if_eq hx hb hdec hok (fun h => x_if (P := fun z => W p l e R s m args below meth c H locs cells slots Q (F0 m z la _)) kk (decide_eq_true h)) (fun h => x_el (P := fun z => W p l e R s m args below meth c H locs cells slots Q (F0 m z la _)) kk (fun z => h (of_decide_eq_true z)))
      | ne => exact lv_if_ne hx hb hdec hok (fun h => x_if (P := fun z => W p l e R s m args below meth c H locs cells slots Q (F0 m z la _)) kk (decide_eq_true h)) (fun h => x_el (P := fun z => W p l e R s m args below meth c H locs cells slots Q (F0 m z la _)) kk (fun z => of_decide_eq_true z h))
      | lt => exact lv_if_lt hx hb hdec hok (fun h => x_if (P := fun z => W p l e R s m args below meth c H locs cells slots Q (F0 m z la _)) kk (decide_eq_true h)) (fun h => x_el (P := fun z => W p l e R s m args below meth c H locs cells slots Q (F0 m z la _)) kk (fun z => h (of_decide_eq_true z)))
      | ge => exact lv_if_ge hx hb hdec hok (fun h => x_if (P := fun z => W p l e R s m args below meth c H locs cells slots Q (F0 m z la _)) kk (decide_eq_true h)) (fun h => x_el (P := fun z => W p l e R s m args below meth c H locs cells slots Q (F0 m z la _)) kk (fun z => h (of_decide_eq_true z)))
      | gt => exact lv_if_gt hx hb hdec hok (fun h => x_if (P := fun z => W p l e R s m args below meth c H locs cells slots Q (F0 m z la _)) kk (decide_eq_true h)) (fun h => x_el (P := fun z => W p l e R s m args below meth c H locs cells slots Q (F0 m z la _)) kk (fun z => h (of_decide_eq_true z)))
      | le => exact lv_if_le hx hb hdec hok (fun h => x_if (P := fun z => W p l e R s m args below meth c H locs cells slots Q (F0 m z la _)) kk (decide_eq_true h)) (fun h => x_el (P := fun z => W p l e R s m args below meth c H locs cells slots Q (F0 m z la _)) kk (fun z => h (of_decide_eq_true z)))
    · cases hs
  | if_icmp kc o =>
    simp only [xlen, Bool.or_eq_true, beq_iff_eq] at hlen
    obtain rfl : len = 3 := by omega
    simp only [xokI, decide_eq_true_eq] at hok
    simp only [xs, xi2] at hs
    split at hs
    · cases hs
      have kk := k _ _ _ _ _ hl hw
      cases kc with
      | eq => exact lv_icmp_eq hx hb hdec hok (fun h => x_if (P := fun z => W p l e R s m args below meth c H locs cells slots Q (F0 m z la _)) kk (decide_eq_true h)) (fun h => x_el (P := fun z => W p l e R s m args below meth c H locs cells slots Q (F0 m z la _)) kk (fun z => h (of_decide_eq_true z)))
      | ne => exact lv_icmp_ne hx hb hdec hok (fun h => x_if (P := fun z => W p l e R s m args below meth c H locs cells slots Q (F0 m z la _)) kk (decide_eq_true h)) (fun h => x_el (P := fun z => W p l e R s m args below meth c H locs cells slots Q (F0 m z la _)) kk (fun z => of_decide_eq_true z h))
      | lt => exact lv_icmp_lt hx hb hdec hok (fun h => x_if (P := fun z => W p l e R s m args below meth c H locs cells slots Q (F0 m z la _)) kk (decide_eq_true h)) (fun h => x_el (P := fun z => W p l e R s m args below meth c H locs cells slots Q (F0 m z la _)) kk (fun z => h (of_decide_eq_true z)))
      | ge => exact lv_icmp_ge hx hb hdec hok (fun h => x_if (P := fun z => W p l e R s m args below meth c H locs cells slots Q (F0 m z la _)) kk (decide_eq_true h)) (fun h => x_el (P := fun z => W p l e R s m args below meth c H locs cells slots Q (F0 m z la _)) kk (fun z => h (of_decide_eq_true z)))
      | gt => exact lv_icmp_gt hx hb hdec hok (fun h => x_if (P := fun z => W p l e R s m args below meth c H locs cells slots Q (F0 m z la _)) kk (decide_eq_true h)) (fun h => x_el (P := fun z => W p l e R s m args below meth c H locs cells slots Q (F0 m z la _)) kk (fun z => h (of_decide_eq_true z)))
      | le => exact lv_icmp_le hx hb hdec hok (fun h => x_if (P := fun z => W p l e R s m args below meth c H locs cells slots Q (F0 m z la _)) kk (decide_eq_true h)) (fun h => x_el (P := fun z => W p l e R s m args below meth c H locs cells slots Q (F0 m z la _)) kk (fun z => h (of_decide_eq_true z)))
    · cases hs
  | tableswitch df lo hi offs =>
    simp only [xokI, Bool.and_eq_true, decide_eq_true_eq] at hok
    obtain ⟨ho1, ho2, ho3⟩ := hok
    simp only [xs, xi1] at hs
    split at hs
    · rename_i x rest
      cases hs
      have kk := k _ _ _ _ _ hl hw
      by_cases h1 : x.toInt < lo
      · exact lv_tableOut hx hb hdec (Or.inl h1) (by rw [ho1]; exact congrArg Int.ofNat (xsw_t ho3 (Or.inl h1)).symm) kk
      · by_cases h2 : hi < x.toInt
        · exact lv_tableOut hx hb hdec (Or.inr h2) (by rw [ho1]; exact congrArg Int.ofNat (xsw_t ho3 (Or.inr (by simp only [Array.length_toList]; omega))).symm) kk
        · obtain ⟨off, a1, a2⟩ := xsw_i (d := r1) ho3 h1 (by simp only [Array.length_toList]; omega)
          exact lv_tableIn hx hb hdec h1 h2 (by rw [← Array.getElem?_toList]; exact a1) a2 kk
    · cases hs
  | lookupswitch df ps =>
    simp only [xokI, Bool.and_eq_true, decide_eq_true_eq] at hok
    obtain ⟨ho1, ho2, ho3⟩ := hok
    simp only [xs, xi1] at hs
    split at hs
    · rename_i x rest
      cases hs
      exact lv_lookup hx hb hdec ho2 rfl (xsw_p ho1 ho3) (k _ _ _ _ _ hl hw)
    · cases hs
  | getfield ix =>
    simp only [xlen, Bool.or_eq_true, beq_iff_eq] at hlen
    obtain rfl : len = 3 := by omega
    simp only [xokI, xfok, Bool.and_eq_true, decide_eq_true_eq] at hok
    obtain ⟨ho1, ho2, ho3, ho4⟩ := hok
    simp only [xs, xr1] at hs
    split at hs
    · rename_i a rest
      simp only [xob] at hs
      split at hs
      · rename_i cj fs hA
        split at hs
        · rename_i hcj
          subst hcj
          split at hs
          · rename_i v hv
            cases hs
            have he := xw_at (K := K) (b := b) (scr := scr) hA
            have kk := k _ _ _ _ _ hl hw
            have ha : (if a = xscr then scr else b + a) = b + a := if_neg (hne hA)
            show W p l e R s m args below meth c H locs cells slots Q (F0 m pc la (.ref (if a = xscr then scr else b + a) :: rest.map (xv b scr)))
            rw [ha]
            exact va_get (D := D) (C := (xcl cj).1) (T := (xcl cj).2.1) (N := (xcl cj).2.2) hx hb hts (xin_ws _ ho1) hown hK hP a he (xcl_get ho1) r2 ho2 (hts _ (xhas_in ho3)) (fun y hy => by rw [ho4] at hy; exact hy) (by rw [List.getElem?_map, hv]; rfl) hdec kk
          · cases hs
        · cases hs
      · cases hs
    · cases hs
  | putfield ix =>
    simp only [xlen, Bool.or_eq_true, beq_iff_eq] at hlen
    obtain rfl : len = 3 := by omega
    simp only [xokI, xfok, Bool.and_eq_true, decide_eq_true_eq] at hok
    obtain ⟨⟨ho1, ho2, ho3, ho4⟩, ho5⟩ := hok
    simp only [xs] at hs
    split at hs
    · rename_i v a rest
      simp only [xob] at hs
      split at hs
      · rename_i cj fs hA
        split at hs
        · rename_i hcj
          subst hcj
          split at hs
          · rename_i hfl
            split at hs
            · rename_i hfit
              cases hs
              have he := xw_at (K := K) (b := b) (scr := scr) hA
              have ha : (if a = xscr then scr else b + a) = b + a := if_neg (hne hA)
              show W p l e R s m args below meth c H locs cells slots Q (F0 m pc la (xv b scr v :: .ref (if a = xscr then scr else b + a) :: rest.map (xv b scr)))
              rw [ha]
              obtain ⟨hn1, hn2⟩ := xfit_n (b := b) (scr := scr) hfit
              have hset : (fs.map (xv b scr)).set r2 (xv b scr v) = (fs.set r2 v).map (xv b scr) := (List.map_set ..).symm
              cases hfin : ((xcl cj).2.1 r2).2.2.2 with
              | false =>
                refine va_put (D := D) (A := fun q => b ≤ q) (H0 := H) (C := (xcl cj).1) (T := (xcl cj).2.1) (N := (xcl cj).2.2) hx hb hts (xin_ws _ ho1) (xtyf cj) (xty_ok _ ho1) (xnm_ok _ ho1) hown hK hP hD hS.again a he (xcl_get ho1) r2 ho2 (hts _ (xhas_in ho3)) (fun y hy => by rw [ho4] at hy; exact hy) hfin (xty_ok _ ho1 r2 ho2) hn1 hn2 (by rw [List.length_map]; exact hfl) hdec (fun H1 locs1 hP1 hD1 hS1 => x_sized fun hz => ?_)
                rw [hset] at hP1
                exact k _ _ _ _ _ hl (xwd_set (e1 := .inr (cj, fs.set r2 v)) hw hA (by simp [xsz]) hz hP1 hS1)
              | true =>
                simp only [xfin, hfin, if_true, Bool.and_eq_true, decide_eq_true_eq] at ho5
                refine va_putF (D := D) (A := fun q => b ≤ q) (H0 := H) (C := (xcl cj).1) (T := (xcl cj).2.1) (N := (xcl cj).2.2) hx hb hts (xin_ws _ ho1) (xtyf cj) (xty_ok _ ho1) (xnm_ok _ ho1) hown hK hP hD hS.again a he (xcl_get ho1) r2 ho2 (hts _ (xhas_in ho3)) (fun y hy => by rw [ho4] at hy; exact hy) hfin (by rw [hnm]; exact ho5.1) (by rw [ho4]; exact ho5.2) (xty_ok _ ho1 r2 ho2) hn1 hn2 (by rw [List.length_map]; exact hfl) hdec (fun H1 locs1 hP1 hD1 hS1 => x_sized fun hz => ?_)
                rw [hset] at hP1
                exact k _ _ _ _ _ hl (xwd_set (e1 := .inr (cj, fs.set r2 v)) hw hA (by simp [xsz]) hz hP1 hS1)
            · cases hs
          · cases hs
        · cases hs
      · cases hs
    · cases hs
  | arraylength =>
    simp only [xlen, Bool.or_eq_true, beq_iff_eq] at hlen
    obtain rfl : len = 1 := by omega
    simp only [xs, xr1] at hs
    split at hs
    · rename_i a rest
      split at hs
      · rename_i ha
        cases hs
        show W p l e R s m args below meth c H locs cells slots Q (F0 m pc la (.ref (if a = xscr then scr else b + a) :: rest.map (xv b scr)))
        rw [if_pos ha]
        exact va_slen hx hb hX hscr hbA hS hdec (k _ _ _ _ _ hl hw)
      · split at hs
        · rename_i hna ty n f hA
          cases hs
          have he := xw_at (K := K) (b := b) (scr := scr) hA
          show W p l e R s m args below meth c H locs cells slots Q (F0 m pc la (.ref (if a = xscr then scr else b + a) :: rest.map (xv b scr)))
          rw [if_neg (hne hA)]
          have kk := k _ _ _ _ _ hl hw
          cases ty with
          | int => exact va_alen hx hb hK hP a 0 he rfl rfl hdec kk
          | long => exact va_alen hx hb hK hP a 1 he rfl rfl hdec kk
          | _ => exact va_alen (ty := .char) hx hb hK hP a 2 he rfl rfl hdec kk
        · cases hs
    · cases hs
  | iaload =>
    simp only [xlen, Bool.or_eq_true, beq_iff_eq] at hlen
    obtain rfl : len = 1 := by omega
    simp only [xs, xri] at hs
    split at hs
    · rename_i j a rest
      split at hs
      · rename_i ha
        split at hs
        · rename_i hin
          cases hs
          show W p l e R s m args below meth c H locs cells slots Q (F0 m pc la (.int j :: .ref (if a = xscr then scr else b + a) :: rest.map (xv b scr)))
          rw [if_pos ha]
          exact va_sld hx hb hX hscr hbA hS (xib_in hin) hdec (k _ _ _ _ _ hl hw)
        · cases hs
      · rename_i hna
        simp only [xarI] at hs
        split at hs
        · rename_i ty n f hA
          split at hs
          · rename_i hty
            subst hty
            split at hs
            · rename_i hin
              cases hs
              have he := xw_at (K := K) (b := b) (scr := scr) hA
              show W p l e R s m args below meth c H locs cells slots Q (F0 m pc la (.int j :: .ref (if a = xscr then scr else b + a) :: rest.map (xv b scr)))
              rw [if_neg (hne hA)]
              exact va_iald hx hb hK hP a 0 he rfl (xib_in hin) hdec (k _ _ _ _ _ hl hw)
            · cases hs
          · cases hs
        · cases hs
    · cases hs
  | caload =>
    simp only [xlen, Bool.or_eq_true, beq_iff_eq] at hlen
    obtain rfl : len = 1 := by omega
    simp only [xs, xri] at hs
    split at hs
    · rename_i j a rest
      simp only [xarI] at hs
      split at hs
      · rename_i ty n f hA
        split at hs
        · rename_i hty
          subst hty
          split at hs
          · rename_i hin
            cases hs
            have he := xw_at (K := K) (b := b) (scr := scr) hA
            show W p l e R s m args below meth c H locs cells slots Q (F0 m pc la (.int j :: .ref (if a = xscr then scr else b + a) :: rest.map (xv b scr)))
            rw [if_neg (hne hA)]
            exact va_cald hx hb hK hP a 2 he rfl (xib_in hin) hdec (k _ _ _ _ _ hl hw)
          · cases hs
        · cases hs
      · cases hs
    · cases hs
  | laload =>
    simp only [xlen, Bool.or_eq_true, beq_iff_eq] at hlen
    obtain rfl : len = 1 := by omega
    simp only [xs, xri] at hs
    split at hs
    · rename_i j a rest
      simp only [xarL] at hs
      split at hs
      · rename_i ty n f hA
        split at hs
        · rename_i hty
          subst hty
          split at hs
          · rename_i hin
            cases hs
            have he := xw_at (K := K) (b := b) (scr := scr) hA
            show W p l e R s m args below meth c H locs cells slots Q (F0 m pc la (.int j :: .ref (if a = xscr then scr else b + a) :: rest.map (xv b scr)))
            rw [if_neg (hne hA)]
            exact va_lald hx hb hK hP a 1 he rfl (xib_in hin) hdec (k _ _ _ _ _ hl hw)
          · cases hs
        · cases hs
      · cases hs
    · cases hs
  | iastore =>
    simp only [xlen, Bool.or_eq_true, beq_iff_eq] at hlen
    obtain rfl : len = 1 := by omega
    simp only [xs, xi1, xri] at hs
    split at hs
    · rename_i x rest0
      split at hs
      · rename_i j a rest
        simp only [xarI] at hs
        split at hs
        · rename_i ty n f hA
          split at hs
          · rename_i hty
            subst hty
            split at hs
            · rename_i hin
              cases hs
              have he := xw_at (K := K) (b := b) (scr := scr) hA
              show W p l e R s m args below meth c H locs cells slots Q (F0 m pc la (.int x :: .int j :: .ref (if a = xscr then scr else b + a) :: rest.map (xv b scr)))
              rw [if_neg (hne hA)]
              refine va_iast (A := fun q => b ≤ q) (H0 := H) hx hb hK hP hD hS.again a 0 he rfl (xib_in hin) hdec (fun H1 locs1 hP1 hD1 hS1 => x_sized fun hz => ?_)
              exact k _ _ _ _ _ hl (xwd_set (e1 := .inl (.int, n, .inl (upd f j.toNatClampNeg x))) hw hA rfl hz hP1 hS1)
            · cases hs
          · cases hs
        · cases hs
      · cases hs
    · cases hs
  | castore =>
    simp only [xlen, Bool.or_eq_true, beq_iff_eq] at hlen
    obtain rfl : len = 1 := by omega
    simp only [xs, xi1, xri] at hs
    split at hs
    · rename_i x rest0
      split at hs
      · rename_i j a rest
        simp only [xarI] at hs
        split at hs
        · rename_i ty n f hA
          split at hs
          · rename_i hty
            subst hty
            split at hs
            · rename_i hin
              cases hs
              have he := xw_at (K := K) (b := b) (scr := scr) hA
              show W p l e R s m args below meth c H locs cells slots Q (F0 m pc la (.int x :: .int j :: .ref (if a = xscr then scr else b + a) :: rest.map (xv b scr)))
              rw [if_neg (hne hA)]
              refine va_cast (A := fun q => b ≤ q) (H0 := H) hx hb hK hP hD hS.again a 2 he rfl (xib_in hin) hdec (fun H1 locs1 hP1 hD1 hS1 => x_sized fun hz => ?_)
              exact k _ _ _ _ _ hl (xwd_set (e1 := .inl (.char, n, .inl (upd f j.toNatClampNeg (vp_nar .char x)))) hw hA rfl hz hP1 hS1)
            · cases hs
          · cases hs
        · cases hs
      · cases hs
    · cases hs
  | lastore =>
    simp only [xlen, Bool.or_eq_true, beq_iff_eq] at hlen
    obtain rfl : len = 1 := by omega
    simp only [xs, xl1, xri] at hs
    split at hs
    · rename_i x rest0
      split at hs
      · rename_i j a rest
        simp only [xarL] at hs
        split at hs
        · rename_i ty n f hA
          split at hs
          · rename_i hty
            subst hty
            split at hs
            · rename_i hin
              cases hs
              have he := xw_at (K := K) (b := b) (scr := scr) hA
              show W p l e R s m args below meth c H locs cells slots Q (F0 m pc la (.long x :: .int j :: .ref (if a = xscr then scr else b + a) :: rest.map (xv b scr)))
              rw [if_neg (hne hA)]
              refine va_last (A := fun q => b ≤ q) (H0 := H) hx hb hK hP hD hS.again a 1 he rfl (xib_in hin) hdec (fun H1 locs1 hP1 hD1 hS1 => x_sized fun hz => ?_)
              exact k _ _ _ _ _ hl (xwd_set (e1 := .inl (.long, n, .inr (.inl (vp_updL f j.toNatClampNeg x)))) hw hA rfl hz hP1 hS1)
            · cases hs
          · cases hs
        · cases hs
      · cases hs
    · cases hs
  | newarray t =>
    simp only [xlen, Bool.or_eq_true, beq_iff_eq] at hlen
    obtain rfl : len = 2 := by omega
    simp only [xokI] at hok
    simp only [xs, xi1] at hs
    split at hs
    · rename_i x rest
      split at hs
      · rename_i hg
        subst hg
        split at hs
        · rename_i hin
          split at hs
          · rename_i hA9
            split at hs
            · rename_i e1 he1
              cases hs
              simp only [xib, Bool.and_eq_true, decide_eq_true_eq] at hin
              have hnn : ¬ x < 0 := fun h => by have := Int32.lt_iff_toInt_lt.mp h; simp at this; omega
              have hcl : x.toNatClampNeg < 100000 := by have h9 : x.toNatClampNeg = x.toInt.toNat := rfl; rw [h9]; omega
              have hsz : xsz e1 = x.toNatClampNeg := by cases t <;> simp only [xnar] at he1 <;> cases he1 <;> rfl
              have hce : cells + 1 ≤ R.cells := by have := hR.1; simp only [List.length_append, List.length_singleton] at this; omega
              have hsl : slots + x.toNatClampNeg ≤ R.slots := by have := hR.2; simp only [xsn, List.map_append, List.sum_append, List.map_cons, List.map_nil, List.sum_cons, List.sum_nil, hsz] at this w3; omega
              have key : ∀ (ty : FieldType) (a0 : vp_A) (t0 : Nat), newarray.typeOf t = ty → e1 = .inl (ty, a0) → (xtl K)[t0]? = some (xk K ty, ty) → va_RA s (xk K ty) ty = (s.vm.findClass ("[" ++ ty.toString) = some (xk K ty)) → (∀ cA : ClassId, va_RA s cA ty = (s.vm.findClass ("[" ++ ty.toString) = some cA)) → (∀ cA : ClassId, vp_cell cA a0 = arrV cA x.toNatClampNeg (fun _ => defaultValue ty)) → componentBytes ty ≤ 8 → W p l e R s m args below meth c H locs cells slots Q (F0 m pc la (.int x :: rest.map (xv b scr))) := by
                intro ty a0 t0 hty he ht0 _ hra ha hcb
                subst he
                refine va_newa (A := fun q => b ≤ q) (H0 := H) hx hb (hts _ (xhas_in hok)) hty hK hP hD hS.again (fun q hq => by show b ≤ q; omega) ha hnn rfl (by have : x.toNatClampNeg * componentBytes ty ≤ 100000 * 8 := Nat.mul_le_mul (by omega) hcb; omega) hce hsl hdec (fun q cA H1 hK1 hP1 hD1 hS1 => x_sized fun hz => ?_)
                have e1 : cA = xk K ty := by
                  have z1 := (hK1.2 3 (cA, ty) rfl).2
                  have z2 := (hK.2 t0 _ ht0).2
                  rw [hra] at z1 z2
                  exact Option.some.inj (z1.symm.trans z2)
                subst e1
                obtain ⟨hq, hw1⟩ := xwd_new (e1 := .inl (ty, a0)) (n := x.toNatClampNeg) hw hA9 hsz hz hP1 hD1 hS1
                have kk := k _ _ _ _ _ hl hw1
                have h3 : xv b scr (.ref A.length) = .ref q := by rw [hq]; show Value.ref (if A.length = xscr then scr else b + A.length) = _; rw [if_neg (by simp only [xscr]; omega)]
                rw [List.map_cons, h3] at kk
                exact kk
              cases t <;> simp only [xnar] at he1 <;> cases he1
              · exact key .char _ 2 rfl rfl rfl rfl (fun _ => rfl) (fun _ => rfl) (by decide)
              · exact key .int _ 0 rfl rfl rfl rfl (fun _ => rfl) (fun _ => rfl) (by decide)
              · exact key .long _ 1 rfl rfl rfl rfl (fun _ => rfl) (fun _ => rfl) (by decide)
            · cases hs
          · cases hs
        · cases hs
      · cases hs
    · cases hs
  | new ix =>
    simp only [xlen, Bool.or_eq_true, beq_iff_eq] at hlen
    obtain rfl : len = 3 := by omega
    simp only [xs] at hs
    split at hs
    · rename_i hg
      subst hg
      split at hs
      · rename_i hA9
        split at hs
        · rename_i h8
          cases hs
          simp only [xokI, if_pos h8] at hok
          have hn : (xdfs.getD r1 []).length = (xcl r1).2.2 := xdf_len _ h8
          have hce : cells + 1 ≤ R.cells := by have := hR.1; simp only [List.length_append, List.length_singleton] at this; omega
          have hsl : slots + (xcl r1).2.2 ≤ R.slots := by have := hR.2; simp only [xsn, List.map_append, List.sum_append, List.map_cons, List.map_nil, List.sum_cons, List.sum_nil, xsz, hn] at this w3; omega
          refine va_new (A := fun q => b ≤ q) (H0 := H) (ci := r1) (fs := xdfs.getD r1 []) (C := (xcl r1).1) (T := (xcl r1).2.1) (N := (xcl r1).2.2) hx hb hts (xin_ws _ h8) (xtyf r1) (xty_ok _ h8) hown (hts _ (xhas_in hok)) (hts _ (xin_inst _ h8).1) (hts _ (xin_inst _ h8).2) hK hP hD hS.again (fun q hq => by show b ≤ q; omega) (xcl_get h8) (xdf_ok _ h8) hce hsl hdec (fun q H1 hP1 hD1 hS1 => x_sized fun hz => ?_)
          have hxe : xe K b scr (.inr (r1, xdfs.getD r1 [])) = .inr (r1, xdfs.getD r1 []) := by show Sum.inr (r1, (xdfs.getD r1 []).map (xv b scr)) = _; rw [xdf_xv (xdf_pl _ h8)]
          rw [← hxe] at hP1 hD1
          obtain ⟨hq, hw1⟩ := xwd_new (e1 := .inr (r1, xdfs.getD r1 [])) (n := (xcl r1).2.2) hw hA9 hn hz hP1 hD1 hS1
          have kk := k _ _ _ _ _ hl hw1
          have h3 : xv b scr (.ref A.length) = .ref q := by rw [hq]; show Value.ref (if A.length = xscr then scr else b + A.length) = _; rw [if_neg (by simp only [xscr]; omega)]
          rw [List.map_cons, h3] at kk
          exact kk
        · cases hs
      · cases hs
    · cases hs
  | invokespecial ix =>
    simp only [xlen, Bool.or_eq_true, beq_iff_eq] at hlen
    obtain rfl : len = 3 := by omega
    simp only [xs] at hs
    split at hs
    · rename_i h1
      subst h1
      split at hs
      · simp only [xr1] at hs
        split at hs
        · rename_i a rest
          split at hs
          · rename_i hca
            cases hs
            have ho : xhas r3 (.methodLink (xme mi).1.cls ix objectInit) = true := by simpa [xokI] using hok
            exact W.objInit hx hb hown (hts _ (xhas_in ho)) (hts _ xin_obj.1) (hts _ xin_obj.2) rfl (by rw [hml]; exact hl.1) rfl hdec (by omega) (by have hc2 : ((rest.map (xv b scr)).map fun v => v.category).sum ≤ 8 := (by rw [List.map_map]; simpa [Function.comp_def, xv_cat] using hca); show 2 * 0 + _ + 12 ≤ R.locals; omega) (k _ _ _ _ _ hl hw)
          · cases hs
        · cases hs
      · cases hs
    · cases hs
  | invokestatic ix =>
    simp only [xlen, Bool.or_eq_true, beq_iff_eq] at hlen
    obtain rfl : len = 3 := by omega
    simp only [xs] at hs
    split at hs
    · rename_i h1
      subst h1
      split at hs
      · simp only [xi2] at hs
        split at hs
        · rename_i y x rest
          split at hs
          · rename_i hca
            cases hs
            have ho : xhas r3 (.methodLink (xme mi).1.cls ix Lib.Math.max.name) = true := by simpa [xokI] using hok
            have hR1 : A.length + g ≤ C0 + R.cells := hR.1
            have hR2 : xsn (A, g) ≤ S0 + R.slots := hR.2
            exact va_mmax hx hb (by rw [hml]; exact hl.1.symm) hown (hts _ (xhas_in ho)) (hts _ xin_max.1) (hts _ xin_max.2.1) (hts _ xin_max.2.2) (by omega) (by have hc2 : ((rest.map (xv b scr)).map fun v => v.category).sum ≤ 8 := (by rw [List.map_map]; simpa [Function.comp_def, xv_cat] using hca); omega) (by omega) (by omega) hdec (k _ _ _ _ _ hl hw)
          · cases hs
        · cases hs
      · cases hs
    · cases hs
  | _ => cases hs
end XS2
