section XM1
variable {p : Program} {l : Launch} {e : Env} {R : Room} {s : State} {m : MethodId} {args : Array Value} {below : List Frame} {meth : Method} {c : Code} {Q : State → Prop}
theorem xTb_good {w : Cond} (h : w ∈ xTb) : (w.onTables && w.keeps) = true ∨ ∃ ty, w = .arrayClass ty := good_of_word (List.mem_filter.mp h).2
theorem xws_good {mi : Nat} (hmi : mi < 214) : GoodIn xTb (xws mi) := by
  have h := xokM_of (show mi < 221 by omega)
  simp only [xokM, if_pos hmi, Bool.and_eq_true] at h
  intro w hw
  rcases List.mem_cons.mp hw with rfl | hw
  · exact ⟨xhas_in h.1, xTb_good (xhas_in h.1)⟩
  · exact ⟨hw, xTb_good hw⟩
/-- what is known of a method -/
theorem xmi_facts {mi : Nat} (hmi : mi < 221) : Cond.initialized (xme mi).1.cls ∈ xTb ∧ (xme mi).1.cls ≠ "java/lang/invoke/MethodHandle" ∧ (xme mi).1.cls ≠ "java/lang/invoke/VarHandle" ∧ plainName (xme mi).1.cls = true ∧ (xme mi).2.2.1 ≤ 40 := by
  have h := xokM_of hmi
  simp only [xokM, Bool.and_eq_true, decide_eq_true_eq] at h
  exact ⟨xhas_in h.2.2.1, h.2.2.2.1, h.2.2.2.2.1, h.2.2.2.2.2.1, h.2.2.2.2.2.2⟩
theorem xmi_static {mi : Nat} (hmi : mi < 220) (h99 : (xme mi).2.2.2.2.1 = 99) : Cond.static (xme mi).1 ∈ xTb := by
  have h := xokM_of (show mi < 221 by omega)
  simp only [xokM, if_pos h99, if_pos hmi, Bool.and_eq_true] at h
  exact xhas_in h.2.1
theorem xmi_inst {mi : Nat} (hmi : mi < 220) (h99 : (xme mi).2.2.2.2.1 ≠ 99) : Cond.instanceMethod (xme mi).1 ∈ xTb ∧ (xme mi).1.cls = (xcl (xme mi).2.2.2.2.1).1 ∧ (xme mi).2.2.2.2.1 < 8 ∧ ((xme mi).1.name ≠ "<init>" → Cond.selects (xme mi).1.cls (xme mi).1 (xme mi).1 ∈ xTb) := by
  have h := xokM_of (show mi < 221 by omega)
  simp only [xokM, if_neg h99, Bool.and_eq_true, decide_eq_true_eq] at h
  refine ⟨xhas_in h.2.1.1, h.2.1.2.1, h.2.1.2.2.1, fun hn => ?_⟩
  have h4 := h.2.1.2.2.2
  rw [if_neg hn] at h4
  exact xhas_in h4
/-- the end of a method -/
theorem xret_sound {D : va_G} {K : xTy} {b scr : Nat} {sc : xSc} {C0 S0 mi pc : Nat} {r : xRow} {st : List Value} {h : xH} {v : Option Value} {H : Heap} {locs : List Loc} {cells slots : Nat} {la : Array Slot}
    (cx : xcx D K b scr sc mi p s m args meth c) (hok : xok mi pc r = true) (hv : xret (xme mi).2.2.2.1 r.1 st = some v) (hw : xwd D K b scr s C0 S0 h.1 h.2 H locs cells slots) (hc : xcn h ≤ C0 + R.cells) (hsl : xsn h ≤ S0 + R.slots) :
    W p l e R s m args below meth c H locs cells slots (MQ below (xQc D K b scr v h) args s R.cells R.slots (fun q => b ≤ q)) (F0 m pc la (st.map (xv b scr))) := by
  obtain ⟨hx, hb, hml, hown, hts, hK, hX, hsb, hbs, hnm, hrt, hlk, hex⟩ := id cx
  obtain ⟨w1, w2, w3, w4, w5, hP, hS⟩ := id hw
  have hq : ∀ (z : Option Value) (t : State), t.heap = H → z = v.map (xv b scr) → xQc D K b scr v h args s (.returned z) t := fun z t ht hz => by
    refine ⟨by rw [hz], by rw [ht]; exact w4, w5, by rw [ht]; exact hP, fun q hq => ?_⟩
    rw [ht]
    exact hS.2.1 q (by omega) (by show ¬ b ≤ q; omega)
  have hc2 : cells ≤ R.cells := by simp only [xcn] at hc; omega
  have hs2 : slots ≤ R.slots := by
    have h9 : xsn h = xsn (h.1, h.2) := rfl
    omega
  obtain ⟨i, len, r1, r2, r3, rv, rk, sw⟩ := r
  simp only [xok, Bool.and_eq_true, decide_eq_true_eq] at hok
  obtain ⟨hdec, hlen, -⟩ := hok
  refine W.widen (k := R.cells) (n := R.slots) hc2 hs2 ?_
  unfold xret at hv
  split at hv
  · rename_i x heq
    simp only [xlen, Bool.or_eq_true, beq_iff_eq] at heq hlen
    subst heq
    simp only [xlen] at hlen
    obtain rfl : len = 1 := by omega
    split at hv
    · rename_i hty
      cases hv
      exact W.iret hx hb (by rw [hrt, hty]) (fun t ht _ => hq _ t ht rfl) hS.2.2 hdec
    · rename_i hty
      split at hv
      · rename_i h01
        cases hv
        have hn : narrow .boolean (.int x) = .int x := by
          simp only [Bool.or_eq_true, beq_iff_eq] at h01
          rcases h01 with rfl | rfl <;> rfl
        exact W.zret hx hb (by rw [hrt, hty]) hn (fun t ht _ => hq _ t ht rfl) hS.2.2 hdec
      · cases hv
    · cases hv
  · rename_i x heq
    simp only at heq
    subst heq
    simp only [xlen, Bool.or_eq_true, beq_iff_eq] at hlen
    obtain rfl : len = 1 := by omega
    split at hv
    · rename_i hty
      cases hv
      exact W.lret hx hb (by rw [hrt, hty]) (fun t ht _ => hq _ t ht rfl) hS.2.2 hdec
    · cases hv
  · rename_i heq
    simp only at heq
    subst heq
    simp only [xlen, Bool.or_eq_true, beq_iff_eq] at hlen
    obtain rfl : len = 1 := by omega
    split at hv
    · rename_i hty
      cases hv
      exact W.vret hx hb (by rw [hrt, hty]) (fun t ht _ => hq _ t ht rfl) hS.2.2 hdec
    · cases hv
  · cases hv
/-- a text's number: ldc and Packed.ofText in one -/
def xOf (l : Launch) : Prop := ∀ (sc : xSc) (p : Program) (e : Env) (R : Room) (s : State) (m : MethodId) (args : Array Value) (below : List Frame) (meth : Method) (c : Code) (Q : State → Prop) (D : va_G) (K : xTy) (b scr C0 S0 mi d pc : Nat) (r : xRow) (st : List Value) (A : List xC) (g : Nat) (H : Heap) (locs : List Loc) (cells slots : Nat) (la : Array Slot),
  mi < 214 → xcx D K b scr sc mi p s m args meth c → xrow mi pc = some r → xkd r = 4 → la.size = (xme mi).2.2.1 → xwd D K b scr s C0 S0 A g H locs cells slots → A.length + g ≤ C0 + R.cells → xsn (A, g) ≤ S0 + R.slots → d + 8 ≤ R.frames → 64 * (d + 8) ≤ R.locals → (st.map fun v => v.category).sum ≤ 8 →
  W p l e R s m args below meth c H locs cells slots Q (F0 m (pc + 5) la (.long r.2.2.2.2.2.2.1 :: st)) → W p l e R s m args below meth c H locs cells slots Q (F0 m pc la st)
end XM1
