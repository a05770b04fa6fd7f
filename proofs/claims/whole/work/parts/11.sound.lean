section XM3
variable {l : Launch}
theorem xcall_sl {r : xRow} {st : List Value} {A : List xC} {q : List Value × List Value} (hq : xcall r st A = some q) : (lg_sl q.1).length ≤ (xme r.2.2.1).2.2.1 := by
  unfold xcall at hq
  split at hq
  · split at hq
    · split at hq
      · split at hq
        · rename_i h
          cases hq
          exact h
        · cases hq
      · cases hq
    · cases hq
  · cases hq
theorem xhd_big : ∀ q ∈ xhd, 214 ≤ q.1 := by decide
theorem xhnd_none {mi pc ev : Nat} (h : mi < 214) : xhnd mi pc ev = none := by
  unfold xhnd
  rw [Option.map_eq_none_iff, List.find?_eq_none]
  intro q hq
  have h1 := xhd_big q hq
  have h2 : (q.1 == mi) = false := by
    rw [beq_eq_false_iff_ne]
    omega
  simp [h2]
/-- the pure machine's frame, wherever the method is called -/
def xGo (l : Launch) (sc : xSc) (d mi pc : Nat) (ls : xL) (st : List Value) (h : xH) (v : Option Value) (h' : xH) : Prop :=
  ∀ (p : Program) (e : Env) (R : Room) (s : State) (m : MethodId) (args : Array Value) (below : List Frame) (meth : Method) (c : Code) (D : va_G) (K : xTy) (b scr C0 S0 : Nat) (H : Heap) (locs : List Loc) (cells slots : Nat) (la : Array Slot),
    xcx D K b scr sc mi p s m args meth c → lv_has la (xme mi).2.2.1 (ls.map (xtv b scr)) → xwd D K b scr s C0 S0 h.1 h.2 H locs cells slots → xcn h' ≤ C0 + R.cells → xsn h' ≤ S0 + R.slots → d ≤ R.frames → 64 * d ≤ R.locals →
    W p l e R s m args below meth c H locs cells slots (MQ below (xQc D K b scr v h') args s R.cells R.slots (fun q => b ≤ q)) (F0 m pc la (st.map (xv b scr)))
theorem xmet_of {sc : xSc} {d mi : Nat} {As : List Value} {h h' : xH} {v : Option Value} (hmi : mi < 214) (hsl : (lg_sl As).length ≤ (xme mi).2.2.1) (hm : xcn h ≤ xcn h' ∧ xsn h ≤ xsn h') (G : xGo l sc d mi 0 (lv_args 0 As) [] h v h') (D : va_G) (K : xTy) (b scr : Nat) :
    Met l (xme mi).1 (xws mi) (xRm d (xcn h' - xcn h) (xsn h' - xsn h)) (xPc D K b scr sc h As) (xQc D K b scr v h') (xcn h' - xcn h) (xsn h' - xsn h) (fun q => b ≤ q) := by
  obtain ⟨f1, f2, f3, f4, f5⟩ := xmi_facts (mi := mi) (by omega)
  refine Met.ofW (cc := (xme mi).2.1) (maxL := (xme mi).2.2.1) (ret := (xme mi).2.2.2.1) f4 rfl ?_
  intro p e s m args below meth c s₁ B hml hv
  obtain ⟨hv1, hv2, hv3, hv4, hv5, hv6, hv7, hv8⟩ := hv
  have hts := atoms_spec (ws := xws mi) B.pre
  have cx : xcx D K b scr sc mi p s m args meth c := ⟨B.exec, B.bytes, hml, findClass_of_methodNamed B.named, fun w hw => hts w (List.mem_cons_of_mem _ hw), hv5, hv6, hv7, by rw [hv2]; omega, (name_of_methodNamed B.named B.method).1, B.returns, B.notSynchronized, hv8⟩
  subst hv1
  have hl := lv_entry (As.map (xv b scr)) (n := (xme mi).2.2.1) (by rw [xsl_map]; exact hsl)
  rw [lg_entry_eq]
  rw [xargs_map] at hl
  exact G p e _ s m _ below meth c D K b scr (xcn h) (xsn h) s.heap [] 0 0 _ cx hl ⟨hv2, Nat.zero_add _, Nat.zero_add _, hv2, hv3, hv4, va_S.rf⟩ (by show xcn h' ≤ xcn h + (xcn h' - xcn h); omega) (by show xsn h' ≤ xsn h + (xsn h' - xsn h); omega) (Nat.le_refl d) (Nat.le_refl (64 * d))
set_option maxHeartbeats 4000000 in
/-- SOUND: what the pure machine answers, the machine answers -/
theorem xr_sound (hof : xOf l) (sc : xSc) : ∀ (n d mi pc : Nat) (ls : xL) (st : List Value) (h : xH) (v : Option Value) (h' : xH), mi < 214 → xr sc n d mi pc ls st h = some (.inl v, h') → xGo l sc d mi pc ls st h v h'
  | 0, _, _, _, _, _, _, _, _, _, hr => by cases hr
  | n + 1, d, mi, pc, ls, st, h, v, h', hmi, hr => by
    intro p e R s m args below meth c D K b scr C0 S0 H locs cells slots la cx hl hw hc hsl hd hlo
    unfold xr at hr
    split at hr
    · cases hr
    · rename_i r hrow
      have hok : xok mi pc r = true := xall_row (xall_of (by omega)) hrow
      split at hr
      · rename_i hk
        split at hr
        · cases hr
        · rename_i q hq
          have hm := xr_mono sc n _ _ _ _ _ _ _ _ hr
          refine xs_sound cx hok hq hl hw ⟨Nat.le_trans hm.1 hc, Nat.le_trans hm.2 hsl⟩ ⟨hd, hlo⟩ (fun la' H' locs' cells' slots' hl' hw' => ?_)
          exact xr_sound hof sc n d mi _ _ _ _ _ _ hmi hr p e R s m args below meth c D K b scr C0 S0 H' locs' cells' slots' la' cx hl' hw' hc hsl hd hlo
      · split at hr
        · cases hr
        · rename_i v1 hv
          cases hr
          exact xret_sound cx hok hv hw hc hsl
      · rename_i hk
        split at hr
        · cases hr
        · rename_i d'
          split at hr
          · cases hr
          · rename_i q hq
            split at hr
            · cases hr
            · rename_i v1 h1 hcal
              have hce : r.2.2.1 < 214 := by
                have h9 := hok
                obtain ⟨i, len, r1, r2, r3, rv, rk, sw⟩ := r
                simp only [xok, Bool.and_eq_true] at h9
                have h9 := h9.2.2
                cases i with
                | invokevirtual ix =>
                  have h1000 : r1 < 1000 := by
                    simp only [xkd] at hk
                    split at hk
                    · assumption
                    · cases hk
                  simp only [xokI, xlim, if_pos hmi, if_pos h1000, Bool.and_eq_true, decide_eq_true_eq] at h9
                  exact h9.1
                | invokespecial ix =>
                  have h1000 : r1 < 1000 := by
                    simp only [xkd] at hk
                    split at hk
                    · assumption
                    · cases hk
                  simp only [xokI, xlim, if_pos hmi, if_pos h1000, Bool.and_eq_true, decide_eq_true_eq] at h9
                  exact h9.1
                | invokestatic ix =>
                  have h1000 : r1 < 1000 := by
                    simp only [xkd] at hk
                    split at hk
                    · assumption
                    · cases hk
                  simp only [xokI, xlim, if_pos hmi, if_pos h1000, Bool.and_eq_true, decide_eq_true_eq] at h9
                  exact h9.1
                | _ => first
                  | (simp [xkd] at hk; done)
                  | (simp only [xkd] at hk; split at hk <;> cases hk)
              have a1 := xr_mono sc n _ _ _ _ _ _ _ _ hcal
              have a2 := xr_mono sc n _ _ _ _ _ _ _ _ hr
              have G := xr_sound hof sc n d' _ _ _ _ _ _ _ hce hcal
              refine xcall_sound cx hok hk hce hq hw hl.1 a1 (Nat.le_trans a2.1 hc) (Nat.le_trans a2.2 hsl) hd hlo (xmet_of hce (xcall_sl hq) a1 G D K b scr) (fun H' locs' cells' slots' hw' => ?_)
              exact xr_sound hof sc n (d' + 1) mi _ _ _ _ _ _ hmi hr p e R s m args below meth c D K b scr C0 S0 H' locs' cells' slots' la cx hl hw' hc hsl hd hlo
            · rw [xhnd_none hmi] at hr
              cases hr
      · rename_i hk
        split at hr
        · rename_i d'
          split at hr
          rotate_left
          · cases hr
          rename_i hcat
          have hm := xr_mono sc n _ _ _ _ _ _ _ _ hr
          have kk := xr_sound hof sc n (d' + 8) mi _ _ _ _ _ _ hmi hr p e R s m args below meth c D K b scr C0 S0 H locs cells slots la cx hl hw hc hsl hd hlo
          exact hof sc p e R s m args below meth c _ D K b scr C0 S0 mi d' pc r _ h.1 h.2 H locs cells slots la hmi cx hrow hk hl.1 hw (Nat.le_trans hm.1 hc) (Nat.le_trans hm.2 hsl) hd hlo (by rw [List.map_map]; simpa [Function.comp_def, xv_cat] using hcat) kk
        · cases hr
      · split at hr
        · split at hr
          · cases hr
          · cases hr
        · cases hr
end XM3
