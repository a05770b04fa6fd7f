-- the pure machine's heap as the kit's world
def xv (b scr : Nat) : Value → Value
  | .ref k => .ref (if k = xscr then scr else b + k)
  | v => v
theorem xv_cat (b scr : Nat) (v : Value) : (xv b scr v).category = v.category := by cases v <;> rfl
abbrev xTy : Type := ClassId × ClassId × ClassId
def xk (K : xTy) (ty : FieldType) : ClassId := match ty with
  | .int => K.1
  | .long => K.2.1
  | _ => K.2.2
abbrev xtl (K : xTy) : List (ClassId × FieldType) := [(K.1, .int), (K.2.1, .long), (K.2.2, .char)]
def xe (K : xTy) (b scr : Nat) : xC → va_E
  | .inl q => .inl (xk K q.1, q.2)
  | .inr q => .inr (q.1, q.2.map (xv b scr))
def xw (K : xTy) (b scr : Nat) (A : List xC) : va_W := A.mapIdx fun k e => (b + k, xe K b scr e)
theorem xw_at {K : xTy} {b scr : Nat} {A : List xC} {k : Nat} {e : xC} (h : A[k]? = some e) : (xw K b scr A)[k]? = some (b + k, xe K b scr e) := by
  simp [xw, h]
theorem xw_of {K : xTy} {b scr : Nat} {A : List xC} {k : Nat} {q : Nat × va_E} (h : (xw K b scr A)[k]? = some q) : ∃ e, A[k]? = some e ∧ q = (b + k, xe K b scr e) := by
  simp only [xw, List.getElem?_mapIdx, Option.map_eq_some_iff] at h
  obtain ⟨e, h1, h2⟩ := h
  exact ⟨e, h1, h2.symm⟩
theorem xw_D (K : xTy) (b scr : Nat) (A : List xC) : va_D (fun q => b ≤ q) (xw K b scr A) := by
  refine ⟨fun i j p q hi hj he => ?_, fun k q hk => ?_⟩
  · obtain ⟨e1, -, rfl⟩ := xw_of hi
    obtain ⟨e2, -, rfl⟩ := xw_of hj
    dsimp only at he
    omega
  · obtain ⟨e1, -, rfl⟩ := xw_of hk
    exact Nat.le_add_right b k
theorem xw_set (K : xTy) (b scr : Nat) (A : List xC) (k : Nat) (e : xC) : (xw K b scr A).set k (b + k, xe K b scr e) = xw K b scr (A.set k e) := by
  apply List.ext_getElem?
  intro j
  simp only [xw, List.getElem?_set, List.getElem?_mapIdx, List.length_mapIdx]
  by_cases h : k = j
  · subst h
    by_cases h2 : k < A.length
    · simp [h2]
    · simp [h2]
  · simp [h]
theorem xw_app (K : xTy) (b scr : Nat) (A : List xC) (e : xC) : xw K b scr (A ++ [e]) = xw K b scr A ++ [(b + A.length, xe K b scr e)] := by
  simp [xw, List.mapIdx_append]
/-- what was there before the law's first step, and is there still -/
def xex (b : Nat) (U : State) : Prop := ∃ (s0 : State) (a0 : Array Value), s0.heap.size = b ∧ (∀ q, q < b → U.heap[q]? = s0.heap[q]?) ∧ s0.WarmedH U.vm ∧ (∀ w ∈ lw_tbl, w.before a0 s0 = true) ∧ (Jvm.Cond.and given_1 narrow_1).before a0 s0 = true
theorem xex_move {b : Nat} {s U : State} {H : Heap} (h : xex b s) (hU : U.heap = H) (hH : ∀ q, q < b → H[q]? = s.heap[q]?) (hW : s.WarmedH U.vm) : xex b U := by
  obtain ⟨s0, a0, e1, e2, e3, e4, e5⟩ := h
  exact ⟨s0, a0, e1, fun q hq => by rw [hU, hH q hq]; exact e2 q hq, State.WarmedH.trans e3 hW, e4, e5⟩
/-- a method's surroundings -/
def xcx (D : va_G) (K : xTy) (b scr : Nat) (sc : xSc) (mi : Nat) (p : Program) (s : State) (m : MethodId) (args : Array Value) (meth : Method) (c : Code) : Prop :=
  p.tables.exec = Jvm.exec ∧ c.code = xby mi ∧ c.maxLocals = (xme mi).2.2.1 ∧ s.vm.findClass (xme mi).1.cls = some m.cls ∧ (∀ w ∈ xTb, w.before args s = true) ∧ va_K D xCl (xtl K) s ∧ va_X scr sc.1 sc.2 s s.heap ∧ scr < b ∧ b ≤ s.heap.size ∧ meth.name = (xme mi).1.name ∧ meth.sig.returnType = (xme mi).2.2.2.1 ∧ meth.locks = false ∧ xex b s
/-- what the pure heap counts -/
def xsz : xC → Nat
  | .inl q => q.2.1
  | .inr q => q.2.length
def xcn (h : xH) : Nat := h.1.length + h.2
def xsn (h : xH) : Nat := (h.1.map xsz).sum + 6 * h.2
theorem xlk_mem {i : Nat} {v : Value} : ∀ {ls : xL}, xlk i ls = some v → (i, v) ∈ ls
  | [], h => by cases h
  | q :: r, h => by
    simp only [xlk] at h
    by_cases hq : (q.1 == i) = true
    · rw [if_pos hq] at h
      cases h
      have : q.1 = i := by simpa using hq
      subst this
      exact List.mem_cons_self
    · rw [if_neg hq] at h
      exact List.mem_cons_of_mem _ (xlk_mem h)
theorem xput_mem {i : Nat} {v : Value} {z : Nat × Value} : ∀ {ls : xL}, z ∈ xput i v ls → z = (i, v) ∨ z ∈ ls
  | [], h => by
    simp only [xput, List.mem_singleton] at h
    exact Or.inl h
  | q :: r, h => by
    simp only [xput] at h
    split at h
    · rcases List.mem_cons.mp h with e | e
      · exact Or.inl e
      · exact Or.inr e
    · rcases List.mem_cons.mp h with e | e
      · exact Or.inr (e ▸ List.mem_cons_self)
      · rcases xput_mem e with e | e
        · exact Or.inl e
        · exact Or.inr (List.mem_cons_of_mem _ e)
/-- locals, translated -/
abbrev xtv (b scr : Nat) (q : Nat × Value) : Nat × Value := (q.1, xv b scr q.2)
theorem xhas_lk {b scr nL i : Nat} {v : Value} {la : Array Slot} {ls : xL} (h : lv_has la nL (ls.map (xtv b scr))) (hl : xlk i ls = some v) : la[i]? = some (.val (xv b scr v)) :=
  h.2.2 (i, xv b scr v) (List.mem_map.mpr ⟨(i, v), xlk_mem hl, rfl⟩)
theorem lv_has_mono {la : Array Slot} {nL : Nat} {l l' : List (Nat × Value)} (h : lv_has la nL l) (hs : ∀ q ∈ l', q ∈ l) : lv_has la nL l' := ⟨h.1, h.2.1, fun q hq => h.2.2 q (hs q hq)⟩
theorem xst1_sub {b scr i : Nat} {v : Value} {ls : xL} : ∀ q ∈ (xst1 i v ls).map (xtv b scr), q ∈ (i, xv b scr v) :: (ls.map (xtv b scr)).filter (fun q => !(q.1 == i) && !(q.1 + 1 == i && q.2.category == 2)) := by
  intro q hq
  obtain ⟨z, hz, rfl⟩ := List.mem_map.mp hq
  rcases xput_mem hz with rfl | hz
  · exact List.mem_cons_self
  · obtain ⟨h1, h2⟩ := List.mem_filter.mp hz
    exact List.mem_cons_of_mem _ (List.mem_filter.mpr ⟨List.mem_map.mpr ⟨z, h1, rfl⟩, by simpa [xtv, xv_cat] using h2⟩)
theorem xst2_sub {b scr i : Nat} {v : Value} {ls : xL} : ∀ q ∈ (xst2 i v ls).map (xtv b scr), q ∈ (i, xv b scr v) :: (ls.map (xtv b scr)).filter (fun q => !(q.1 == i) && (!(q.1 == i + 1) && !(q.1 + 1 == i && q.2.category == 2))) := by
  intro q hq
  obtain ⟨z, hz, rfl⟩ := List.mem_map.mp hq
  rcases xput_mem hz with rfl | hz
  · exact List.mem_cons_self
  · obtain ⟨h1, h2⟩ := List.mem_filter.mp hz
    exact List.mem_cons_of_mem _ (List.mem_filter.mpr ⟨List.mem_map.mpr ⟨z, h1, rfl⟩, by simpa [xtv, xv_cat] using h2⟩)
theorem xib_in {i : Int32} {n : Nat} (h : xib i n = true) : vp_in i n := by
  simp only [xib, Bool.and_eq_true, decide_eq_true_eq] at h
  exact vp_in_iff.mpr h
