section XS
variable {p : Program} {l : Launch} {e : Env} {R : Room} {s : State} {m : MethodId} {args : Array Value} {below : List Frame} {meth : Method} {c : Code} {Q : State → Prop}
theorem x_sized {H : Heap} {locs : List Loc} {cells slots : Nat} {g : JFrame} (h : H.size ≤ s.heap.size + cells → W p l e R s m args below meth c H locs cells slots Q g) : W p l e R s m args below meth c H locs cells slots Q g := fun T hT X => h (by rw [← hT]; exact X.heapSize) T hT X
/-- the world between two instructions: C0 cells and S0 slots were there at the method's entry -/
def xwd (D : va_G) (K : xTy) (b scr : Nat) (s : State) (C0 S0 : Nat) (A : List xC) (g : Nat) (H : Heap) (locs : List Loc) (cells slots : Nat) : Prop :=
  s.heap.size = b + C0 ∧ cells + C0 = A.length + g ∧ slots + S0 = xsn (A, g) ∧ H.size = b + (A.length + g) ∧ A.length ≤ 1000 ∧ va_P D xCl (xw K b scr A) H ∧ va_S (fun q => b ≤ q) s.heap H locs
theorem va_S.comp {B : Nat → Prop} {H0 H H1 : Heap} {l0 l1 : List Loc} (h : va_S B H0 H l0) (h1 : va_S B H H1 l1) : va_S B H0 H1 l1 :=
  ⟨Nat.le_trans h.1 h1.1, fun q hq hn => (h1.2.1 q (Nat.lt_of_lt_of_le hq h.1) hn).trans (h.2.1 q hq hn), h1.2.2⟩
theorem va_S.again {B : Nat → Prop} {H0 H : Heap} {l0 : List Loc} (h : va_S B H0 H l0) : va_S B H H l0 := ⟨Nat.le_refl _, fun _ _ _ => rfl, h.2.2⟩
theorem xsum_set {A : List xC} {k : Nat} {e0 e : xC} (h : A[k]? = some e0) (hz : xsz e = xsz e0) : ((A.set k e).map xsz).sum = (A.map xsz).sum := by
  have : (A.set k e).map xsz = A.map xsz := by
    apply List.ext_getElem?
    intro j
    simp only [List.getElem?_map, List.getElem?_set]
    by_cases hj : k = j
    · subst hj
      rw [h]
      have hlt : k < A.length := (List.getElem?_eq_some_iff.mp h).1
      simp [hlt, hz]
    · simp [hj]
  rw [this]
/-- behind a store into a cell -/
theorem xwd_set {D : va_G} {K : xTy} {b scr C0 S0 : Nat} {A : List xC} {g : Nat} {H H1 : Heap} {locs locs1 : List Loc} {cells slots k : Nat} {e0 e1 : xC} (hw : xwd D K b scr s C0 S0 A g H locs cells slots) (hk : A[k]? = some e0) (hz : xsz e1 = xsz e0)
    (hle : H1.size ≤ s.heap.size + cells) (hP : va_P D xCl ((xw K b scr A).set k (b + k, xe K b scr e1)) H1) (hS : va_S (fun q => b ≤ q) H H1 locs1) : xwd D K b scr s C0 S0 (A.set k e1) g H1 locs1 cells slots := by
  obtain ⟨h1, h2, h3, h4, h5, h6, h7⟩ := hw
  have hs := hS.1
  refine ⟨h1, by simpa using h2, ?_, by simp only [List.length_set]; omega, by simpa using h5, by rw [← xw_set]; exact hP, h7.comp hS⟩
  rw [h3]
  simp only [xsn, xsum_set hk hz]
/-- behind a new cell -/
theorem xwd_new {D : va_G} {K : xTy} {b scr C0 S0 : Nat} {A : List xC} {H H1 : Heap} {locs locs1 : List Loc} {cells slots n q : Nat} {e1 : xC} (hw : xwd D K b scr s C0 S0 A 0 H locs cells slots) (hA : A.length < 1000) (hz : xsz e1 = n)
    (hle : H1.size ≤ s.heap.size + (cells + 1)) (hP : va_P D xCl (xw K b scr A ++ [(q, xe K b scr e1)]) H1) (hD : va_D (fun q => b ≤ q) (xw K b scr A ++ [(q, xe K b scr e1)])) (hS : va_S (fun q => b ≤ q) H H1 locs1) : q = b + A.length ∧ xwd D K b scr s C0 S0 (A ++ [e1]) 0 H1 locs1 (cells + 1) (slots + n) := by
  obtain ⟨h1, h2, h3, h4, h5, h6, h7⟩ := hw
  have hlen : (xw K b scr A).length = A.length := by simp [xw]
  have hq1 : (xw K b scr A ++ [(q, xe K b scr e1)])[A.length]? = some (q, xe K b scr e1) := by
    rw [List.getElem?_append_right (by omega), hlen]
    simp
  have hlt : q < H1.size := va_at.lt (hP _ _ hq1)
  have hbq : b ≤ q := hD.2 _ _ hq1
  have hge : b + A.length ≤ q := by
    rcases Nat.lt_or_ge q (b + A.length) with hc | hc
    · exfalso
      have hi : q - b < A.length := by omega
      obtain ⟨e0, he0⟩ : ∃ e0, A[q - b]? = some e0 := ⟨A[q - b], List.getElem?_eq_getElem hi⟩
      have h9 : (xw K b scr A ++ [(q, xe K b scr e1)])[q - b]? = some (b + (q - b), xe K b scr e0) := by
        rw [List.getElem?_append_left (by omega)]
        exact xw_at he0
      have := hD.1 _ _ _ _ h9 hq1 (by dsimp only; omega)
      omega
    · exact hc
  have hs := hS.1
  have hq : q = b + A.length := by omega
  refine ⟨hq, h1, by simp; omega, ?_, by simp only [List.length_append, List.length_singleton]; omega, by simp; omega, ?_, h7.comp hS⟩
  · simp only [xsn, List.map_append, List.sum_append, List.map_cons, List.map_nil, List.sum_cons, List.sum_nil, hz] at h3 ⊢
    omega
  · rw [xw_app, ← hq]
    exact hP
theorem xcl_get {ci : Nat} (h : ci < 8) : xCl[ci]? = some (xcl ci) := by
  have h8 : ci < xCl.length := h
  unfold xcl
  rw [List.getD_eq_getElem?_getD, List.getElem?_eq_getElem h8]
  rfl
theorem xin_ws : ∀ ci, ci < 8 → ∀ w ∈ u_ws (xcl ci).1 (xcl ci).2.1 (xcl ci).2.2, w ∈ xTb := by decide +kernel
def xtyf (ci : Nat) : Nat → FieldType := fun k => (xtys.getD ci []).getD k .int
theorem xty_ok : ∀ ci, ci < 8 → ∀ k, k < (xcl ci).2.2 → parseFieldDescriptor ((xcl ci).2.1 k).2.2.1 = some (xtyf ci k) := by decide +kernel
theorem xnm_ok : ∀ ci, ci < 8 → ∀ a, a < (xcl ci).2.2 → ∀ b, b < (xcl ci).2.2 → a ≠ b → ((xcl ci).2.1 a).2.1 ≠ ((xcl ci).2.1 b).2.1 := by decide +kernel
theorem xdf_ok : ∀ ci, ci < 8 → ∀ j, j < (xcl ci).2.2 → defaultValue (xtyf ci j) = vp_V (xdfs.getD ci []) j := by decide +kernel
theorem xdf_len : ∀ ci, ci < 8 → (xdfs.getD ci []).length = (xcl ci).2.2 := by decide +kernel
def xdfp (v : Value) : Bool := match v with
  | .ref _ => false
  | _ => true
theorem xdf_pl : ∀ ci, ci < 8 → (xdfs.getD ci []).all xdfp = true := by decide +kernel
theorem xdf_xv {b scr : Nat} {l : List Value} (h : l.all xdfp = true) : l.map (xv b scr) = l := by
  have : ∀ v ∈ l, xv b scr v = v := fun v hv => by
    have h1 := List.all_eq_true.mp h v hv
    cases v <;> first | rfl | (simp [xdfp] at h1)
  rw [List.map_congr_left this, List.map_id']
theorem xin_inst : ∀ ci, ci < 8 → Cond.instantiable (xcl ci).1 (xcl ci).2.2 ∈ xTb ∧ Cond.initialized (xcl ci).1 ∈ xTb := by decide +kernel
theorem xin_obj : Cond.instanceMethod Lib.objectInit ∈ xTb ∧ Cond.code Lib.objectInit ⟨#[0xb1]⟩ 1 none ∈ xTb := by decide +kernel
theorem xin_max : Cond.static Lib.Math.max.name ∈ xTb ∧ Cond.initialized "java/lang/Math" ∈ xTb ∧ Cond.code Lib.Math.max.name Lib.Math.max.code 2 (some .int) ∈ xTb := by decide +kernel
theorem xfit_n {b scr : Nat} {ty : FieldType} {v : Value} (h : xfit ty v = true) : narrow ty (xv b scr v) = xv b scr v ∧ fits ty (xv b scr v) = true := by
  cases ty <;> cases v <;> first | (simp [xfit] at h; done) | (exact ⟨rfl, rfl⟩) | skip
  all_goals
    simp only [xfit, Bool.or_eq_true, beq_iff_eq] at h
    rcases h with rfl | rfl <;> exact ⟨rfl, rfl⟩
theorem xsw_t {pc d : Nat} {x : Int32} : ∀ {lo : Int} {offs : List Int} {sw : List (Int32 × Nat)}, xswt pc lo offs sw = true → (x.toInt < lo ∨ lo + offs.length ≤ x.toInt) → xsw d x sw = d
  | lo, [], [], _, _ => rfl
  | lo, [], _ :: _, h, _ => by cases h
  | lo, _ :: _, [], h, _ => by cases h
  | lo, o :: offs, z :: sw, h, hx => by
    simp only [xswt, Bool.and_eq_true, decide_eq_true_eq] at h
    have hne : ¬ x = z.1 := fun q => by rw [q, h.1] at hx; simp only [List.length_cons] at hx; omega
    simp only [xsw, if_neg hne]
    exact xsw_t h.2.2 (by simp only [List.length_cons] at hx; omega)
theorem xsw_i {pc d : Nat} {x : Int32} : ∀ {lo : Int} {offs : List Int} {sw : List (Int32 × Nat)}, xswt pc lo offs sw = true → ¬ x.toInt < lo → x.toInt < lo + offs.length → ∃ off, offs[(x.toInt - lo).toNat]? = some off ∧ (pc : Int) + off = (xsw d x sw : Int)
  | lo, [], [], _, h1, h2 => by simp at h2; omega
  | lo, [], _ :: _, h, _, _ => by cases h
  | lo, _ :: _, [], h, _, _ => by cases h
  | lo, o :: offs, z :: sw, h, h1, h2 => by
    simp only [xswt, Bool.and_eq_true, decide_eq_true_eq] at h
    by_cases hx : x.toInt = lo
    · have he : x = z.1 := Int32.toInt_inj.mp (hx.trans h.1.symm)
      refine ⟨o, by rw [hx]; simp, ?_⟩
      simp only [xsw, if_pos he]
      exact h.2.1
    · have hne : ¬ x = z.1 := fun q => hx (by rw [q]; exact h.1)
      obtain ⟨off, a1, a2⟩ := xsw_i (d := d) (x := x) h.2.2 (by omega) (by simp only [List.length_cons] at h2; omega)
      refine ⟨off, ?_, by simp only [xsw, if_neg hne]; exact a2⟩
      have : (x.toInt - lo).toNat = (x.toInt - (lo + 1)).toNat + 1 := by omega
      rw [this, List.getElem?_cons_succ]
      exact a1
theorem xsw_p {pc d : Nat} {dflt : Int} (hd : (pc : Int) + dflt = d) {x : Int32} : ∀ {ps : List (Int × Int)} {sw : List (Int32 × Nat)}, xswp pc ps sw = true → (pc : Int) + Op.lookupswitch.offset ps dflt x.toInt = (xsw d x sw : Int)
  | [], [], _ => by simpa [Op.lookupswitch.offset, xsw] using hd
  | [], _ :: _, h => by cases h
  | _ :: _, [], h => by cases h
  | q :: ps, z :: sw, h => by
    simp only [xswp, Bool.and_eq_true, decide_eq_true_eq] at h
    have ih := xsw_p hd (x := x) h.2.2
    by_cases hx : x.toInt = q.1
    · have he : x = z.1 := Int32.toInt_inj.mp (hx.trans h.1.symm)
      simp only [xsw, if_pos he]
      rw [← h.2.1]
      obtain ⟨q1, q2⟩ := q
      simp only at hx
      simp [Op.lookupswitch.offset, hx]
    · have hne : ¬ x = z.1 := fun w => hx (by rw [w]; exact h.1)
      simp only [xsw, if_neg hne]
      rw [← ih]
      obtain ⟨q1, q2⟩ := q
      simp only at hx
      have hx2 : ¬ q1 = x.toInt := fun w => hx w.symm
      simp [Op.lookupswitch.offset, hx, hx2]
end XS
