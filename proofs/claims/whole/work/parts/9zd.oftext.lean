-- a text's number: ldc and Packed.ofText in one
def xF1 : List Cond := flatC (Jvm.Cond.and given_1 narrow_1)
/-- the texts: the ldc's pc in the constructor of Operators, the entry, the word's place, the bytes, the text -/
def y4l : List (Nat × Nat × Nat × List Int32 × String) := [(49, 32, 169, [58, 45], ":-"), (62, 32, 169, [58, 45], ":-"), (75, 40, 221, [59], ";"), (88, 42, 222, [45, 62], "->"), (101, 44, 223, [92, 43], "\\+"), (114, 46, 224, [61], "="), (127, 48, 225, [60], "<"), (140, 50, 226, [105, 115], "is"), (153, 52, 227, [43], "+"), (177, 56, 229, [42], "*"), (190, 58, 230, [47], "/"), (203, 60, 231, [94], "^")]
abbrev y4t (i : Nat) : Term := .string "TermReader$Operators" i
abbrev y4v (i : Nat) : Term := .field (y4t i) "java/lang/String" "value" "[B"
set_option maxRecDepth 100000 in
theorem y4_a : ∀ q ∈ y4l, lw_tbl[q.2.2.1]? = some (Cond.stringRef "TermReader$Operators" q.2.1 q.2.2.2.2) ∧ q.2.2.2.1.length < 9 ∧ decode (xby 17) (q.1 + 2) = .ok (.invokestatic 34, 3) ∧ decode (xby 17) q.1 = .ok (.ldc q.2.1, 2) := by decide +kernel
set_option maxRecDepth 100000 in
theorem y4_b : ∀ q ∈ y4l, Cond.exactly (y4t q.2.1) "java/lang/String" ∈ xF1 ∧ Cond.eq (.field (y4t q.2.1) "java/lang/String" "coder" "B") (.int 0) ∈ xF1 ∧ Cond.arrayOf (y4v q.2.1) .byte ∈ xF1 ∧ Cond.eq (.length (y4v q.2.1)) (.int (Int32.ofNat q.2.2.2.1.length)) ∈ xF1 := by decide +kernel
set_option maxRecDepth 100000 in
theorem y4_c : ∀ q ∈ y4l, ∀ j, j < q.2.2.2.1.length → Cond.eq (.elem (y4v q.2.1) (.int (Int32.ofNat j))) (.int (q.2.2.2.1.getD j 0)) ∈ xF1 := by decide +kernel
set_option maxRecDepth 100000 in
theorem y4_d : ∀ q ∈ y4l, ∀ k, k < q.2.2.2.1.length → narrow .char (.int (yC (fun j => q.2.2.2.1.getD j 0) k)) = .int (yC (fun j => q.2.2.2.1.getD j 0) k) := by decide +kernel
/-- a question to every row of a method -/
def xsc (P : Nat → xRow → Bool) : Nat → List (Option xRow) → Bool
  | _, [] => true
  | pc, none :: l => xsc P (pc + 1) l
  | pc, some r :: l => P pc r && xsc P (pc + 1) l
theorem xsc_at {P : Nat → xRow → Bool} : ∀ {l : List (Option xRow)} {k j : Nat} {r : xRow}, xsc P k l = true → l.getD j none = some r → P (k + j) r = true
  | [], k, j, r, _, h => by simp at h
  | none :: l, k, 0, r, h, hr => by simp at hr
  | none :: l, k, j + 1, r, h, hr => by
    have h1 := xsc_at (l := l) (k := k + 1) (j := j) (r := r) h (by simpa using hr)
    rwa [show k + 1 + j = k + (j + 1) by omega] at h1
  | some q :: l, k, 0, r, h, hr => by
    simp only [xsc, Bool.and_eq_true] at h
    have : q = r := by simpa using hr
    rw [← this]
    exact h.1
  | some q :: l, k, j + 1, r, h, hr => by
    simp only [xsc, Bool.and_eq_true] at h
    have h1 := xsc_at (l := l) (k := k + 1) (j := j) (r := r) h.2 (by simpa using hr)
    rwa [show k + 1 + j = k + (j + 1) by omega] at h1
def y4c (mi pc : Nat) (r : xRow) : Bool := if xkd r = 4 then decide (mi = 17) && y4l.any (fun q => decide (pc = q.1) && decide (r.2.2.2.2.2.2.1 = yPk (fun j => q.2.2.2.1.getD j 0) q.2.2.2.1.length)) else true
set_option maxRecDepth 100000 in
theorem y4_all : ∀ mi, mi < 214 → xsc (y4c mi) 0 (xcs.getD mi []) = true := by decide +kernel
theorem y4_w : Cond.initialized "TermReader$Packed" ∈ xTb ∧ Cond.methodLink "TermReader$Operators" 34 yOfT ∈ xTb := ⟨(xmi_facts (mi := 211) (by decide)).1, xhas_in (i := 170) (by decide +kernel)⟩
theorem y4_z : lw_tbl[182]? = some (Cond.laysStatic "java/lang/String" "COMPACT_STRINGS" "Z") ∧ lw_tbl[198]? = some (Cond.laysStatic "jdk/internal/util/Preconditions" "SIOOBE_FORMATTER" "Ljava/util/function/BiFunction;") := by decide +kernel
set_option maxRecDepth 100000 in
theorem y4_f : Cond.eq (.static "java/lang/String" "COMPACT_STRINGS" "Z") (.int 1) ∈ xF1 ∧ Cond.isRef (.static "jdk/internal/util/Preconditions" "SIOOBE_FORMATTER" "Ljava/util/function/BiFunction;") ∈ xF1 := by decide +kernel
theorem xTb_tbl {w : Cond} (h : w ∈ xTb) : w ∈ lw_tbl := (List.mem_filter.mp h).1
theorem isRef_cat {v : Value} (h : v.isRef = true) : v.category = 1 := by cases v <;> first | rfl | (simp [Value.isRef] at h)
/-- a text of the constructor of Operators, as it stands at the law's start -/
theorem y4_str {b : Nat} {s0 : State} {a0 : Array Value} {q : Nat × Nat × Nat × List Int32 × String} (hq : q ∈ y4l) (e1 : s0.heap.size = b) (e4 : ∀ w ∈ lw_tbl, w.before a0 s0 = true) (e5 : (Jvm.Cond.and given_1 narrow_1).before a0 s0 = true) :
    ∃ (str val : Nat) (fm : Value), fm.category = 1 ∧ vk_R "TermReader$Operators" q.2.1 q.2.2.2.2 str s0 ∧ yY b str val q.2.2.2.1.length (fun j => q.2.2.2.1.getD j 0) fm s0 s0.heap := by
  have fl : ∀ w ∈ xF1, w.before a0 s0 = true := flat_of_before _ e5
  obtain ⟨i1, i2, i3, i4⟩ := y4_a q hq
  obtain ⟨j1, j2, j3, j4⟩ := y4_b q hq
  have j5 := y4_c q hq
  have hA : ∀ a : Nat, a < s0.heap.size → ¬ b ≤ a := fun a ha => by rw [e1] at ha; omega
  obtain ⟨adK, adV, hS, hev⟩ := vk_Sof (N := 1) (tm := fun _ => y4t q.2.1) (len := [q.2.2.2.1.length]) (byt := [q.2.2.2.1]) (A := fun z => b ≤ z) (args := a0) (s := s0)
    (fun i hi => by
      obtain rfl : i = 0 := by omega
      show q.2.2.2.1.length < 2 ^ 31
      omega)
    (fun i hi => fl _ j1) (fun i hi => fl _ j2) (fun i hi => fl _ j3)
    (fun i hi => by
      obtain rfl : i = 0 := by omega
      exact fl _ j4)
    (fun i hi j hj => by
      obtain rfl : i = 0 := by omega
      exact fl _ (j5 j hj))
    (fun i j hi hj hij => absurd (by omega : i = j) hij) hA
  obtain ⟨fm, hf1, hf2⟩ := Cond.isRef_spec (fl _ y4_f.2)
  have z1 := va_Zof (e4 _ (List.mem_of_getElem? y4_z.1)) (e4 _ (xTb_tbl yi_1)) (va_eqt (fl _ y4_f.1)) hA
  have z2 := va_Zof (e4 _ (List.mem_of_getElem? y4_z.2)) (e4 _ (xTb_tbl yi_3)) hf1 hA
  obtain ⟨h1, h2, h3, h4⟩ := hS.1 0 (by decide)
  exact ⟨adK 0, adV 0, fm, isRef_cat hf2, vk_R.of (e4 _ (List.mem_of_getElem? i1)) (hev 0 (by decide)), h1, h2, h3, h4, z1, z2⟩
set_option maxRecDepth 100000 in
theorem xOf_holds (l : Launch) : xOf l := by
  intro sc p e R s m args below meth c Q D K b scr C0 S0 mi d pc r st A g H locs cells slots la hmi cx hrow hk hsz hw hcl hsl hd hlo hcat k
  have h1 := xsc_at (y4_all mi hmi) (show (xcs.getD mi []).getD pc none = some r from hrow)
  rw [Nat.zero_add] at h1
  unfold y4c at h1
  rw [if_pos hk] at h1
  simp only [Bool.and_eq_true, decide_eq_true_eq, List.any_eq_true] at h1
  obtain ⟨rfl, q, hq, rfl, hpk⟩ := h1
  obtain ⟨i1, i2, i3, i4⟩ := y4_a q hq
  obtain ⟨hx, hb, hml, hown, hts, hK, hX, hsb, hbs, hnm, hrt, hlk, hex⟩ := id cx
  obtain ⟨w1, w2, w3, w4, w5, hP, hS⟩ := id hw
  obtain ⟨s0, a0, e1, e2, e3, e4, e5⟩ := id hex
  obtain ⟨str, val, fm, hfm, hR, hY⟩ := y4_str hq e1 e4 e5
  have hY2 : yY b str val q.2.2.2.1.length (fun j => q.2.2.2.1.getD j 0) fm s H := (yY.moved e3.alike hY).kept (fun a ha hn => by
    rw [hS.2.1 a (by omega) hn]
    exact e2 a (by omega))
  have hcls : (xme 17).1.cls = "TermReader$Operators" := rfl
  rw [hcls] at hown
  have hF : CallFix p m c (xby 17) (xme 17).2.2.1 s args xTb "TermReader$Operators" := ⟨hx, hb, hml, hown, hts⟩
  rw [hpk] at k
  refine va_ldcS hx hb hown (vk_R.warm e3 hR) i4 ?_
  have w3' : slots + S0 = xsn (A, g) := w3
  refine y_cS (As := [.ref str]) (rest := st) hF (y_oft hfm i2 (y4_d q hq)) yw_of.2 yw_of.1 y4_w.1 y4_w.2 ⟨by decide, by decide, yn_oft⟩ ⟨by omega, by omega⟩ hY2 hsz rfl hcat i3 ⟨by omega, by omega⟩ ?_
  exact k
