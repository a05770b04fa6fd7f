-- the reference's reader as steps on a pile of frames
abbrev xGS : Type := List Nat × List (List Nat) × List (List Nat) × List xIt × List xFr
def sL (f : xFr) (x : Int) : xFr := (f.1, f.2.1, x, f.2.2.2.1, f.2.2.2.2)
def psh (F : List xFr) (s : List Nat) (vs N : List (List Nat)) (Q : List xIt) (m : Int) (pu ow : Nat) : Option xGS := if F.length ≤ 10 then some (s, vs, N, Q, F ++ [(m, Q.length, -1, pu, ow)]) else none
/-- a name begins a term -/
def nbF (sl : List xSl) (s : List Nat) (vs N : List (List Nat)) (Q : List xIt) (F : List xFr) (f : xFr) : Option xGS :=
  if isMin s (nx s) = true then (if (nx (nx s).2.2.2).1 = 3 then some ((nx (nx s).2.2.2).2.2.2, vs, N, Q ++ [(1, -((nx (nx s).2.2.2).2.1 : Int), [], 0)], F ++ [sL f 0]) else none)
  else if isCal (nx s) = true then psh (F ++ [f]) (nx s).2.2.2.tail vs (nmA N (nx s).2.2.1) (Q ++ [(3, 0, (nx s).2.2.1, 0)]) 999 2 Q.length
  else (match pfx sl f.1 s with
    | some e => psh (F ++ [f]) (nx s).2.2.2 vs (nmA N (nx s).2.2.1) (Q ++ [(3, 0, (nx s).2.2.1, 1)]) (oRight (some e)) 6 e.2.1
    | none => some ((nx s).2.2.2, vs, nmA N (nx s).2.2.1, Q ++ [(2, 0, (nx s).2.2.1, 0)], F ++ [sL f 0]))
/-- a term begins -/
def bgF (sl : List xSl) (s : List Nat) (vs N : List (List Nat)) (Q : List xIt) (F : List xFr) (f : xFr) : Option xGS :=
  if (nx s).1 = 3 then some ((nx s).2.2.2, vs, N, Q ++ [(1, ((nx s).2.1 : Int), [], 0)], F ++ [sL f 0])
  else if (nx s).1 = 2 then some ((nx s).2.2.2, vnx vs (nx s).2.2.1, nmA N (nx s).2.2.1, Q ++ [(0, (vno vs (nx s).2.2.1 : Int), [], 0)], F ++ [sL f 0])
  else if (nx s).1 = 4 then some ((nx s).2.2.2, vs, nmA (nmA N [46]) [91, 93], Q ++ strL (nx s).2.2.1, F ++ [sL f 0])
  else if (nx s).1 = 1 then nbF sl s vs N Q F f
  else if isMk s 40 = true then psh (F ++ [f]) (nx s).2.2.2 vs N Q 1200 1 0
  else if isMk s 91 = true then psh (F ++ [f]) (nx s).2.2.2 vs (nmA N [46]) (Q ++ [dotP]) 999 3 0
  else if isMk s 123 = true then psh (F ++ [f]) (nx s).2.2.2 vs (nmA N [123, 125]) (Q ++ [(3, 0, [123, 125], 1)]) 1200 5 0
  else none
def ins (Q : List xIt) (r : Nat) (p : xIt) : List xIt := Q.take r ++ p :: Q.drop r
/-- one argument more -/
def inc (Q : List xIt) (i : Nat) : List xIt := match Q[i]? with
  | some p => Q.set i (p.1, p.2.1, p.2.2.1, p.2.2.2 + 1)
  | none => Q
def mny (Q : List xIt) (i : Nat) : Nat := match Q[i]? with
  | some p => p.2.2.2
  | none => 0
/-- a frame is done: what its owner does with the term -/
def whF (s : List Nat) (vs N : List (List Nat)) (Q : List xIt) (G : List xFr) (h : xFr) (pu ow : Nat) : Option xGS :=
  if pu = 6 ∨ pu = 7 then some (s, vs, N, Q, G ++ [sL h ow])
  else if pu = 1 then (if isMk s 41 = true then some ((nx s).2.2.2, vs, N, Q, G ++ [sL h 0]) else none)
  else if pu = 4 then (if isMk s 93 = true then some ((nx s).2.2.2, vs, N, Q, G ++ [sL h 0]) else none)
  else if pu = 5 then (if isMk s 125 = true then some ((nx s).2.2.2, vs, N, Q, G ++ [sL h 0]) else none)
  else if pu = 2 then (if mny Q ow + 1 ≤ 6 then (if isMk s 44 = true then psh (G ++ [sL h 0]) (nx s).2.2.2 vs N (inc Q ow) 999 2 ow else if isMk s 41 = true then some ((nx s).2.2.2, vs, N, inc Q ow, G ++ [sL h 0]) else none) else none)
  else if isMk s 44 = true then psh (G ++ [sL h 0]) (nx s).2.2.2 vs (nmA N [46]) (Q ++ [dotP]) 999 3 0
  else if isMk s 124 = true then psh (G ++ [sL h 0]) (nx s).2.2.2 vs N Q 999 4 0
  else if isMk s 93 = true then some ((nx s).2.2.2, vs, nmA N [91, 93], Q ++ [nilP], G ++ [sL h 0])
  else none
def popF (s : List Nat) (vs N : List (List Nat)) (Q : List xIt) (F : List xFr) (f : xFr) : Option xGS := match F.getLast? with
  | none => some (s, vs, N, Q, [])
  | some h => whF s vs N Q F.dropLast h f.2.2.2.1 f.2.2.2.2
/-- on behind a term -/
def goF (sl : List xSl) (s : List Nat) (vs N : List (List Nat)) (Q : List xIt) (F : List xFr) (f : xFr) : Option xGS :=
  if (nx s).1 = 7 then none else (match opB sl (tK (nx s)) with
    | none => popF s vs N Q F f
    | some e => if (e.2.1 : Int) ≤ f.1 ∧ f.2.2.1 ≤ oLeft (some e) then
        (if oInf (some e) = true then (if bgn (nx (nx s).2.2.2) = true then psh (F ++ [f]) (nx s).2.2.2 vs (nmA N (nmOf (nx s))) (ins Q f.2.1 (3, 0, nmOf (nx s), 2)) (oRight (some e)) 7 e.2.1 else popF s vs (nmA N (nmOf (nx s))) Q F f)
        else some ((nx s).2.2.2, vs, nmA N (nx s).2.2.1, ins Q f.2.1 (3, 0, (nx s).2.2.1, 1), F ++ [sL f e.2.1]))
      else popF s vs N Q F f)
def zU (t : List Nat) (sl : List xSl) (v : Nat → Int32) (a : Nat → Nat → Int32) (o : Nat → Int64) (vs N : List (List Nat)) (Q : List xIt) (F : List xFr) : Prop :=
  zT v a t ∧ zO v a o sl ∧ zN v a N ∧ zV v a N vs ∧ zQ v a N Q ∧ zF v a F
/-- the state of the reader -/
def zS (t : List Nat) (sl : List xSl) (v : Nat → Int32) (a : Nat → Nat → Int32) (o : Nat → Int64) (s : List Nat) (vs N : List (List Nat)) (Q : List xIt) (F : List xFr) : Prop :=
  zU t sl v a o vs N Q F ∧ (∃ p, v 27 = nI p ∧ t.drop p = s ∧ p ≤ t.length) ∧ v 28 = 0
/-- the reader has failed: what was kept before lies there still -/
def zBd (t : List Nat) (sl : List xSl) (v : Nat → Int32) (a : Nat → Nat → Int32) (o : Nat → Int64) (N0 : List (List Nat)) (Q0 : List xIt) : Prop :=
  zT v a t ∧ zO v a o sl ∧ v 28 = 1 ∧ (∃ e, v 27 = nI e ∧ e ≤ 1000) ∧ ∃ N Q, zN v a N ∧ zQ v a N Q ∧ (∃ M, N = N0 ++ M) ∧ (∃ R, Q = Q0 ++ R)
def vR : List Nat := [9, 12, 16, 20, 21, 22, 23, 24, 25, 27, 28, 29, 35]
def aR : List Nat := [35, 36, 37, 39, 40, 41, 42, 43, 44, 45, 46, 47, 48, 51]
/-- room for one step -/
def rmS (s : List Nat) (vs N : List (List Nat)) (Q : List xIt) : Prop := Q.length + 2 * s.length ≤ 900 ∧ N.length + 4 ≤ 1500 ∧ ltN N + 60 ≤ 4600 ∧ vs.length < 130
theorem nmA_pre {N N0 : List (List Nat)} {w : List Nat} (h : ∃ M, N = N0 ++ M) : ∃ M, nmA N w = N0 ++ M := by
  obtain ⟨M, h⟩ := h
  unfold nmA
  split
  · exact ⟨M, h⟩
  · exact ⟨M ++ [w], by rw [h, List.append_assoc]⟩
theorem app_pre {Q Q0 E : List xIt} (h : ∃ R, Q = Q0 ++ R) : ∃ R, Q ++ E = Q0 ++ R := by
  obtain ⟨R, h⟩ := h
  exact ⟨R ++ E, by rw [h, List.append_assoc]⟩
theorem ins_pre {Q Q0 : List xIt} {r : Nat} {p : xIt} (h : ∃ R, Q = Q0 ++ R) (hr : Q0.length ≤ r) : ∃ R, ins Q r p = Q0 ++ R := by
  obtain ⟨R, h⟩ := h
  refine ⟨R.take (r - Q0.length) ++ p :: R.drop (r - Q0.length), ?_⟩
  unfold ins
  rw [h, List.take_append, List.drop_append, List.take_of_length_le hr, List.drop_eq_nil_of_le hr, List.nil_append, List.append_assoc]
theorem inc_pre {Q Q0 : List xIt} {i : Nat} (h : ∃ R, Q = Q0 ++ R) (hr : Q0.length ≤ i) : ∃ R, inc Q i = Q0 ++ R := by
  obtain ⟨R, h⟩ := h
  unfold inc
  cases hq : Q[i]? with
  | none => exact ⟨R, h⟩
  | some p =>
    refine ⟨R.set (i - Q0.length) (p.1, p.2.1, p.2.2.1, p.2.2.2 + 1), ?_⟩
    dsimp only
    rw [h, List.set_append_right _ _ hr]
theorem nmA_len (N : List (List Nat)) (w : List Nat) : (nmA N w).length ≤ N.length + 1 ∧ ltN (nmA N w) ≤ ltN N + w.length := by
  unfold nmA
  split
  · omega
  · rw [List.length_append, ltN_app, List.length_singleton]
    exact ⟨Nat.le_refl _, by simp [ltN]⟩
section NF
variable {v : Nat → Int32} {a : Nat → Nat → Int32} {o : Nat → Int64} {sl : List xSl} {F : List xFr} {f : xFr} {Q : List xIt} {N : List (List Nat)}
theorem zF.setL {x : Int32} (h : zF v a (F ++ [f])) : zF v (uA a 45 (upd (a 45) F.length x)) (F ++ [sL f x.toInt]) := by
  obtain ⟨h1, h2, h3⟩ := h
  rw [List.length_append, List.length_singleton] at h1 h2
  refine ⟨by rw [h1, List.length_append]; rfl, by rw [List.length_append, List.length_singleton]; exact h2, fun i g hg => ?_⟩
  rw [uA_n (by decide), uA_n (by decide), uA_s, uA_n (by decide), uA_n (by decide)]
  rcases ap_c hg with ⟨y1, y2⟩ | ⟨y1, y2⟩
  · rw [upd_n (by omega)]
    exact h3 i g (by rw [List.getElem?_append_left y1]; exact y2)
  · have z := h3 F.length f (by simp)
    rw [y1, y2, upd_s]
    exact ⟨z.1, z.2.1, rfl, z.2.2.2.1, z.2.2.2.2.1, z.2.2.2.2.2⟩
theorem zF.top (h : zF v a (F ++ [f])) : v 29 = nI (F.length + 1) ∧ F.length ≤ 10 ∧ (a 43 F.length).toInt = f.1 ∧ a 44 F.length = nI f.2.1 ∧ (a 45 F.length).toInt = f.2.2.1 ∧ a 46 F.length = nI f.2.2.2.1 ∧ a 47 F.length = nI f.2.2.2.2 := by
  obtain ⟨h1, h2, h3⟩ := h
  rw [List.length_append, List.length_singleton] at h1 h2
  have z := h3 F.length f (by simp)
  exact ⟨h1, by omega, z.1, z.2.1, z.2.2.1, z.2.2.2.1, z.2.2.2.2.1⟩
/-- the innermost frame goes -/
theorem zF.pop (h : zF v a (F ++ [f])) : zF (upd v 29 (nI F.length)) a F := by
  obtain ⟨h1, h2, h3⟩ := h
  rw [List.length_append, List.length_singleton] at h2
  exact ⟨upd_s, by omega, fun i g hg => h3 i g (by
    rw [List.getElem?_append_left (List.getElem?_eq_some_iff.mp hg).1]
    exact hg)⟩
/-- keys: both ways look up the same -/
theorem zO.key (h : zO v a o sl) (w : List Nat) : opP sl (keM w) = opP sl (kL w) ∧ opB sl (keM w) = opB sl (kL w) := by
  obtain ⟨_, n2, n3, n4, n5⟩ := h.none
  unfold keM kL
  split
  · exact ⟨rfl, rfl⟩
  · exact ⟨n4.trans n2.symm, n5.trans n3.symm⟩
theorem slP_pos (h : zO v a o sl) {key : Int64} : (0 < slP (opB sl key) ↔ (opB sl key).isSome = true) ∧ (0 < slP (opP sl key) ↔ (opP sl key).isSome = true) := by
  constructor
  · cases hx : opB sl key with
    | none => exact ⟨fun q => absurd q (Nat.lt_irrefl 0), fun q => by cases q⟩
    | some e => exact ⟨fun _ => rfl, fun _ => (h.eB hx).1⟩
  · cases hx : opP sl key with
    | none => exact ⟨fun q => absurd q (Nat.lt_irrefl 0), fun q => by cases q⟩
    | some e => exact ⟨fun _ => rfl, fun _ => (h.eP hx).1⟩
variable {v' : Nat → Int32} {a' : Nat → Nat → Int32} {t w : List Nat} {vs : List (List Nat)}
theorem zU.sc (h : zU t sl v a o vs N Q F) (hv : vS v v' [20, 21, 22, 23, 24, 25, 27, 28]) (ha : aS a a' [42]) : zU t sl v' a' o vs N Q F := by
  obtain ⟨h1, h2, h3, h4, h5, h6⟩ := h
  exact ⟨h1.same hv ha (by decide) (by decide), h2.same hv ha (by decide) (by decide) (by decide) (by decide) (by decide), h3.same hv ha (by decide) (by decide) (by decide) (by decide) (by decide), h4.same hv ha (by decide) (by decide), h5.same hv ha (by decide) (by decide) (by decide) (by decide), h6.same hv ha (by decide) (by decide) (by decide) (by decide) (by decide) (by decide)⟩
theorem zU.nm (h : zU t sl v a o vs N Q F) (hv : vS v v' [9, 12, 25]) (ha : aS a a' [35, 36, 37, 42]) (hn : zN v' a' (nmA N w)) : zU t sl v' a' o vs (nmA N w) Q F := by
  obtain ⟨h1, h2, h3, h4, h5, h6⟩ := h
  exact ⟨h1.same hv ha (by decide) (by decide), h2.same hv ha (by decide) (by decide) (by decide) (by decide) (by decide), hn, (h4.mono (fun j u h => nmA_ext h)).same hv ha (by decide) (by decide), (h5.mono (fun j u h => nmA_ext h)).same hv ha (by decide) (by decide) (by decide) (by decide), h6.same hv ha (by decide) (by decide) (by decide) (by decide) (by decide) (by decide)⟩
theorem zU.ad {Q' : List xIt} (h : zU t sl v a o vs N Q F) (hv : vS v v' [16]) (ha : aS a a' [39, 40, 41]) (hq : zQ v' a' N Q') : zU t sl v' a' o vs N Q' F := by
  obtain ⟨h1, h2, h3, h4, h5, h6⟩ := h
  exact ⟨h1.same hv ha (by decide) (by decide), h2.same hv ha (by decide) (by decide) (by decide) (by decide) (by decide), h3.same hv ha (by decide) (by decide) (by decide) (by decide) (by decide), h4.same hv ha (by decide) (by decide), hq, h6.same hv ha (by decide) (by decide) (by decide) (by decide) (by decide) (by decide)⟩
theorem zU.fr {F' : List xFr} (h : zU t sl v a o vs N Q F) (hv : vS v v' [29]) (ha : aS a a' [43, 44, 45, 46, 47]) (hf : zF v' a' F') : zU t sl v' a' o vs N Q F' := by
  obtain ⟨h1, h2, h3, h4, h5, h6⟩ := h
  exact ⟨h1.same hv ha (by decide) (by decide), h2.same hv ha (by decide) (by decide) (by decide) (by decide) (by decide), h3.same hv ha (by decide) (by decide) (by decide) (by decide) (by decide), h4.same hv ha (by decide) (by decide), h5.same hv ha (by decide) (by decide) (by decide) (by decide), hf⟩
theorem zU.lf {x : Int32} (h : zU t sl v a o vs N Q (F ++ [f])) : zU t sl v (uA a 45 (upd (a 45) F.length x)) o vs N Q (F ++ [sL f x.toInt]) := h.fr (vS.refl _ _) ((aS.u _ _ _).wide (by decide)) h.2.2.2.2.2.setL
theorem zU.bad {N0 : List (List Nat)} {Q0 : List xIt} (h : zU t sl v a o vs N Q F) (h28 : v 28 = 1) (h27 : ∃ e, v 27 = nI e ∧ e ≤ 1000) (hN : ∃ M, N = N0 ++ M) (hQ : ∃ R, Q = Q0 ++ R) : zBd t sl v a o N0 Q0 := ⟨h.1, h.2.1, h28, h27, N, Q, h.2.2.1, h.2.2.2.2.1, hN, hQ⟩
end NF
theorem drop_sfx {t s r w : List Nat} {p : Nat} (hd : t.drop p = s) (hp : p ≤ t.length) (hs : s = w ++ r) : t.drop (t.length - r.length) = r ∧ r.length ≤ t.length := by
  have hl := drop_l2 hd hp
  have h2 := congrArg List.length hs
  rw [List.length_append] at h2
  refine ⟨?_, by omega⟩
  rw [show t.length - r.length = p + w.length by omega, ← List.drop_drop, hd, hs]
  exact List.drop_left
theorem dgH_oz (r : List Nat) : isDg (oz r 0) = dgH r := by
  cases r with
  | nil => decide
  | cons c r => rfl
