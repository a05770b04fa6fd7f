-- CharRow: at, add, cut
/-- what a row answers at a place -/
def cAt (f : Nat → Int32) (N : Nat) (i : Int32) : Int32 := if 0 ≤ i.toInt ∧ i.toInt < N then f i.toNatClampNeg else -1
set_option maxRecDepth 100000 in
theorem p_at {sc : xSc} {d g a cap N : Nat} {A : List xC} {f : Nat → Int32} {i : Int32} {P : xO → xH → Prop} (hr : xRow1 A a cap (nI N) f) (hN : N ≤ cap) (hcap : cap < 2 ^ 31) (ha : ¬ a + 1 = xscr) (k : P (.inl (some (.int (cAt f N i)))) (A, g)) : xM1 sc d 13 [.ref a, .int i] (A, g) P := by
  obtain ⟨h1, h2⟩ := hr
  have hi0 : (0 : Int32).toInt = 0 := rfl
  have hNi : (nI N).toInt = (N : Int) := nI_toInt (by omega)
  have hCi : (nI cap).toInt = (cap : Int) := nI_toInt hcap
  have no : ∀ {x : Int32}, x = -1 → x = cAt f N i → P (.inl (some (.int x))) (A, g) := fun e1 e2 => e2 ▸ k
  unfold xM1
  repeat' first
    | refine xP_s rfl rfl rfl ?_
    | refine xP_get rfl h1 rfl ?_
    | refine xP_alen rfl h2 ha ?_
    | refine xP_if (fun hc => ?_) (fun hc => ?_)
    | refine xP_ret rfl rfl rfl ?_
  all_goals trace_state
  all_goals sorry
