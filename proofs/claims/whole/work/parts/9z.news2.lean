-- the constructors of the class and of the reference
section CM
variable {sc : xSc} {d g : Nat} {P : xO → xH → Prop}
set_option maxRecDepth 100000 in
theorem p_tokNew {c0 c1 c2 c3 c4 c5 c6 c7 c8 c9 c10 c11 c12 c13 c14 c15 c16 c17 : xC} (k : P (.inl none) ([c0, c1, c2, c3, c4, c5, c6, c7, c8, c9, c10, c11, c12, c13, c14, c15, c16, c17, .inr (5, [.ref 1, .ref 5, .ref 19, .ref 20, .ref 21, .ref 22, .ref 23, .ref 24, .int (nI 0), .int (nI 0), .int (nI 0)]), .inl (.int, 120, .inl fun _ => 0), .inl (.int, 120, .inl fun _ => 0), .inl (.int, 120, .inl fun _ => 0), .inl (.int, 120, .inl fun _ => 0), .inl (.int, 120, .inl fun _ => 0), .inl (.long, 120, .inr (.inl fun _ => 0))], 0)) : xM1 sc (d + 2) 82 [.ref 18, .ref 1, .ref 5] ([c0, c1, c2, c3, c4, c5, c6, c7, c8, c9, c10, c11, c12, c13, c14, c15, c16, c17, .inr (5, xdfs.getD 5 [])], 0) P := by
  unfold xM1
  refine xP_s rfl rfl rfl ?_
  refine xP_s rfl rfl rfl ?_
  refine xP_s rfl rfl rfl ?_
  refine xP_s rfl rfl rfl ?_
  refine xP_s rfl rfl rfl ?_
  refine xP_s rfl rfl rfl ?_
  refine xP_s rfl rfl rfl ?_
  refine xP_s rfl rfl rfl ?_
  show xP sc (d + 2) 82 14 [(0, .ref 18), (1, .ref 1), (2, .ref 5)] [] ([c0, c1, c2, c3, c4, c5, c6, c7, c8, c9, c10, c11, c12, c13, c14, c15, c16, c17, .inr (5, (((xdfs.getD 5 []).set 0 (.ref 1)).set 1 (.ref 5)))], 0) P
  refine xP_s rfl rfl rfl ?_
  refine xP_s rfl rfl rfl ?_
  refine xP_s rfl rfl rfl ?_
  refine xP_s rfl rfl rfl ?_
  show xP sc (d + 2) 82 22 [(0, .ref 18), (1, .ref 1), (2, .ref 5)] [] ([c0, c1, c2, c3, c4, c5, c6, c7, c8, c9, c10, c11, c12, c13, c14, c15, c16, c17, .inr (5, ((((xdfs.getD 5 []).set 0 (.ref 1)).set 1 (.ref 5)).set 2 (.ref 19))), .inl (.int, 120, .inl fun _ => 0)], 0) P
  refine xP_s rfl rfl rfl ?_
  refine xP_s rfl rfl rfl ?_
  refine xP_s rfl rfl rfl ?_
  refine xP_s rfl rfl rfl ?_
  show xP sc (d + 2) 82 30 [(0, .ref 18), (1, .ref 1), (2, .ref 5)] [] ([c0, c1, c2, c3, c4, c5, c6, c7, c8, c9, c10, c11, c12, c13, c14, c15, c16, c17, .inr (5, (((((xdfs.getD 5 []).set 0 (.ref 1)).set 1 (.ref 5)).set 2 (.ref 19)).set 3 (.ref 20))), .inl (.int, 120, .inl fun _ => 0), .inl (.int, 120, .inl fun _ => 0)], 0) P
  refine xP_s rfl rfl rfl ?_
  refine xP_s rfl rfl rfl ?_
  refine xP_s rfl rfl rfl ?_
  refine xP_s rfl rfl rfl ?_
  show xP sc (d + 2) 82 38 [(0, .ref 18), (1, .ref 1), (2, .ref 5)] [] ([c0, c1, c2, c3, c4, c5, c6, c7, c8, c9, c10, c11, c12, c13, c14, c15, c16, c17, .inr (5, ((((((xdfs.getD 5 []).set 0 (.ref 1)).set 1 (.ref 5)).set 2 (.ref 19)).set 3 (.ref 20)).set 4 (.ref 21))), .inl (.int, 120, .inl fun _ => 0), .inl (.int, 120, .inl fun _ => 0), .inl (.int, 120, .inl fun _ => 0)], 0) P
  refine xP_s rfl rfl rfl ?_
  refine xP_s rfl rfl rfl ?_
  refine xP_s rfl rfl rfl ?_
  refine xP_s rfl rfl rfl ?_
  show xP sc (d + 2) 82 46 [(0, .ref 18), (1, .ref 1), (2, .ref 5)] [] ([c0, c1, c2, c3, c4, c5, c6, c7, c8, c9, c10, c11, c12, c13, c14, c15, c16, c17, .inr (5, (((((((xdfs.getD 5 []).set 0 (.ref 1)).set 1 (.ref 5)).set 2 (.ref 19)).set 3 (.ref 20)).set 4 (.ref 21)).set 5 (.ref 22))), .inl (.int, 120, .inl fun _ => 0), .inl (.int, 120, .inl fun _ => 0), .inl (.int, 120, .inl fun _ => 0), .inl (.int, 120, .inl fun _ => 0)], 0) P
  refine xP_s rfl rfl rfl ?_
  refine xP_s rfl rfl rfl ?_
  refine xP_s rfl rfl rfl ?_
  refine xP_s rfl rfl rfl ?_
  show xP sc (d + 2) 82 54 [(0, .ref 18), (1, .ref 1), (2, .ref 5)] [] ([c0, c1, c2, c3, c4, c5, c6, c7, c8, c9, c10, c11, c12, c13, c14, c15, c16, c17, .inr (5, ((((((((xdfs.getD 5 []).set 0 (.ref 1)).set 1 (.ref 5)).set 2 (.ref 19)).set 3 (.ref 20)).set 4 (.ref 21)).set 5 (.ref 22)).set 6 (.ref 23))), .inl (.int, 120, .inl fun _ => 0), .inl (.int, 120, .inl fun _ => 0), .inl (.int, 120, .inl fun _ => 0), .inl (.int, 120, .inl fun _ => 0), .inl (.int, 120, .inl fun _ => 0)], 0) P
  refine xP_s rfl rfl rfl ?_
  refine xP_s rfl rfl rfl ?_
  refine xP_s rfl rfl rfl ?_
  refine xP_s rfl rfl rfl ?_
  show xP sc (d + 2) 82 62 [(0, .ref 18), (1, .ref 1), (2, .ref 5)] [] ([c0, c1, c2, c3, c4, c5, c6, c7, c8, c9, c10, c11, c12, c13, c14, c15, c16, c17, .inr (5, (((((((((xdfs.getD 5 []).set 0 (.ref 1)).set 1 (.ref 5)).set 2 (.ref 19)).set 3 (.ref 20)).set 4 (.ref 21)).set 5 (.ref 22)).set 6 (.ref 23)).set 7 (.ref 24))), .inl (.int, 120, .inl fun _ => 0), .inl (.int, 120, .inl fun _ => 0), .inl (.int, 120, .inl fun _ => 0), .inl (.int, 120, .inl fun _ => 0), .inl (.int, 120, .inl fun _ => 0), .inl (.long, 120, .inr (.inl fun _ => 0))], 0) P
  refine xP_s rfl rfl rfl ?_
  refine xP_s rfl rfl rfl ?_
  refine xP_s rfl rfl rfl ?_
  refine xP_s rfl rfl rfl ?_
  refine xP_s rfl rfl rfl ?_
  refine xP_s rfl rfl rfl ?_
  refine xP_s rfl rfl rfl ?_
  refine xP_s rfl rfl rfl ?_
  refine xP_s rfl rfl rfl ?_
  refine xP_ret rfl rfl rfl ?_
  exact k
/-- the class's cells at first -/
def B0 (fk : Nat → Int64) (fp ft f6 : Nat → Int32) : List xC := [.inr (0, [.ref 1, .ref 3, .ref 5, .ref 7, .ref 11, .ref 18, .ref 25, .ref 26, .ref 27, .int (nI 0)]), .inr (1, [.ref 2, .int (nI ([] : List Nat).length)]), .inl (.char, 120, .inl fun _ => 0), .inr (1, [.ref 4, .int (nI ([] : List Nat).length)]), .inl (.char, 1200, .inl fun _ => 0), .inr (1, [.ref 6, .int (nI 6)]), .inl (.char, 4926, .inl f6), .inr (2, [.ref 8, .ref 9, .ref 10, .int (nI (sK 14).length)]), .inl (.long, 25, .inr (.inl fk)), .inl (.int, 25, .inl fp), .inl (.int, 25, .inl ft), .inr (4, [.ref 5, .ref 12, .ref 13, .ref 14, .ref 15, .ref 16, .ref 17, .int (nI 0)]), .inl (.int, 840, .inl fun _ => 0), .inl (.int, 840, .inl fun _ => 0), .inl (.int, 840, .inl fun _ => 0), .inl (.int, 840, .inl fun _ => 0), .inl (.int, 840, .inl fun _ => 0), .inl (.int, 840, .inl fun _ => 0), .inr (5, [.ref 1, .ref 5, .ref 19, .ref 20, .ref 21, .ref 22, .ref 23, .ref 24, .int (nI 0), .int (nI 0), .int (nI 0)]), .inl (.int, 120, .inl fun _ => 0), .inl (.int, 120, .inl fun _ => 0), .inl (.int, 120, .inl fun _ => 0), .inl (.int, 120, .inl fun _ => 0), .inl (.int, 120, .inl fun _ => 0), .inl (.long, 120, .inr (.inl fun _ => 0)), .inr (3, [.ref 18, .ref 7, .ref 11, .int (nI 0), .int (nI 0)]), .inr (6, [.ref 3, .ref 5, .ref 7, .ref 11]), .inl (.int, 40, .inl fun _ => 0)]
set_option maxRecDepth 100000 in
theorem p_trNew (k : ∀ fk fp ft f6, xOp (B0 fk fp ft f6) (sK 14) → (∀ (i c : Nat), nm6[i]? = some c → c < 128 ∧ f6 i = nI c) → P (.inl none) (B0 fk fp ft f6, 0)) : xM1 sc (d + 60) 0 [.ref 0] ([.inr (0, xdfs.getD 0 [])], 0) P := by
  unfold xM1
  refine xP_s rfl rfl rfl ?_
  refine xP_s rfl rfl rfl ?_
  show xP sc (d + 60) 0 4 [(0, .ref 0)] [] ([.inr (0, (xdfs.getD 0 []))], 0) P
  refine xP_s rfl rfl rfl ?_
  refine xP_s rfl rfl rfl ?_
  refine xP_s rfl rfl rfl ?_
  refine xP_s rfl rfl rfl ?_
  refine xP_call rfl rfl rfl ?_
  unfold xM1
  refine xP_s rfl rfl rfl ?_
  refine xP_s rfl rfl rfl ?_
  refine xP_s rfl rfl rfl ?_
  refine xP_s rfl rfl rfl ?_
  refine xP_s rfl rfl rfl ?_
  refine xP_s rfl rfl rfl ?_
  refine xP_s rfl rfl rfl ?_
  refine xP_s rfl rfl rfl ?_
  refine xP_s rfl rfl rfl ?_
  refine xP_s rfl rfl rfl ?_
  refine xP_s rfl rfl rfl ?_
  refine xP_s rfl rfl rfl ?_
  refine xP_ret rfl rfl rfl ?_
  refine xP_s rfl rfl rfl ?_
  show xP sc (d + 60) 0 17 [(0, .ref 0)] [] ([.inr (0, ((xdfs.getD 0 []).set 0 (.ref 1))), .inr (1, [.ref 2, .int (nI ([] : List Nat).length)]), .inl (.char, 120, .inl fun _ => 0)], 0) P
  refine xP_s rfl rfl rfl ?_
  refine xP_s rfl rfl rfl ?_
  refine xP_s rfl rfl rfl ?_
  refine xP_s rfl rfl rfl ?_
  refine xP_call rfl rfl rfl ?_
  unfold xM1
  refine xP_s rfl rfl rfl ?_
  refine xP_s rfl rfl rfl ?_
  refine xP_s rfl rfl rfl ?_
  refine xP_s rfl rfl rfl ?_
  refine xP_s rfl rfl rfl ?_
  refine xP_s rfl rfl rfl ?_
  refine xP_s rfl rfl rfl ?_
  refine xP_s rfl rfl rfl ?_
  refine xP_s rfl rfl rfl ?_
  refine xP_s rfl rfl rfl ?_
  refine xP_s rfl rfl rfl ?_
  refine xP_s rfl rfl rfl ?_
  refine xP_ret rfl rfl rfl ?_
  refine xP_s rfl rfl rfl ?_
  show xP sc (d + 60) 0 31 [(0, .ref 0)] [] ([.inr (0, (((xdfs.getD 0 []).set 0 (.ref 1)).set 1 (.ref 3))), .inr (1, [.ref 2, .int (nI ([] : List Nat).length)]), .inl (.char, 120, .inl fun _ => 0), .inr (1, [.ref 4, .int (nI ([] : List Nat).length)]), .inl (.char, 1200, .inl fun _ => 0)], 0) P
  refine xP_s rfl rfl rfl ?_
  refine xP_s rfl rfl rfl ?_
  refine xP_s rfl rfl rfl ?_
  refine xP_s rfl rfl rfl ?_
  refine xP_call rfl rfl rfl ?_
  unfold xM1
  refine xP_s rfl rfl rfl ?_
  refine xP_s rfl rfl rfl ?_
  refine xP_s rfl rfl rfl ?_
  refine xP_s rfl rfl rfl ?_
  refine xP_s rfl rfl rfl ?_
  refine xP_s rfl rfl rfl ?_
  refine xP_s rfl rfl rfl ?_
  refine xP_s rfl rfl rfl ?_
  refine xP_s rfl rfl rfl ?_
  refine xP_s rfl rfl rfl ?_
  refine xP_s rfl rfl rfl ?_
  refine xP_s rfl rfl rfl ?_
  refine xP_ret rfl rfl rfl ?_
  refine xP_s rfl rfl rfl ?_
  show xP sc (d + 60) 0 45 [(0, .ref 0)] [] ([.inr (0, ((((xdfs.getD 0 []).set 0 (.ref 1)).set 1 (.ref 3)).set 2 (.ref 5))), .inr (1, [.ref 2, .int (nI ([] : List Nat).length)]), .inl (.char, 120, .inl fun _ => 0), .inr (1, [.ref 4, .int (nI ([] : List Nat).length)]), .inl (.char, 1200, .inl fun _ => 0), .inr (1, [.ref 6, .int (nI ([] : List Nat).length)]), .inl (.char, 4926, .inl fun _ => 0)], 0) P
  refine xP_s rfl rfl rfl ?_
  refine xP_s rfl rfl rfl ?_
  refine xP_s rfl rfl rfl ?_
  refine xP_call rfl rfl rfl (p_opsNew (fun fk fp ft ho => ?_))
  refine xP_s rfl rfl rfl ?_
  show xP sc (d + 60) 0 56 [(0, .ref 0)] [] ([.inr (0, (((((xdfs.getD 0 []).set 0 (.ref 1)).set 1 (.ref 3)).set 2 (.ref 5)).set 3 (.ref 7))), .inr (1, [.ref 2, .int (nI ([] : List Nat).length)]), .inl (.char, 120, .inl fun _ => 0), .inr (1, [.ref 4, .int (nI ([] : List Nat).length)]), .inl (.char, 1200, .inl fun _ => 0), .inr (1, [.ref 6, .int (nI ([] : List Nat).length)]), .inl (.char, 4926, .inl fun _ => 0), .inr (2, [.ref 8, .ref 9, .ref 10, .int (nI (sK 14).length)]), .inl (.long, 25, .inr (.inl fk)), .inl (.int, 25, .inl fp), .inl (.int, 25, .inl ft)], 0) P
  refine xP_s rfl rfl rfl ?_
  refine xP_s rfl rfl rfl ?_
  refine xP_s rfl rfl rfl ?_
  refine xP_s rfl rfl rfl ?_
  refine xP_s rfl rfl rfl ?_
  refine xP_call rfl rfl rfl (p_partsNew (fun f6 hf6 => ?_))
  refine xP_s rfl rfl rfl ?_
  show xP sc (d + 60) 0 71 [(0, .ref 0)] [] ([.inr (0, ((((((xdfs.getD 0 []).set 0 (.ref 1)).set 1 (.ref 3)).set 2 (.ref 5)).set 3 (.ref 7)).set 4 (.ref 11))), .inr (1, [.ref 2, .int (nI ([] : List Nat).length)]), .inl (.char, 120, .inl fun _ => 0), .inr (1, [.ref 4, .int (nI ([] : List Nat).length)]), .inl (.char, 1200, .inl fun _ => 0), .inr (1, [.ref 6, .int (nI 6)]), .inl (.char, 4926, .inl f6), .inr (2, [.ref 8, .ref 9, .ref 10, .int (nI (sK 14).length)]), .inl (.long, 25, .inr (.inl fk)), .inl (.int, 25, .inl fp), .inl (.int, 25, .inl ft), .inr (4, [.ref 5, .ref 12, .ref 13, .ref 14, .ref 15, .ref 16, .ref 17, .int (nI 0)]), .inl (.int, 840, .inl fun _ => 0), .inl (.int, 840, .inl fun _ => 0), .inl (.int, 840, .inl fun _ => 0), .inl (.int, 840, .inl fun _ => 0), .inl (.int, 840, .inl fun _ => 0), .inl (.int, 840, .inl fun _ => 0)], 0) P
  refine xP_s rfl rfl rfl ?_
  refine xP_s rfl rfl rfl ?_
  refine xP_s rfl rfl rfl ?_
  refine xP_s rfl rfl rfl ?_
  refine xP_s rfl rfl rfl ?_
  refine xP_s rfl rfl rfl ?_
  refine xP_s rfl rfl rfl ?_
  refine xP_call rfl rfl rfl (p_tokNew ?_)
  refine xP_s rfl rfl rfl ?_
  show xP sc (d + 60) 0 90 [(0, .ref 0)] [] ([.inr (0, (((((((xdfs.getD 0 []).set 0 (.ref 1)).set 1 (.ref 3)).set 2 (.ref 5)).set 3 (.ref 7)).set 4 (.ref 11)).set 5 (.ref 18))), .inr (1, [.ref 2, .int (nI ([] : List Nat).length)]), .inl (.char, 120, .inl fun _ => 0), .inr (1, [.ref 4, .int (nI ([] : List Nat).length)]), .inl (.char, 1200, .inl fun _ => 0), .inr (1, [.ref 6, .int (nI 6)]), .inl (.char, 4926, .inl f6), .inr (2, [.ref 8, .ref 9, .ref 10, .int (nI (sK 14).length)]), .inl (.long, 25, .inr (.inl fk)), .inl (.int, 25, .inl fp), .inl (.int, 25, .inl ft), .inr (4, [.ref 5, .ref 12, .ref 13, .ref 14, .ref 15, .ref 16, .ref 17, .int (nI 0)]), .inl (.int, 840, .inl fun _ => 0), .inl (.int, 840, .inl fun _ => 0), .inl (.int, 840, .inl fun _ => 0), .inl (.int, 840, .inl fun _ => 0), .inl (.int, 840, .inl fun _ => 0), .inl (.int, 840, .inl fun _ => 0), .inr (5, [.ref 1, .ref 5, .ref 19, .ref 20, .ref 21, .ref 22, .ref 23, .ref 24, .int (nI 0), .int (nI 0), .int (nI 0)]), .inl (.int, 120, .inl fun _ => 0), .inl (.int, 120, .inl fun _ => 0), .inl (.int, 120, .inl fun _ => 0), .inl (.int, 120, .inl fun _ => 0), .inl (.int, 120, .inl fun _ => 0), .inl (.long, 120, .inr (.inl fun _ => 0))], 0) P
  refine xP_s rfl rfl rfl ?_
  refine xP_s rfl rfl rfl ?_
  refine xP_s rfl rfl rfl ?_
  refine xP_s rfl rfl rfl ?_
  refine xP_s rfl rfl rfl ?_
  refine xP_s rfl rfl rfl ?_
  refine xP_s rfl rfl rfl ?_
  refine xP_s rfl rfl rfl ?_
  refine xP_s rfl rfl rfl ?_
  refine xP_call rfl rfl rfl ?_
  unfold xM1
  refine xP_s rfl rfl rfl ?_
  refine xP_s rfl rfl rfl ?_
  refine xP_s rfl rfl rfl ?_
  refine xP_s rfl rfl rfl ?_
  refine xP_s rfl rfl rfl ?_
  refine xP_s rfl rfl rfl ?_
  refine xP_s rfl rfl rfl ?_
  refine xP_s rfl rfl rfl ?_
  refine xP_s rfl rfl rfl ?_
  refine xP_s rfl rfl rfl ?_
  refine xP_s rfl rfl rfl ?_
  refine xP_s rfl rfl rfl ?_
  refine xP_s rfl rfl rfl ?_
  refine xP_s rfl rfl rfl ?_
  refine xP_s rfl rfl rfl ?_
  refine xP_s rfl rfl rfl ?_
  refine xP_s rfl rfl rfl ?_
  refine xP_ret rfl rfl rfl ?_
  refine xP_s rfl rfl rfl ?_
  show xP sc (d + 60) 0 113 [(0, .ref 0)] [] ([.inr (0, ((((((((xdfs.getD 0 []).set 0 (.ref 1)).set 1 (.ref 3)).set 2 (.ref 5)).set 3 (.ref 7)).set 4 (.ref 11)).set 5 (.ref 18)).set 6 (.ref 25))), .inr (1, [.ref 2, .int (nI ([] : List Nat).length)]), .inl (.char, 120, .inl fun _ => 0), .inr (1, [.ref 4, .int (nI ([] : List Nat).length)]), .inl (.char, 1200, .inl fun _ => 0), .inr (1, [.ref 6, .int (nI 6)]), .inl (.char, 4926, .inl f6), .inr (2, [.ref 8, .ref 9, .ref 10, .int (nI (sK 14).length)]), .inl (.long, 25, .inr (.inl fk)), .inl (.int, 25, .inl fp), .inl (.int, 25, .inl ft), .inr (4, [.ref 5, .ref 12, .ref 13, .ref 14, .ref 15, .ref 16, .ref 17, .int (nI 0)]), .inl (.int, 840, .inl fun _ => 0), .inl (.int, 840, .inl fun _ => 0), .inl (.int, 840, .inl fun _ => 0), .inl (.int, 840, .inl fun _ => 0), .inl (.int, 840, .inl fun _ => 0), .inl (.int, 840, .inl fun _ => 0), .inr (5, [.ref 1, .ref 5, .ref 19, .ref 20, .ref 21, .ref 22, .ref 23, .ref 24, .int (nI 0), .int (nI 0), .int (nI 0)]), .inl (.int, 120, .inl fun _ => 0), .inl (.int, 120, .inl fun _ => 0), .inl (.int, 120, .inl fun _ => 0), .inl (.int, 120, .inl fun _ => 0), .inl (.int, 120, .inl fun _ => 0), .inl (.long, 120, .inr (.inl fun _ => 0)), .inr (3, [.ref 18, .ref 7, .ref 11, .int (nI 0), .int (nI 0)])], 0) P
  refine xP_s rfl rfl rfl ?_
  refine xP_s rfl rfl rfl ?_
  refine xP_s rfl rfl rfl ?_
  refine xP_s rfl rfl rfl ?_
  refine xP_s rfl rfl rfl ?_
  refine xP_s rfl rfl rfl ?_
  refine xP_s rfl rfl rfl ?_
  refine xP_s rfl rfl rfl ?_
  refine xP_s rfl rfl rfl ?_
  refine xP_s rfl rfl rfl ?_
  refine xP_s rfl rfl rfl ?_
  refine xP_call rfl rfl rfl ?_
  unfold xM1
  refine xP_s rfl rfl rfl ?_
  refine xP_s rfl rfl rfl ?_
  refine xP_s rfl rfl rfl ?_
  refine xP_s rfl rfl rfl ?_
  refine xP_s rfl rfl rfl ?_
  refine xP_s rfl rfl rfl ?_
  refine xP_s rfl rfl rfl ?_
  refine xP_s rfl rfl rfl ?_
  refine xP_s rfl rfl rfl ?_
  refine xP_s rfl rfl rfl ?_
  refine xP_s rfl rfl rfl ?_
  refine xP_s rfl rfl rfl ?_
  refine xP_s rfl rfl rfl ?_
  refine xP_s rfl rfl rfl ?_
  refine xP_ret rfl rfl rfl ?_
  refine xP_s rfl rfl rfl ?_
  show xP sc (d + 60) 0 140 [(0, .ref 0)] [] ([.inr (0, (((((((((xdfs.getD 0 []).set 0 (.ref 1)).set 1 (.ref 3)).set 2 (.ref 5)).set 3 (.ref 7)).set 4 (.ref 11)).set 5 (.ref 18)).set 6 (.ref 25)).set 7 (.ref 26))), .inr (1, [.ref 2, .int (nI ([] : List Nat).length)]), .inl (.char, 120, .inl fun _ => 0), .inr (1, [.ref 4, .int (nI ([] : List Nat).length)]), .inl (.char, 1200, .inl fun _ => 0), .inr (1, [.ref 6, .int (nI 6)]), .inl (.char, 4926, .inl f6), .inr (2, [.ref 8, .ref 9, .ref 10, .int (nI (sK 14).length)]), .inl (.long, 25, .inr (.inl fk)), .inl (.int, 25, .inl fp), .inl (.int, 25, .inl ft), .inr (4, [.ref 5, .ref 12, .ref 13, .ref 14, .ref 15, .ref 16, .ref 17, .int (nI 0)]), .inl (.int, 840, .inl fun _ => 0), .inl (.int, 840, .inl fun _ => 0), .inl (.int, 840, .inl fun _ => 0), .inl (.int, 840, .inl fun _ => 0), .inl (.int, 840, .inl fun _ => 0), .inl (.int, 840, .inl fun _ => 0), .inr (5, [.ref 1, .ref 5, .ref 19, .ref 20, .ref 21, .ref 22, .ref 23, .ref 24, .int (nI 0), .int (nI 0), .int (nI 0)]), .inl (.int, 120, .inl fun _ => 0), .inl (.int, 120, .inl fun _ => 0), .inl (.int, 120, .inl fun _ => 0), .inl (.int, 120, .inl fun _ => 0), .inl (.int, 120, .inl fun _ => 0), .inl (.long, 120, .inr (.inl fun _ => 0)), .inr (3, [.ref 18, .ref 7, .ref 11, .int (nI 0), .int (nI 0)]), .inr (6, [.ref 3, .ref 5, .ref 7, .ref 11])], 0) P
  refine xP_s rfl rfl rfl ?_
  refine xP_s rfl rfl rfl ?_
  refine xP_s rfl rfl rfl ?_
  refine xP_s rfl rfl rfl ?_
  show xP sc (d + 60) 0 148 [(0, .ref 0)] [] ([.inr (0, ((((((((((xdfs.getD 0 []).set 0 (.ref 1)).set 1 (.ref 3)).set 2 (.ref 5)).set 3 (.ref 7)).set 4 (.ref 11)).set 5 (.ref 18)).set 6 (.ref 25)).set 7 (.ref 26)).set 8 (.ref 27))), .inr (1, [.ref 2, .int (nI ([] : List Nat).length)]), .inl (.char, 120, .inl fun _ => 0), .inr (1, [.ref 4, .int (nI ([] : List Nat).length)]), .inl (.char, 1200, .inl fun _ => 0), .inr (1, [.ref 6, .int (nI 6)]), .inl (.char, 4926, .inl f6), .inr (2, [.ref 8, .ref 9, .ref 10, .int (nI (sK 14).length)]), .inl (.long, 25, .inr (.inl fk)), .inl (.int, 25, .inl fp), .inl (.int, 25, .inl ft), .inr (4, [.ref 5, .ref 12, .ref 13, .ref 14, .ref 15, .ref 16, .ref 17, .int (nI 0)]), .inl (.int, 840, .inl fun _ => 0), .inl (.int, 840, .inl fun _ => 0), .inl (.int, 840, .inl fun _ => 0), .inl (.int, 840, .inl fun _ => 0), .inl (.int, 840, .inl fun _ => 0), .inl (.int, 840, .inl fun _ => 0), .inr (5, [.ref 1, .ref 5, .ref 19, .ref 20, .ref 21, .ref 22, .ref 23, .ref 24, .int (nI 0), .int (nI 0), .int (nI 0)]), .inl (.int, 120, .inl fun _ => 0), .inl (.int, 120, .inl fun _ => 0), .inl (.int, 120, .inl fun _ => 0), .inl (.int, 120, .inl fun _ => 0), .inl (.int, 120, .inl fun _ => 0), .inl (.long, 120, .inr (.inl fun _ => 0)), .inr (3, [.ref 18, .ref 7, .ref 11, .int (nI 0), .int (nI 0)]), .inr (6, [.ref 3, .ref 5, .ref 7, .ref 11]), .inl (.int, 40, .inl fun _ => 0)], 0) P
  refine xP_s rfl rfl rfl ?_
  refine xP_s rfl rfl rfl ?_
  refine xP_s rfl rfl rfl ?_
  refine xP_ret rfl rfl rfl ?_
  obtain ⟨gk, gp, gt, q7, q8, q9, q10, q11, q12⟩ := ho
  refine k fk fp ft f6 ⟨fk, fp, ft, rfl, rfl, rfl, rfl, q11, fun i e hi => ?_⟩ hf6
  cases q8
  cases q9
  cases q10
  exact q12 i e hi
set_option maxRecDepth 100000 in
theorem p_refNew {B : List xC} {c0 c1 c2 c3 c4 c5 c6 c7 c8 c9 c10 c11 c12 c13 c14 c15 c16 c17 c18 c19 c20 c21 c22 c23 c24 c25 c26 c27 : xC} (eB : B = [c0, c1, c2, c3, c4, c5, c6, c7, c8, c9, c10, c11, c12, c13, c14, c15, c16, c17, c18, c19, c20, c21, c22, c23, c24, c25, c26, c27]) (k : ∀ v a o, zOC v a o (sK 14) → vS (fun _ => 0) v [3] → aS (fun _ _ => 0) a [31, 32, 33, 34] → P (.inl none) (mH B [] v a o, 0)) : xM1 sc (d + 4) 130 [.ref 28] (B ++ [.inr (7, xdfs.getD 7 [])], 0) P := by
  have hB : B.length = 28 := by rw [eB]; rfl
  have go : xP sc (d + 4) 130 208 [(0, .ref 28)] [] (mH B [] (fun _ => 0) (fun _ _ => 0) (fun _ => 0), 0) P := by
    have z0 : zOC (fun _ => 0) (fun _ _ => 0) (fun _ => 0) (sK 0) := by
      refine ⟨0, ⟨by decide, rfl, fun i j hi => by omega, fun i hi => by omega, fun key _ => ?_, rfl, by decide⟩, rfl, fun i hi => by omega, by decide⟩
      have e1 : opP (sK 0) key = none := by
        unfold opP sK slE fnd
        simp [isPre, fnd]
      refine ⟨e1, fun q => ?_⟩
      unfold opB sK slE fnd
      simp [isPre, fnd, Ne.symm q]
    have v0 : vS (fun _ => (0 : Int32)) (fun _ => 0) [3] := vS.refl _ _
    have a0 : aS (fun _ _ => (0 : Int32)) (fun _ _ => 0) [31, 32, 33, 34] := aS.refl _ _
    refine xP_s rfl rfl rfl ?_
    refine xP_s rfl rfl rfl ?_
    refine xP_s rfl rfl rfl ?_
    refine xP_s rfl rfl rfl ?_
    refine xP_call rfl rfl rfl (q_pack (r := 11578) (by decide) ?_)
    refine xP_s rfl rfl rfl ?_
    refine xP_s rfl rfl rfl ?_
    refine xP_cv rfl rfl rfl rfl rfl (mH_28 hB) (q_tell2 (sl := sK 0) (p := 1200) (ty := 0) (key := 11578) hB z0 (uS_of (by decide)) (by decide) (by decide) (by decide) (by decide) (by decide) (by decide) (by decide) (fun v1 a1 o1 w1 w2 w3 => ?_))
    have z1 : zOC v1 a1 o1 (sK 1) := w1
    have v1' := v0.trans w2
    have a1' := a0.trans w3
    clear w1 w2 w3
    refine xP_s rfl rfl rfl ?_
    refine xP_s rfl rfl rfl ?_
    refine xP_s rfl rfl rfl ?_
    refine xP_s rfl rfl rfl ?_
    refine xP_call rfl rfl rfl (q_pack (r := 11578) (by decide) ?_)
    refine xP_s rfl rfl rfl ?_
    refine xP_s rfl rfl rfl ?_
    refine xP_cv rfl rfl rfl rfl rfl (mH_28 hB) (q_tell2 (sl := sK 1) (p := 1200) (ty := 4) (key := 11578) hB z1 (uS_of (by decide)) (by decide) (by decide) (by decide) (by decide) (by decide) (by decide) (by decide) (fun v2 a2 o2 w1 w2 w3 => ?_))
    have z2 : zOC v2 a2 o2 (sK 2) := w1
    have v2' := v1'.trans w2
    have a2' := a1'.trans w3
    clear w1 w2 w3
    refine xP_s rfl rfl rfl ?_
    refine xP_s rfl rfl rfl ?_
    refine xP_s rfl rfl rfl ?_
    refine xP_s rfl rfl rfl ?_
    refine xP_call rfl rfl rfl (q_pack (r := 59) (by decide) ?_)
    refine xP_s rfl rfl rfl ?_
    refine xP_s rfl rfl rfl ?_
    refine xP_cv rfl rfl rfl rfl rfl (mH_28 hB) (q_tell2 (sl := sK 2) (p := 1100) (ty := 1) (key := 59) hB z2 (uS_of (by decide)) (by decide) (by decide) (by decide) (by decide) (by decide) (by decide) (by decide) (fun v3 a3 o3 w1 w2 w3 => ?_))
    have z3 : zOC v3 a3 o3 (sK 3) := w1
    have v3' := v2'.trans w2
    have a3' := a2'.trans w3
    clear w1 w2 w3
    refine xP_s rfl rfl rfl ?_
    refine xP_s rfl rfl rfl ?_
    refine xP_s rfl rfl rfl ?_
    refine xP_s rfl rfl rfl ?_
    refine xP_call rfl rfl rfl (q_pack (r := 15917) (by decide) ?_)
    refine xP_s rfl rfl rfl ?_
    refine xP_s rfl rfl rfl ?_
    refine xP_cv rfl rfl rfl rfl rfl (mH_28 hB) (q_tell2 (sl := sK 3) (p := 1050) (ty := 1) (key := 15917) hB z3 (uS_of (by decide)) (by decide) (by decide) (by decide) (by decide) (by decide) (by decide) (by decide) (fun v4 a4 o4 w1 w2 w3 => ?_))
    have z4 : zOC v4 a4 o4 (sK 4) := w1
    have v4' := v3'.trans w2
    have a4' := a3'.trans w3
    clear w1 w2 w3
    refine xP_s rfl rfl rfl ?_
    refine xP_s rfl rfl rfl ?_
    refine xP_s rfl rfl rfl ?_
    refine xP_s rfl rfl rfl ?_
    refine xP_call rfl rfl rfl (q_pack (r := 11100) (by decide) ?_)
    refine xP_s rfl rfl rfl ?_
    refine xP_s rfl rfl rfl ?_
    refine xP_cv rfl rfl rfl rfl rfl (mH_28 hB) (q_tell2 (sl := sK 4) (p := 900) (ty := 3) (key := 11100) hB z4 (uS_of (by decide)) (by decide) (by decide) (by decide) (by decide) (by decide) (by decide) (by decide) (fun v5 a5 o5 w1 w2 w3 => ?_))
    have z5 : zOC v5 a5 o5 (sK 5) := w1
    have v5' := v4'.trans w2
    have a5' := a4'.trans w3
    clear w1 w2 w3
    refine xP_s rfl rfl rfl ?_
    refine xP_s rfl rfl rfl ?_
    refine xP_s rfl rfl rfl ?_
    refine xP_s rfl rfl rfl ?_
    refine xP_call rfl rfl rfl (q_pack (r := 61) (by decide) ?_)
    refine xP_s rfl rfl rfl ?_
    refine xP_s rfl rfl rfl ?_
    refine xP_cv rfl rfl rfl rfl rfl (mH_28 hB) (q_tell2 (sl := sK 5) (p := 700) (ty := 0) (key := 61) hB z5 (uS_of (by decide)) (by decide) (by decide) (by decide) (by decide) (by decide) (by decide) (by decide) (fun v6 a6 o6 w1 w2 w3 => ?_))
    have z6 : zOC v6 a6 o6 (sK 6) := w1
    have v6' := v5'.trans w2
    have a6' := a5'.trans w3
    clear w1 w2 w3
    refine xP_s rfl rfl rfl ?_
    refine xP_s rfl rfl rfl ?_
    refine xP_s rfl rfl rfl ?_
    refine xP_s rfl rfl rfl ?_
    refine xP_call rfl rfl rfl (q_pack (r := 60) (by decide) ?_)
    refine xP_s rfl rfl rfl ?_
    refine xP_s rfl rfl rfl ?_
    refine xP_cv rfl rfl rfl rfl rfl (mH_28 hB) (q_tell2 (sl := sK 6) (p := 700) (ty := 0) (key := 60) hB z6 (uS_of (by decide)) (by decide) (by decide) (by decide) (by decide) (by decide) (by decide) (by decide) (fun v7 a7 o7 w1 w2 w3 => ?_))
    have z7 : zOC v7 a7 o7 (sK 7) := w1
    have v7' := v6'.trans w2
    have a7' := a6'.trans w3
    clear w1 w2 w3
    refine xP_s rfl rfl rfl ?_
    refine xP_s rfl rfl rfl ?_
    refine xP_s rfl rfl rfl ?_
    refine xP_s rfl rfl rfl ?_
    refine xP_call rfl rfl rfl (q_pack (r := 29545) (by decide) ?_)
    refine xP_s rfl rfl rfl ?_
    refine xP_s rfl rfl rfl ?_
    refine xP_cv rfl rfl rfl rfl rfl (mH_28 hB) (q_tell2 (sl := sK 7) (p := 700) (ty := 0) (key := 29545) hB z7 (uS_of (by decide)) (by decide) (by decide) (by decide) (by decide) (by decide) (by decide) (by decide) (fun v8 a8 o8 w1 w2 w3 => ?_))
    have z8 : zOC v8 a8 o8 (sK 8) := w1
    have v8' := v7'.trans w2
    have a8' := a7'.trans w3
    clear w1 w2 w3
    refine xP_s rfl rfl rfl ?_
    refine xP_s rfl rfl rfl ?_
    refine xP_s rfl rfl rfl ?_
    refine xP_s rfl rfl rfl ?_
    refine xP_call rfl rfl rfl (q_pack (r := 43) (by decide) ?_)
    refine xP_s rfl rfl rfl ?_
    refine xP_s rfl rfl rfl ?_
    refine xP_cv rfl rfl rfl rfl rfl (mH_28 hB) (q_tell2 (sl := sK 8) (p := 500) (ty := 2) (key := 43) hB z8 (uS_of (by decide)) (by decide) (by decide) (by decide) (by decide) (by decide) (by decide) (by decide) (fun v9 a9 o9 w1 w2 w3 => ?_))
    have z9 : zOC v9 a9 o9 (sK 9) := w1
    have v9' := v8'.trans w2
    have a9' := a8'.trans w3
    clear w1 w2 w3
    refine xP_s rfl rfl rfl ?_
    refine xP_s rfl rfl rfl ?_
    refine xP_s rfl rfl rfl ?_
    refine xP_s rfl rfl rfl ?_
    refine xP_call rfl rfl rfl (q_pack (r := 45) (by decide) ?_)
    refine xP_s rfl rfl rfl ?_
    refine xP_s rfl rfl rfl ?_
    refine xP_cv rfl rfl rfl rfl rfl (mH_28 hB) (q_tell2 (sl := sK 9) (p := 500) (ty := 2) (key := 45) hB z9 (uS_of (by decide)) (by decide) (by decide) (by decide) (by decide) (by decide) (by decide) (by decide) (fun v10 a10 o10 w1 w2 w3 => ?_))
    have z10 : zOC v10 a10 o10 (sK 10) := w1
    have v10' := v9'.trans w2
    have a10' := a9'.trans w3
    clear w1 w2 w3
    refine xP_s rfl rfl rfl ?_
    refine xP_s rfl rfl rfl ?_
    refine xP_s rfl rfl rfl ?_
    refine xP_s rfl rfl rfl ?_
    refine xP_call rfl rfl rfl (q_pack (r := 42) (by decide) ?_)
    refine xP_s rfl rfl rfl ?_
    refine xP_s rfl rfl rfl ?_
    refine xP_cv rfl rfl rfl rfl rfl (mH_28 hB) (q_tell2 (sl := sK 10) (p := 400) (ty := 2) (key := 42) hB z10 (uS_of (by decide)) (by decide) (by decide) (by decide) (by decide) (by decide) (by decide) (by decide) (fun v11 a11 o11 w1 w2 w3 => ?_))
    have z11 : zOC v11 a11 o11 (sK 11) := w1
    have v11' := v10'.trans w2
    have a11' := a10'.trans w3
    clear w1 w2 w3
    refine xP_s rfl rfl rfl ?_
    refine xP_s rfl rfl rfl ?_
    refine xP_s rfl rfl rfl ?_
    refine xP_s rfl rfl rfl ?_
    refine xP_call rfl rfl rfl (q_pack (r := 47) (by decide) ?_)
    refine xP_s rfl rfl rfl ?_
    refine xP_s rfl rfl rfl ?_
    refine xP_cv rfl rfl rfl rfl rfl (mH_28 hB) (q_tell2 (sl := sK 11) (p := 400) (ty := 2) (key := 47) hB z11 (uS_of (by decide)) (by decide) (by decide) (by decide) (by decide) (by decide) (by decide) (by decide) (fun v12 a12 o12 w1 w2 w3 => ?_))
    have z12 : zOC v12 a12 o12 (sK 12) := w1
    have v12' := v11'.trans w2
    have a12' := a11'.trans w3
    clear w1 w2 w3
    refine xP_s rfl rfl rfl ?_
    refine xP_s rfl rfl rfl ?_
    refine xP_s rfl rfl rfl ?_
    refine xP_s rfl rfl rfl ?_
    refine xP_call rfl rfl rfl (q_pack (r := 94) (by decide) ?_)
    refine xP_s rfl rfl rfl ?_
    refine xP_s rfl rfl rfl ?_
    refine xP_cv rfl rfl rfl rfl rfl (mH_28 hB) (q_tell2 (sl := sK 12) (p := 200) (ty := 1) (key := 94) hB z12 (uS_of (by decide)) (by decide) (by decide) (by decide) (by decide) (by decide) (by decide) (by decide) (fun v13 a13 o13 w1 w2 w3 => ?_))
    have z13 : zOC v13 a13 o13 (sK 13) := w1
    have v13' := v12'.trans w2
    have a13' := a12'.trans w3
    clear w1 w2 w3
    refine xP_s rfl rfl rfl ?_
    refine xP_s rfl rfl rfl ?_
    refine xP_s rfl rfl rfl ?_
    refine xP_s rfl rfl rfl ?_
    refine xP_call rfl rfl rfl (q_pack (r := 45) (by decide) ?_)
    refine xP_s rfl rfl rfl ?_
    refine xP_s rfl rfl rfl ?_
    refine xP_cv rfl rfl rfl rfl rfl (mH_28 hB) (q_tell2 (sl := sK 13) (p := 200) (ty := 3) (key := 45) hB z13 (uS_of (by decide)) (by decide) (by decide) (by decide) (by decide) (by decide) (by decide) (by decide) (fun v14 a14 o14 w1 w2 w3 => ?_))
    have z14 : zOC v14 a14 o14 (sK 14) := w1
    have v14' := v13'.trans w2
    have a14' := a13'.trans w3
    clear w1 w2 w3
    refine xP_ret rfl rfl rfl ?_
    exact k _ _ _ z14 v14' a14'
  subst eB
  unfold xM1
  refine xP_s rfl rfl rfl ?_
  refine xP_s rfl rfl rfl ?_
  show xP sc (d + 4) 130 4 [(0, .ref 28)] [] ([c0, c1, c2, c3, c4, c5, c6, c7, c8, c9, c10, c11, c12, c13, c14, c15, c16, c17, c18, c19, c20, c21, c22, c23, c24, c25, c26, c27, .inr (7, (xdfs.getD 7 []))], 0) P
  refine xP_s rfl rfl rfl ?_
  refine xP_s rfl rfl rfl ?_
  refine xP_s rfl rfl rfl ?_
  refine xP_s rfl rfl rfl ?_
  show xP sc (d + 4) 130 12 [(0, .ref 28)] [] ([c0, c1, c2, c3, c4, c5, c6, c7, c8, c9, c10, c11, c12, c13, c14, c15, c16, c17, c18, c19, c20, c21, c22, c23, c24, c25, c26, c27, .inr (7, ((xdfs.getD 7 []).set 2 (.ref 29))), .inl (.int, 120, .inl fun _ => 0)], 0) P
  refine xP_s rfl rfl rfl ?_
  refine xP_s rfl rfl rfl ?_
  refine xP_s rfl rfl rfl ?_
  refine xP_s rfl rfl rfl ?_
  show xP sc (d + 4) 130 20 [(0, .ref 28)] [] ([c0, c1, c2, c3, c4, c5, c6, c7, c8, c9, c10, c11, c12, c13, c14, c15, c16, c17, c18, c19, c20, c21, c22, c23, c24, c25, c26, c27, .inr (7, (((xdfs.getD 7 []).set 2 (.ref 29)).set 4 (.ref 30))), .inl (.int, 120, .inl fun _ => 0), .inl (.long, 64, .inr (.inl fun _ => 0))], 0) P
  refine xP_s rfl rfl rfl ?_
  refine xP_s rfl rfl rfl ?_
  refine xP_s rfl rfl rfl ?_
  refine xP_s rfl rfl rfl ?_
  show xP sc (d + 4) 130 28 [(0, .ref 28)] [] ([c0, c1, c2, c3, c4, c5, c6, c7, c8, c9, c10, c11, c12, c13, c14, c15, c16, c17, c18, c19, c20, c21, c22, c23, c24, c25, c26, c27, .inr (7, ((((xdfs.getD 7 []).set 2 (.ref 29)).set 4 (.ref 30)).set 5 (.ref 31))), .inl (.int, 120, .inl fun _ => 0), .inl (.long, 64, .inr (.inl fun _ => 0)), .inl (.int, 64, .inl fun _ => 0)], 0) P
  refine xP_s rfl rfl rfl ?_
  refine xP_s rfl rfl rfl ?_
  refine xP_s rfl rfl rfl ?_
  refine xP_s rfl rfl rfl ?_
  show xP sc (d + 4) 130 36 [(0, .ref 28)] [] ([c0, c1, c2, c3, c4, c5, c6, c7, c8, c9, c10, c11, c12, c13, c14, c15, c16, c17, c18, c19, c20, c21, c22, c23, c24, c25, c26, c27, .inr (7, (((((xdfs.getD 7 []).set 2 (.ref 29)).set 4 (.ref 30)).set 5 (.ref 31)).set 6 (.ref 32))), .inl (.int, 120, .inl fun _ => 0), .inl (.long, 64, .inr (.inl fun _ => 0)), .inl (.int, 64, .inl fun _ => 0), .inl (.int, 64, .inl fun _ => 0)], 0) P
  refine xP_s rfl rfl rfl ?_
  refine xP_s rfl rfl rfl ?_
  refine xP_s rfl rfl rfl ?_
  refine xP_s rfl rfl rfl ?_
  show xP sc (d + 4) 130 44 [(0, .ref 28)] [] ([c0, c1, c2, c3, c4, c5, c6, c7, c8, c9, c10, c11, c12, c13, c14, c15, c16, c17, c18, c19, c20, c21, c22, c23, c24, c25, c26, c27, .inr (7, ((((((xdfs.getD 7 []).set 2 (.ref 29)).set 4 (.ref 30)).set 5 (.ref 31)).set 6 (.ref 32)).set 7 (.ref 33))), .inl (.int, 120, .inl fun _ => 0), .inl (.long, 64, .inr (.inl fun _ => 0)), .inl (.int, 64, .inl fun _ => 0), .inl (.int, 64, .inl fun _ => 0), .inl (.int, 64, .inl fun _ => 0)], 0) P
  refine xP_s rfl rfl rfl ?_
  refine xP_s rfl rfl rfl ?_
  refine xP_s rfl rfl rfl ?_
  refine xP_s rfl rfl rfl ?_
  show xP sc (d + 4) 130 52 [(0, .ref 28)] [] ([c0, c1, c2, c3, c4, c5, c6, c7, c8, c9, c10, c11, c12, c13, c14, c15, c16, c17, c18, c19, c20, c21, c22, c23, c24, c25, c26, c27, .inr (7, (((((((xdfs.getD 7 []).set 2 (.ref 29)).set 4 (.ref 30)).set 5 (.ref 31)).set 6 (.ref 32)).set 7 (.ref 33)).set 8 (.ref 34))), .inl (.int, 120, .inl fun _ => 0), .inl (.long, 64, .inr (.inl fun _ => 0)), .inl (.int, 64, .inl fun _ => 0), .inl (.int, 64, .inl fun _ => 0), .inl (.int, 64, .inl fun _ => 0), .inl (.int, 64, .inl fun _ => 0)], 0) P
  refine xP_s rfl rfl rfl ?_
  refine xP_s rfl rfl rfl ?_
  refine xP_s rfl rfl rfl ?_
  refine xP_s rfl rfl rfl ?_
  show xP sc (d + 4) 130 61 [(0, .ref 28)] [] ([c0, c1, c2, c3, c4, c5, c6, c7, c8, c9, c10, c11, c12, c13, c14, c15, c16, c17, c18, c19, c20, c21, c22, c23, c24, c25, c26, c27, .inr (7, ((((((((xdfs.getD 7 []).set 2 (.ref 29)).set 4 (.ref 30)).set 5 (.ref 31)).set 6 (.ref 32)).set 7 (.ref 33)).set 8 (.ref 34)).set 10 (.ref 35))), .inl (.int, 120, .inl fun _ => 0), .inl (.long, 64, .inr (.inl fun _ => 0)), .inl (.int, 64, .inl fun _ => 0), .inl (.int, 64, .inl fun _ => 0), .inl (.int, 64, .inl fun _ => 0), .inl (.int, 64, .inl fun _ => 0), .inl (.int, 1500, .inl fun _ => 0)], 0) P
  refine xP_s rfl rfl rfl ?_
  refine xP_s rfl rfl rfl ?_
  refine xP_s rfl rfl rfl ?_
  refine xP_s rfl rfl rfl ?_
  show xP sc (d + 4) 130 70 [(0, .ref 28)] [] ([c0, c1, c2, c3, c4, c5, c6, c7, c8, c9, c10, c11, c12, c13, c14, c15, c16, c17, c18, c19, c20, c21, c22, c23, c24, c25, c26, c27, .inr (7, (((((((((xdfs.getD 7 []).set 2 (.ref 29)).set 4 (.ref 30)).set 5 (.ref 31)).set 6 (.ref 32)).set 7 (.ref 33)).set 8 (.ref 34)).set 10 (.ref 35)).set 11 (.ref 36))), .inl (.int, 120, .inl fun _ => 0), .inl (.long, 64, .inr (.inl fun _ => 0)), .inl (.int, 64, .inl fun _ => 0), .inl (.int, 64, .inl fun _ => 0), .inl (.int, 64, .inl fun _ => 0), .inl (.int, 64, .inl fun _ => 0), .inl (.int, 1500, .inl fun _ => 0), .inl (.int, 1500, .inl fun _ => 0)], 0) P
  refine xP_s rfl rfl rfl ?_
  refine xP_s rfl rfl rfl ?_
  refine xP_s rfl rfl rfl ?_
  refine xP_s rfl rfl rfl ?_
  show xP sc (d + 4) 130 79 [(0, .ref 28)] [] ([c0, c1, c2, c3, c4, c5, c6, c7, c8, c9, c10, c11, c12, c13, c14, c15, c16, c17, c18, c19, c20, c21, c22, c23, c24, c25, c26, c27, .inr (7, ((((((((((xdfs.getD 7 []).set 2 (.ref 29)).set 4 (.ref 30)).set 5 (.ref 31)).set 6 (.ref 32)).set 7 (.ref 33)).set 8 (.ref 34)).set 10 (.ref 35)).set 11 (.ref 36)).set 13 (.ref 37))), .inl (.int, 120, .inl fun _ => 0), .inl (.long, 64, .inr (.inl fun _ => 0)), .inl (.int, 64, .inl fun _ => 0), .inl (.int, 64, .inl fun _ => 0), .inl (.int, 64, .inl fun _ => 0), .inl (.int, 64, .inl fun _ => 0), .inl (.int, 1500, .inl fun _ => 0), .inl (.int, 1500, .inl fun _ => 0), .inl (.int, 4600, .inl fun _ => 0)], 0) P
  refine xP_s rfl rfl rfl ?_
  refine xP_s rfl rfl rfl ?_
  refine xP_s rfl rfl rfl ?_
  refine xP_s rfl rfl rfl ?_
  show xP sc (d + 4) 130 87 [(0, .ref 28)] [] ([c0, c1, c2, c3, c4, c5, c6, c7, c8, c9, c10, c11, c12, c13, c14, c15, c16, c17, c18, c19, c20, c21, c22, c23, c24, c25, c26, c27, .inr (7, (((((((((((xdfs.getD 7 []).set 2 (.ref 29)).set 4 (.ref 30)).set 5 (.ref 31)).set 6 (.ref 32)).set 7 (.ref 33)).set 8 (.ref 34)).set 10 (.ref 35)).set 11 (.ref 36)).set 13 (.ref 37)).set 15 (.ref 38))), .inl (.int, 120, .inl fun _ => 0), .inl (.long, 64, .inr (.inl fun _ => 0)), .inl (.int, 64, .inl fun _ => 0), .inl (.int, 64, .inl fun _ => 0), .inl (.int, 64, .inl fun _ => 0), .inl (.int, 64, .inl fun _ => 0), .inl (.int, 1500, .inl fun _ => 0), .inl (.int, 1500, .inl fun _ => 0), .inl (.int, 4600, .inl fun _ => 0), .inl (.int, 41, .inl fun _ => 0)], 0) P
  refine xP_s rfl rfl rfl ?_
  refine xP_s rfl rfl rfl ?_
  refine xP_s rfl rfl rfl ?_
  refine xP_s rfl rfl rfl ?_
  show xP sc (d + 4) 130 96 [(0, .ref 28)] [] ([c0, c1, c2, c3, c4, c5, c6, c7, c8, c9, c10, c11, c12, c13, c14, c15, c16, c17, c18, c19, c20, c21, c22, c23, c24, c25, c26, c27, .inr (7, ((((((((((((xdfs.getD 7 []).set 2 (.ref 29)).set 4 (.ref 30)).set 5 (.ref 31)).set 6 (.ref 32)).set 7 (.ref 33)).set 8 (.ref 34)).set 10 (.ref 35)).set 11 (.ref 36)).set 13 (.ref 37)).set 15 (.ref 38)).set 17 (.ref 39))), .inl (.int, 120, .inl fun _ => 0), .inl (.long, 64, .inr (.inl fun _ => 0)), .inl (.int, 64, .inl fun _ => 0), .inl (.int, 64, .inl fun _ => 0), .inl (.int, 64, .inl fun _ => 0), .inl (.int, 64, .inl fun _ => 0), .inl (.int, 1500, .inl fun _ => 0), .inl (.int, 1500, .inl fun _ => 0), .inl (.int, 4600, .inl fun _ => 0), .inl (.int, 41, .inl fun _ => 0), .inl (.int, 1000, .inl fun _ => 0)], 0) P
  refine xP_s rfl rfl rfl ?_
  refine xP_s rfl rfl rfl ?_
  refine xP_s rfl rfl rfl ?_
  refine xP_s rfl rfl rfl ?_
  show xP sc (d + 4) 130 105 [(0, .ref 28)] [] ([c0, c1, c2, c3, c4, c5, c6, c7, c8, c9, c10, c11, c12, c13, c14, c15, c16, c17, c18, c19, c20, c21, c22, c23, c24, c25, c26, c27, .inr (7, (((((((((((((xdfs.getD 7 []).set 2 (.ref 29)).set 4 (.ref 30)).set 5 (.ref 31)).set 6 (.ref 32)).set 7 (.ref 33)).set 8 (.ref 34)).set 10 (.ref 35)).set 11 (.ref 36)).set 13 (.ref 37)).set 15 (.ref 38)).set 17 (.ref 39)).set 18 (.ref 40))), .inl (.int, 120, .inl fun _ => 0), .inl (.long, 64, .inr (.inl fun _ => 0)), .inl (.int, 64, .inl fun _ => 0), .inl (.int, 64, .inl fun _ => 0), .inl (.int, 64, .inl fun _ => 0), .inl (.int, 64, .inl fun _ => 0), .inl (.int, 1500, .inl fun _ => 0), .inl (.int, 1500, .inl fun _ => 0), .inl (.int, 4600, .inl fun _ => 0), .inl (.int, 41, .inl fun _ => 0), .inl (.int, 1000, .inl fun _ => 0), .inl (.int, 1000, .inl fun _ => 0)], 0) P
  refine xP_s rfl rfl rfl ?_
  refine xP_s rfl rfl rfl ?_
  refine xP_s rfl rfl rfl ?_
  refine xP_s rfl rfl rfl ?_
  show xP sc (d + 4) 130 114 [(0, .ref 28)] [] ([c0, c1, c2, c3, c4, c5, c6, c7, c8, c9, c10, c11, c12, c13, c14, c15, c16, c17, c18, c19, c20, c21, c22, c23, c24, c25, c26, c27, .inr (7, ((((((((((((((xdfs.getD 7 []).set 2 (.ref 29)).set 4 (.ref 30)).set 5 (.ref 31)).set 6 (.ref 32)).set 7 (.ref 33)).set 8 (.ref 34)).set 10 (.ref 35)).set 11 (.ref 36)).set 13 (.ref 37)).set 15 (.ref 38)).set 17 (.ref 39)).set 18 (.ref 40)).set 19 (.ref 41))), .inl (.int, 120, .inl fun _ => 0), .inl (.long, 64, .inr (.inl fun _ => 0)), .inl (.int, 64, .inl fun _ => 0), .inl (.int, 64, .inl fun _ => 0), .inl (.int, 64, .inl fun _ => 0), .inl (.int, 64, .inl fun _ => 0), .inl (.int, 1500, .inl fun _ => 0), .inl (.int, 1500, .inl fun _ => 0), .inl (.int, 4600, .inl fun _ => 0), .inl (.int, 41, .inl fun _ => 0), .inl (.int, 1000, .inl fun _ => 0), .inl (.int, 1000, .inl fun _ => 0), .inl (.int, 1000, .inl fun _ => 0)], 0) P
  refine xP_s rfl rfl rfl ?_
  refine xP_s rfl rfl rfl ?_
  refine xP_s rfl rfl rfl ?_
  refine xP_s rfl rfl rfl ?_
  show xP sc (d + 4) 130 123 [(0, .ref 28)] [] ([c0, c1, c2, c3, c4, c5, c6, c7, c8, c9, c10, c11, c12, c13, c14, c15, c16, c17, c18, c19, c20, c21, c22, c23, c24, c25, c26, c27, .inr (7, (((((((((((((((xdfs.getD 7 []).set 2 (.ref 29)).set 4 (.ref 30)).set 5 (.ref 31)).set 6 (.ref 32)).set 7 (.ref 33)).set 8 (.ref 34)).set 10 (.ref 35)).set 11 (.ref 36)).set 13 (.ref 37)).set 15 (.ref 38)).set 17 (.ref 39)).set 18 (.ref 40)).set 19 (.ref 41)).set 26 (.ref 42))), .inl (.int, 120, .inl fun _ => 0), .inl (.long, 64, .inr (.inl fun _ => 0)), .inl (.int, 64, .inl fun _ => 0), .inl (.int, 64, .inl fun _ => 0), .inl (.int, 64, .inl fun _ => 0), .inl (.int, 64, .inl fun _ => 0), .inl (.int, 1500, .inl fun _ => 0), .inl (.int, 1500, .inl fun _ => 0), .inl (.int, 4600, .inl fun _ => 0), .inl (.int, 41, .inl fun _ => 0), .inl (.int, 1000, .inl fun _ => 0), .inl (.int, 1000, .inl fun _ => 0), .inl (.int, 1000, .inl fun _ => 0), .inl (.int, 130, .inl fun _ => 0)], 0) P
  refine xP_s rfl rfl rfl ?_
  refine xP_s rfl rfl rfl ?_
  refine xP_s rfl rfl rfl ?_
  refine xP_s rfl rfl rfl ?_
  show xP sc (d + 4) 130 131 [(0, .ref 28)] [] ([c0, c1, c2, c3, c4, c5, c6, c7, c8, c9, c10, c11, c12, c13, c14, c15, c16, c17, c18, c19, c20, c21, c22, c23, c24, c25, c26, c27, .inr (7, ((((((((((((((((xdfs.getD 7 []).set 2 (.ref 29)).set 4 (.ref 30)).set 5 (.ref 31)).set 6 (.ref 32)).set 7 (.ref 33)).set 8 (.ref 34)).set 10 (.ref 35)).set 11 (.ref 36)).set 13 (.ref 37)).set 15 (.ref 38)).set 17 (.ref 39)).set 18 (.ref 40)).set 19 (.ref 41)).set 26 (.ref 42)).set 30 (.ref 43))), .inl (.int, 120, .inl fun _ => 0), .inl (.long, 64, .inr (.inl fun _ => 0)), .inl (.int, 64, .inl fun _ => 0), .inl (.int, 64, .inl fun _ => 0), .inl (.int, 64, .inl fun _ => 0), .inl (.int, 64, .inl fun _ => 0), .inl (.int, 1500, .inl fun _ => 0), .inl (.int, 1500, .inl fun _ => 0), .inl (.int, 4600, .inl fun _ => 0), .inl (.int, 41, .inl fun _ => 0), .inl (.int, 1000, .inl fun _ => 0), .inl (.int, 1000, .inl fun _ => 0), .inl (.int, 1000, .inl fun _ => 0), .inl (.int, 130, .inl fun _ => 0), .inl (.int, 32, .inl fun _ => 0)], 0) P
  refine xP_s rfl rfl rfl ?_
  refine xP_s rfl rfl rfl ?_
  refine xP_s rfl rfl rfl ?_
  refine xP_s rfl rfl rfl ?_
  show xP sc (d + 4) 130 139 [(0, .ref 28)] [] ([c0, c1, c2, c3, c4, c5, c6, c7, c8, c9, c10, c11, c12, c13, c14, c15, c16, c17, c18, c19, c20, c21, c22, c23, c24, c25, c26, c27, .inr (7, (((((((((((((((((xdfs.getD 7 []).set 2 (.ref 29)).set 4 (.ref 30)).set 5 (.ref 31)).set 6 (.ref 32)).set 7 (.ref 33)).set 8 (.ref 34)).set 10 (.ref 35)).set 11 (.ref 36)).set 13 (.ref 37)).set 15 (.ref 38)).set 17 (.ref 39)).set 18 (.ref 40)).set 19 (.ref 41)).set 26 (.ref 42)).set 30 (.ref 43)).set 31 (.ref 44))), .inl (.int, 120, .inl fun _ => 0), .inl (.long, 64, .inr (.inl fun _ => 0)), .inl (.int, 64, .inl fun _ => 0), .inl (.int, 64, .inl fun _ => 0), .inl (.int, 64, .inl fun _ => 0), .inl (.int, 64, .inl fun _ => 0), .inl (.int, 1500, .inl fun _ => 0), .inl (.int, 1500, .inl fun _ => 0), .inl (.int, 4600, .inl fun _ => 0), .inl (.int, 41, .inl fun _ => 0), .inl (.int, 1000, .inl fun _ => 0), .inl (.int, 1000, .inl fun _ => 0), .inl (.int, 1000, .inl fun _ => 0), .inl (.int, 130, .inl fun _ => 0), .inl (.int, 32, .inl fun _ => 0), .inl (.int, 32, .inl fun _ => 0)], 0) P
  refine xP_s rfl rfl rfl ?_
  refine xP_s rfl rfl rfl ?_
  refine xP_s rfl rfl rfl ?_
  refine xP_s rfl rfl rfl ?_
  show xP sc (d + 4) 130 147 [(0, .ref 28)] [] ([c0, c1, c2, c3, c4, c5, c6, c7, c8, c9, c10, c11, c12, c13, c14, c15, c16, c17, c18, c19, c20, c21, c22, c23, c24, c25, c26, c27, .inr (7, ((((((((((((((((((xdfs.getD 7 []).set 2 (.ref 29)).set 4 (.ref 30)).set 5 (.ref 31)).set 6 (.ref 32)).set 7 (.ref 33)).set 8 (.ref 34)).set 10 (.ref 35)).set 11 (.ref 36)).set 13 (.ref 37)).set 15 (.ref 38)).set 17 (.ref 39)).set 18 (.ref 40)).set 19 (.ref 41)).set 26 (.ref 42)).set 30 (.ref 43)).set 31 (.ref 44)).set 32 (.ref 45))), .inl (.int, 120, .inl fun _ => 0), .inl (.long, 64, .inr (.inl fun _ => 0)), .inl (.int, 64, .inl fun _ => 0), .inl (.int, 64, .inl fun _ => 0), .inl (.int, 64, .inl fun _ => 0), .inl (.int, 64, .inl fun _ => 0), .inl (.int, 1500, .inl fun _ => 0), .inl (.int, 1500, .inl fun _ => 0), .inl (.int, 4600, .inl fun _ => 0), .inl (.int, 41, .inl fun _ => 0), .inl (.int, 1000, .inl fun _ => 0), .inl (.int, 1000, .inl fun _ => 0), .inl (.int, 1000, .inl fun _ => 0), .inl (.int, 130, .inl fun _ => 0), .inl (.int, 32, .inl fun _ => 0), .inl (.int, 32, .inl fun _ => 0), .inl (.int, 32, .inl fun _ => 0)], 0) P
  refine xP_s rfl rfl rfl ?_
  refine xP_s rfl rfl rfl ?_
  refine xP_s rfl rfl rfl ?_
  refine xP_s rfl rfl rfl ?_
  show xP sc (d + 4) 130 155 [(0, .ref 28)] [] ([c0, c1, c2, c3, c4, c5, c6, c7, c8, c9, c10, c11, c12, c13, c14, c15, c16, c17, c18, c19, c20, c21, c22, c23, c24, c25, c26, c27, .inr (7, (((((((((((((((((((xdfs.getD 7 []).set 2 (.ref 29)).set 4 (.ref 30)).set 5 (.ref 31)).set 6 (.ref 32)).set 7 (.ref 33)).set 8 (.ref 34)).set 10 (.ref 35)).set 11 (.ref 36)).set 13 (.ref 37)).set 15 (.ref 38)).set 17 (.ref 39)).set 18 (.ref 40)).set 19 (.ref 41)).set 26 (.ref 42)).set 30 (.ref 43)).set 31 (.ref 44)).set 32 (.ref 45)).set 33 (.ref 46))), .inl (.int, 120, .inl fun _ => 0), .inl (.long, 64, .inr (.inl fun _ => 0)), .inl (.int, 64, .inl fun _ => 0), .inl (.int, 64, .inl fun _ => 0), .inl (.int, 64, .inl fun _ => 0), .inl (.int, 64, .inl fun _ => 0), .inl (.int, 1500, .inl fun _ => 0), .inl (.int, 1500, .inl fun _ => 0), .inl (.int, 4600, .inl fun _ => 0), .inl (.int, 41, .inl fun _ => 0), .inl (.int, 1000, .inl fun _ => 0), .inl (.int, 1000, .inl fun _ => 0), .inl (.int, 1000, .inl fun _ => 0), .inl (.int, 130, .inl fun _ => 0), .inl (.int, 32, .inl fun _ => 0), .inl (.int, 32, .inl fun _ => 0), .inl (.int, 32, .inl fun _ => 0), .inl (.int, 32, .inl fun _ => 0)], 0) P
  refine xP_s rfl rfl rfl ?_
  refine xP_s rfl rfl rfl ?_
  refine xP_s rfl rfl rfl ?_
  refine xP_s rfl rfl rfl ?_
  show xP sc (d + 4) 130 163 [(0, .ref 28)] [] ([c0, c1, c2, c3, c4, c5, c6, c7, c8, c9, c10, c11, c12, c13, c14, c15, c16, c17, c18, c19, c20, c21, c22, c23, c24, c25, c26, c27, .inr (7, ((((((((((((((((((((xdfs.getD 7 []).set 2 (.ref 29)).set 4 (.ref 30)).set 5 (.ref 31)).set 6 (.ref 32)).set 7 (.ref 33)).set 8 (.ref 34)).set 10 (.ref 35)).set 11 (.ref 36)).set 13 (.ref 37)).set 15 (.ref 38)).set 17 (.ref 39)).set 18 (.ref 40)).set 19 (.ref 41)).set 26 (.ref 42)).set 30 (.ref 43)).set 31 (.ref 44)).set 32 (.ref 45)).set 33 (.ref 46)).set 34 (.ref 47))), .inl (.int, 120, .inl fun _ => 0), .inl (.long, 64, .inr (.inl fun _ => 0)), .inl (.int, 64, .inl fun _ => 0), .inl (.int, 64, .inl fun _ => 0), .inl (.int, 64, .inl fun _ => 0), .inl (.int, 64, .inl fun _ => 0), .inl (.int, 1500, .inl fun _ => 0), .inl (.int, 1500, .inl fun _ => 0), .inl (.int, 4600, .inl fun _ => 0), .inl (.int, 41, .inl fun _ => 0), .inl (.int, 1000, .inl fun _ => 0), .inl (.int, 1000, .inl fun _ => 0), .inl (.int, 1000, .inl fun _ => 0), .inl (.int, 130, .inl fun _ => 0), .inl (.int, 32, .inl fun _ => 0), .inl (.int, 32, .inl fun _ => 0), .inl (.int, 32, .inl fun _ => 0), .inl (.int, 32, .inl fun _ => 0), .inl (.int, 32, .inl fun _ => 0)], 0) P
  refine xP_s rfl rfl rfl ?_
  refine xP_s rfl rfl rfl ?_
  refine xP_s rfl rfl rfl ?_
  refine xP_s rfl rfl rfl ?_
  show xP sc (d + 4) 130 172 [(0, .ref 28)] [] ([c0, c1, c2, c3, c4, c5, c6, c7, c8, c9, c10, c11, c12, c13, c14, c15, c16, c17, c18, c19, c20, c21, c22, c23, c24, c25, c26, c27, .inr (7, (((((((((((((((((((((xdfs.getD 7 []).set 2 (.ref 29)).set 4 (.ref 30)).set 5 (.ref 31)).set 6 (.ref 32)).set 7 (.ref 33)).set 8 (.ref 34)).set 10 (.ref 35)).set 11 (.ref 36)).set 13 (.ref 37)).set 15 (.ref 38)).set 17 (.ref 39)).set 18 (.ref 40)).set 19 (.ref 41)).set 26 (.ref 42)).set 30 (.ref 43)).set 31 (.ref 44)).set 32 (.ref 45)).set 33 (.ref 46)).set 34 (.ref 47)).set 36 (.ref 48))), .inl (.int, 120, .inl fun _ => 0), .inl (.long, 64, .inr (.inl fun _ => 0)), .inl (.int, 64, .inl fun _ => 0), .inl (.int, 64, .inl fun _ => 0), .inl (.int, 64, .inl fun _ => 0), .inl (.int, 64, .inl fun _ => 0), .inl (.int, 1500, .inl fun _ => 0), .inl (.int, 1500, .inl fun _ => 0), .inl (.int, 4600, .inl fun _ => 0), .inl (.int, 41, .inl fun _ => 0), .inl (.int, 1000, .inl fun _ => 0), .inl (.int, 1000, .inl fun _ => 0), .inl (.int, 1000, .inl fun _ => 0), .inl (.int, 130, .inl fun _ => 0), .inl (.int, 32, .inl fun _ => 0), .inl (.int, 32, .inl fun _ => 0), .inl (.int, 32, .inl fun _ => 0), .inl (.int, 32, .inl fun _ => 0), .inl (.int, 32, .inl fun _ => 0), .inl (.int, 130, .inl fun _ => 0)], 0) P
  refine xP_s rfl rfl rfl ?_
  refine xP_s rfl rfl rfl ?_
  refine xP_s rfl rfl rfl ?_
  refine xP_s rfl rfl rfl ?_
  show xP sc (d + 4) 130 181 [(0, .ref 28)] [] ([c0, c1, c2, c3, c4, c5, c6, c7, c8, c9, c10, c11, c12, c13, c14, c15, c16, c17, c18, c19, c20, c21, c22, c23, c24, c25, c26, c27, .inr (7, ((((((((((((((((((((((xdfs.getD 7 []).set 2 (.ref 29)).set 4 (.ref 30)).set 5 (.ref 31)).set 6 (.ref 32)).set 7 (.ref 33)).set 8 (.ref 34)).set 10 (.ref 35)).set 11 (.ref 36)).set 13 (.ref 37)).set 15 (.ref 38)).set 17 (.ref 39)).set 18 (.ref 40)).set 19 (.ref 41)).set 26 (.ref 42)).set 30 (.ref 43)).set 31 (.ref 44)).set 32 (.ref 45)).set 33 (.ref 46)).set 34 (.ref 47)).set 36 (.ref 48)).set 38 (.ref 49))), .inl (.int, 120, .inl fun _ => 0), .inl (.long, 64, .inr (.inl fun _ => 0)), .inl (.int, 64, .inl fun _ => 0), .inl (.int, 64, .inl fun _ => 0), .inl (.int, 64, .inl fun _ => 0), .inl (.int, 64, .inl fun _ => 0), .inl (.int, 1500, .inl fun _ => 0), .inl (.int, 1500, .inl fun _ => 0), .inl (.int, 4600, .inl fun _ => 0), .inl (.int, 41, .inl fun _ => 0), .inl (.int, 1000, .inl fun _ => 0), .inl (.int, 1000, .inl fun _ => 0), .inl (.int, 1000, .inl fun _ => 0), .inl (.int, 130, .inl fun _ => 0), .inl (.int, 32, .inl fun _ => 0), .inl (.int, 32, .inl fun _ => 0), .inl (.int, 32, .inl fun _ => 0), .inl (.int, 32, .inl fun _ => 0), .inl (.int, 32, .inl fun _ => 0), .inl (.int, 130, .inl fun _ => 0), .inl (.int, 900, .inl fun _ => 0)], 0) P
  refine xP_s rfl rfl rfl ?_
  refine xP_s rfl rfl rfl ?_
  refine xP_s rfl rfl rfl ?_
  refine xP_s rfl rfl rfl ?_
  show xP sc (d + 4) 130 190 [(0, .ref 28)] [] ([c0, c1, c2, c3, c4, c5, c6, c7, c8, c9, c10, c11, c12, c13, c14, c15, c16, c17, c18, c19, c20, c21, c22, c23, c24, c25, c26, c27, .inr (7, (((((((((((((((((((((((xdfs.getD 7 []).set 2 (.ref 29)).set 4 (.ref 30)).set 5 (.ref 31)).set 6 (.ref 32)).set 7 (.ref 33)).set 8 (.ref 34)).set 10 (.ref 35)).set 11 (.ref 36)).set 13 (.ref 37)).set 15 (.ref 38)).set 17 (.ref 39)).set 18 (.ref 40)).set 19 (.ref 41)).set 26 (.ref 42)).set 30 (.ref 43)).set 31 (.ref 44)).set 32 (.ref 45)).set 33 (.ref 46)).set 34 (.ref 47)).set 36 (.ref 48)).set 38 (.ref 49)).set 39 (.ref 50))), .inl (.int, 120, .inl fun _ => 0), .inl (.long, 64, .inr (.inl fun _ => 0)), .inl (.int, 64, .inl fun _ => 0), .inl (.int, 64, .inl fun _ => 0), .inl (.int, 64, .inl fun _ => 0), .inl (.int, 64, .inl fun _ => 0), .inl (.int, 1500, .inl fun _ => 0), .inl (.int, 1500, .inl fun _ => 0), .inl (.int, 4600, .inl fun _ => 0), .inl (.int, 41, .inl fun _ => 0), .inl (.int, 1000, .inl fun _ => 0), .inl (.int, 1000, .inl fun _ => 0), .inl (.int, 1000, .inl fun _ => 0), .inl (.int, 130, .inl fun _ => 0), .inl (.int, 32, .inl fun _ => 0), .inl (.int, 32, .inl fun _ => 0), .inl (.int, 32, .inl fun _ => 0), .inl (.int, 32, .inl fun _ => 0), .inl (.int, 32, .inl fun _ => 0), .inl (.int, 130, .inl fun _ => 0), .inl (.int, 900, .inl fun _ => 0), .inl (.int, 900, .inl fun _ => 0)], 0) P
  refine xP_s rfl rfl rfl ?_
  refine xP_s rfl rfl rfl ?_
  refine xP_s rfl rfl rfl ?_
  refine xP_s rfl rfl rfl ?_
  show xP sc (d + 4) 130 199 [(0, .ref 28)] [] ([c0, c1, c2, c3, c4, c5, c6, c7, c8, c9, c10, c11, c12, c13, c14, c15, c16, c17, c18, c19, c20, c21, c22, c23, c24, c25, c26, c27, .inr (7, ((((((((((((((((((((((((xdfs.getD 7 []).set 2 (.ref 29)).set 4 (.ref 30)).set 5 (.ref 31)).set 6 (.ref 32)).set 7 (.ref 33)).set 8 (.ref 34)).set 10 (.ref 35)).set 11 (.ref 36)).set 13 (.ref 37)).set 15 (.ref 38)).set 17 (.ref 39)).set 18 (.ref 40)).set 19 (.ref 41)).set 26 (.ref 42)).set 30 (.ref 43)).set 31 (.ref 44)).set 32 (.ref 45)).set 33 (.ref 46)).set 34 (.ref 47)).set 36 (.ref 48)).set 38 (.ref 49)).set 39 (.ref 50)).set 41 (.ref 51))), .inl (.int, 120, .inl fun _ => 0), .inl (.long, 64, .inr (.inl fun _ => 0)), .inl (.int, 64, .inl fun _ => 0), .inl (.int, 64, .inl fun _ => 0), .inl (.int, 64, .inl fun _ => 0), .inl (.int, 64, .inl fun _ => 0), .inl (.int, 1500, .inl fun _ => 0), .inl (.int, 1500, .inl fun _ => 0), .inl (.int, 4600, .inl fun _ => 0), .inl (.int, 41, .inl fun _ => 0), .inl (.int, 1000, .inl fun _ => 0), .inl (.int, 1000, .inl fun _ => 0), .inl (.int, 1000, .inl fun _ => 0), .inl (.int, 130, .inl fun _ => 0), .inl (.int, 32, .inl fun _ => 0), .inl (.int, 32, .inl fun _ => 0), .inl (.int, 32, .inl fun _ => 0), .inl (.int, 32, .inl fun _ => 0), .inl (.int, 32, .inl fun _ => 0), .inl (.int, 130, .inl fun _ => 0), .inl (.int, 900, .inl fun _ => 0), .inl (.int, 900, .inl fun _ => 0), .inl (.int, 2600, .inl fun _ => 0)], 0) P
  refine xP_s rfl rfl rfl ?_
  refine xP_s rfl rfl rfl ?_
  refine xP_s rfl rfl rfl ?_
  refine xP_s rfl rfl rfl ?_
  exact go
end CM
