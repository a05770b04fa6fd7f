-- a pure machine: frames of association lists, a heap that is a list of cells and a count of thrown objects
abbrev xC : Type := (FieldType × vp_A) ⊕ (Nat × List Value)
abbrev xL : Type := List (Nat × Value)
abbrev xH : Type := List xC × Nat
abbrev xO : Type := Option Value ⊕ Nat
abbrev xSc : Type := Nat × (Nat → Int32)
/-- the abstract reference of the script -/
abbrev xscr : Nat := 1000000000
def xlk (i : Nat) : xL → Option Value
  | [] => none
  | q :: r => if q.1 == i then some q.2 else xlk i r
def xput (i : Nat) (v : Value) : xL → xL
  | [] => [(i, v)]
  | q :: r => if i < q.1 then (i, v) :: q :: r else q :: xput i v r
def xst1 (i : Nat) (v : Value) (ls : xL) : xL := xput i v (ls.filter (fun q => !(q.1 == i) && !(q.1 + 1 == i && q.2.category == 2)))
def xst2 (i : Nat) (v : Value) (ls : xL) : xL := xput i v (ls.filter (fun q => !(q.1 == i) && (!(q.1 == i + 1) && !(q.1 + 1 == i && q.2.category == 2))))
def xcmp (k : ClassFile.Cond) (x y : Int32) : Bool := match k with
  | .eq => decide (x = y)
  | .ne => decide (¬ x = y)
  | .lt => decide (x < y)
  | .ge => decide (y ≤ x)
  | .gt => decide (y < x)
  | .le => decide (x ≤ y)
def xsw (d : Nat) (x : Int32) : List (Int32 × Nat) → Nat
  | [] => d
  | q :: r => if x = q.1 then q.2 else xsw d x r
def xib (i : Int32) (n : Nat) : Bool := decide (0 ≤ i.toInt) && decide (i.toInt < n)
def xfit (ty : FieldType) (v : Value) : Bool := match ty, v with
  | .int, .int _ => true
  | .boolean, .int x => x == 0 || x == 1
  | .long, .long _ => true
  | .array _, .ref _ => true
  | .object _, .ref _ => true
  | _, _ => false
def xnar (t : ArrayType) (n : Nat) : Option xC := match t with
  | .int => some (.inl (.int, n, .inl fun _ => 0))
  | .long => some (.inl (.long, n, .inr (.inl fun _ => 0)))
  | .char => some (.inl (.char, n, .inl fun _ => 0))
  | _ => none
abbrev xN : Type := Nat × xL × List Value × List xC
def xi1 (st : List Value) (k : Int32 → List Value → Option xN) : Option xN := match st with
  | .int x :: r => k x r
  | _ => none
def xi2 (st : List Value) (k : Int32 → Int32 → List Value → Option xN) : Option xN := match st with
  | .int y :: .int x :: r => k x y r
  | _ => none
def xl1 (st : List Value) (k : Int64 → List Value → Option xN) : Option xN := match st with
  | .long x :: r => k x r
  | _ => none
def xl2 (st : List Value) (k : Int64 → Int64 → List Value → Option xN) : Option xN := match st with
  | .long y :: .long x :: r => k x y r
  | _ => none
def xli (st : List Value) (k : Int64 → Int32 → List Value → Option xN) : Option xN := match st with
  | .int y :: .long x :: r => k x y r
  | _ => none
def xr1 (st : List Value) (k : Nat → List Value → Option xN) : Option xN := match st with
  | .ref x :: r => k x r
  | _ => none
def xri (st : List Value) (k : Nat → Int32 → List Value → Option xN) : Option xN := match st with
  | .int i :: .ref a :: r => k a i r
  | _ => none
def xlki (v : Option Value) (k : Int32 → Option xN) : Option xN := match v with
  | some (.int x) => k x
  | _ => none
def xlkl (v : Option Value) (k : Int64 → Option xN) : Option xN := match v with
  | some (.long x) => k x
  | _ => none
def xlka (v : Option Value) (k : Nat → Option xN) : Option xN := match v with
  | some (.ref x) => k x
  | _ => none
def xarI (c : Option xC) (ty : FieldType) (i : Int32) (k : Nat → (Nat → Int32) → Option xN) : Option xN := match c with
  | some (.inl (t, n, .inl f)) => if t = ty then (if xib i n then k n f else none) else none
  | _ => none
def xarL (c : Option xC) (i : Int32) (k : Nat → (Nat → Int64) → Option xN) : Option xN := match c with
  | some (.inl (t, n, .inr (.inl f))) => if t = .long then (if xib i n then k n f else none) else none
  | _ => none
def xob (c : Option xC) (ci : Nat) (k : List Value → Option xN) : Option xN := match c with
  | some (.inr (cj, fs)) => if cj = ci then k fs else none
  | _ => none
/-- what one simple instruction does: pc, locals, stack, cells; d frames are left; g objects have been thrown -/
def xs (sc : xSc) (nL d g : Nat) (r : xRow) (pc : Nat) (ls : xL) (st : List Value) (A : List xC) : Option xN := match r with
  | (i0, _, r1, r2, _, rv, rk, sw) => match i0 with
  | .iconst _ => some (pc + 1, ls, .int rv :: st, A)
  | .bipush _ => some (pc + 2, ls, .int rv :: st, A)
  | .sipush _ => some (pc + 3, ls, .int rv :: st, A)
  | .lconst n => some (pc + 1, ls, .long (Int64.ofNat n) :: st, A)
  | .ldc2_w _ => some (pc + 3, ls, .long rk :: st, A)
  | .iload i => xlki (xlk i ls) fun x => some (pc + 2, ls, .int x :: st, A)
  | .iload_n i => xlki (xlk i ls) fun x => some (pc + 1, ls, .int x :: st, A)
  | .lload i => xlkl (xlk i ls) fun x => some (pc + 2, ls, .long x :: st, A)
  | .lload_n i => xlkl (xlk i ls) fun x => some (pc + 1, ls, .long x :: st, A)
  | .aload i => xlka (xlk i ls) fun x => some (pc + 2, ls, .ref x :: st, A)
  | .aload_n i => xlka (xlk i ls) fun x => some (pc + 1, ls, .ref x :: st, A)
  | .istore i => xi1 st fun x r => if i < nL then some (pc + 2, xst1 i (.int x) ls, r, A) else none
  | .istore_n i => xi1 st fun x r => if i.val < nL then some (pc + 1, xst1 i (.int x) ls, r, A) else none
  | .lstore i => xl1 st fun x r => if i + 1 < nL then some (pc + 2, xst2 i (.long x) ls, r, A) else none
  | .lstore_n i => xl1 st fun x r => if i.val + 1 < nL then some (pc + 1, xst2 i (.long x) ls, r, A) else none
  | .astore i => xr1 st fun x r => if i < nL then some (pc + 2, xst1 i (.ref x) ls, r, A) else none
  | .astore_n i => xr1 st fun x r => if i.val < nL then some (pc + 1, xst1 i (.ref x) ls, r, A) else none
  | .iinc i _ => xlki (xlk i ls) fun x => if i < nL then some (pc + 3, xst1 i (.int (x + rv)) ls, st, A) else none
  | .dup => match st with
    | v :: q => if v.category = 1 then some (pc + 1, ls, v :: v :: q, A) else none
    | _ => none
  | .dup2 => match st with
    | v :: w :: q => if v.category = 1 then (if w.category = 1 then some (pc + 1, ls, v :: w :: v :: w :: q, A) else none) else none
    | _ => none
  | .pop => match st with
    | v :: q => if v.category = 1 then some (pc + 1, ls, q, A) else none
    | _ => none
  | .iadd => xi2 st fun x y r => some (pc + 1, ls, .int (x + y) :: r, A)
  | .isub => xi2 st fun x y r => some (pc + 1, ls, .int (x - y) :: r, A)
  | .imul => xi2 st fun x y r => some (pc + 1, ls, .int (x * y) :: r, A)
  | .iand => xi2 st fun x y r => some (pc + 1, ls, .int (x &&& y) :: r, A)
  | .irem => xi2 st fun x y r => if y = 0 then none else some (pc + 1, ls, .int (x - x / y * y) :: r, A)
  | .ineg => xi1 st fun x r => some (pc + 1, ls, .int (-x) :: r, A)
  | .ladd => xl2 st fun x y r => some (pc + 1, ls, .long (x + y) :: r, A)
  | .lsub => xl2 st fun x y r => some (pc + 1, ls, .long (x - y) :: r, A)
  | .lmul => xl2 st fun x y r => some (pc + 1, ls, .long (x * y) :: r, A)
  | .land => xl2 st fun x y r => some (pc + 1, ls, .long (x &&& y) :: r, A)
  | .lor => xl2 st fun x y r => some (pc + 1, ls, .long (x ||| y) :: r, A)
  | .ldiv => xl2 st fun x y r => if y = 0 then none else some (pc + 1, ls, .long (x / y) :: r, A)
  | .lrem => xl2 st fun x y r => if y = 0 then none else some (pc + 1, ls, .long (x - x / y * y) :: r, A)
  | .lneg => xl1 st fun x r => some (pc + 1, ls, .long (-x) :: r, A)
  | .lshl => xli st fun x y r => some (pc + 1, ls, .long (x <<< (y.toInt64 &&& 63)) :: r, A)
  | .lushr => xli st fun x y r => some (pc + 1, ls, .long ((x.toUInt64 >>> (y.toInt64.toUInt64 &&& Int64.toUInt64 63)).toInt64) :: r, A)
  | .lcmp => xl2 st fun x y r => some (pc + 1, ls, .int (lg_cmp x y) :: r, A)
  | .i2l => xi1 st fun x r => some (pc + 1, ls, .long x.toInt64 :: r, A)
  | .l2i => xl1 st fun x r => some (pc + 1, ls, .int x.toInt32 :: r, A)
  | .i2c => xi1 st fun x r => some (pc + 1, ls, .int (x.toUInt32 % 65536).toInt32 :: r, A)
  | .ifCond k _ => xi1 st fun x q => some (if xcmp k x 0 then r1 else pc + 3, ls, q, A)
  | .if_icmp k _ => xi2 st fun x y q => some (if xcmp k x y then r1 else pc + 3, ls, q, A)
  | .goto _ => some (r1, ls, st, A)
  | .tableswitch _ _ _ _ => xi1 st fun x q => some (xsw r1 x sw, ls, q, A)
  | .lookupswitch _ _ => xi1 st fun x q => some (xsw r1 x sw, ls, q, A)
  | .getfield _ => xr1 st fun a q => xob A[a]? r1 fun fs => match fs[r2]? with
    | some v => some (pc + 3, ls, v :: q, A)
    | none => none
  | .putfield _ => match st with
    | v :: .ref a :: q => xob A[a]? r1 fun fs => if r2 < fs.length then (if xfit ((xtys.getD r1 []).getD r2 .int) v then some (pc + 3, ls, q, A.set a (.inr (r1, fs.set r2 v))) else none) else none
    | _ => none
  | .arraylength => xr1 st fun a q => if a = xscr then some (pc + 1, ls, .int (nI sc.1) :: q, A) else match A[a]? with
    | some (.inl (_, n, _)) => some (pc + 1, ls, .int (Int32.ofNat n) :: q, A)
    | _ => none
  | .iaload => xri st fun a i q => if a = xscr then (if xib i sc.1 then some (pc + 1, ls, .int (sc.2 i.toNatClampNeg) :: q, A) else none) else xarI A[a]? .int i fun _ f => some (pc + 1, ls, .int (f i.toNatClampNeg) :: q, A)
  | .caload => xri st fun a i q => xarI A[a]? .char i fun _ f => some (pc + 1, ls, .int (f i.toNatClampNeg) :: q, A)
  | .laload => xri st fun a i q => xarL A[a]? i fun _ f => some (pc + 1, ls, .long (f i.toNatClampNeg) :: q, A)
  | .iastore => xi1 st fun x t => xri t fun a i q => xarI A[a]? .int i fun n f => some (pc + 1, ls, q, A.set a (.inl (.int, n, .inl (upd f i.toNatClampNeg x))))
  | .castore => xi1 st fun x t => xri t fun a i q => xarI A[a]? .char i fun n f => some (pc + 1, ls, q, A.set a (.inl (.char, n, .inl (upd f i.toNatClampNeg (vp_nar .char x)))))
  | .lastore => xl1 st fun x t => xri t fun a i q => xarL A[a]? i fun n f => some (pc + 1, ls, q, A.set a (.inl (.long, n, .inr (.inl (vp_updL f i.toNatClampNeg x)))))
  | .newarray t => xi1 st fun x q => if g = 0 then (if xib x 100000 then (if A.length < 1000 then (match xnar t x.toNatClampNeg with
    | some e => some (pc + 2, ls, .ref A.length :: q, A ++ [e])
    | none => none) else none) else none) else none
  | .new _ => if g = 0 then (if A.length < 1000 then (if r1 < 8 then some (pc + 3, ls, .ref A.length :: st, A ++ [.inr (r1, xdfs.getD r1 [])]) else none) else none) else none
  | .invokespecial _ => if r1 = 1000 then (match d with
    | _ + 1 => xr1 st fun _ q => if (q.map fun v => v.category).sum ≤ 8 then some (pc + 3, ls, q, A) else none
    | _ => none) else none
  | .invokestatic _ => if r1 = 1001 then (match d with
    | _ + 1 => xi2 st fun x y q => if (q.map fun v => v.category).sum ≤ 8 then some (pc + 3, ls, .int (if x < y then y else x) :: q, A) else none
    | _ => none) else none
  | _ => none
/-- 0 simple, 1 an end, 2 a call, 3 a throw, 4 a text's number -/
def xkd (r : xRow) : Nat := match r.1 with
  | .ireturn => 1
  | .lreturn => 1
  | .return_ => 1
  | .invokevirtual _ => if r.2.2.1 < 1000 then 2 else 0
  | .invokespecial _ => if r.2.2.1 < 1000 then 2 else 0
  | .invokestatic _ => if r.2.2.1 < 1000 then 2 else 0
  | .new _ => if r.2.2.1 < 1000 then 0 else 3
  | .ldc _ => if r.2.2.1 = 1 then 4 else 0
  | _ => 0
def xret (ty : Option FieldType) (i : Instr) (st : List Value) : Option (Option Value) := match i, st with
  | .ireturn, [.int x] => match ty with
    | some .int => some (some (.int x))
    | some .boolean => if x == 0 || x == 1 then some (some (.int x)) else none
    | _ => none
  | .lreturn, [.long x] => match ty with
    | some .long => some (some (.long x))
    | _ => none
  | .return_, [] => match ty with
    | none => some none
    | _ => none
  | _, _ => none
/-- the method's row -/
def xme (mi : Nat) : xM := xms.getD mi xm_0
def xrow (mi pc : Nat) : Option xRow := (xcs.getD mi []).getD pc none
/-- is the receiver an object of the method's own? -/
def xrecv (ci : Nat) (A : List xC) (v : List Value) : Bool := if ci = 99 then true else match v with
  | .ref a :: _ => match A[a]? with
    | some (.inr (cj, _)) => decide (cj = ci)
    | _ => false
  | _ => false
/-- a call's arguments and the rest of the stack -/
def xcall (r : xRow) (st : List Value) (A : List xC) : Option (List Value × List Value) :=
  if r.2.2.2.1 ≤ st.length then (if ((st.drop r.2.2.2.1).map fun v => v.category).sum ≤ 8 then (if xrecv (xme r.2.2.1).2.2.2.2.1 A (st.take r.2.2.2.1).reverse then (if (lg_sl (st.take r.2.2.2.1).reverse).length ≤ (xme r.2.2.1).2.2.1 then some ((st.take r.2.2.2.1).reverse, st.drop r.2.2.2.1) else none) else none) else none) else none
/-- where a thrown object is caught, and the local in which it is put -/
def xhnd (mi pc e : Nat) : Option (Nat × Nat) := (xhd.find? fun q => q.1 == mi && (Nat.ble q.2.1 pc && (Nat.blt pc q.2.2.1 && q.2.2.2.1 == e))).map fun q => q.2.2.2.2
def xr (sc : xSc) : Nat → Nat → Nat → Nat → xL → List Value → xH → Option (xO × xH)
  | 0, _, _, _, _, _, _ => none
  | n + 1, d, mi, pc, ls, st, h => match xrow mi pc with
    | none => none
    | some r => match xkd r with
      | 0 => match xs sc (xme mi).2.2.1 d h.2 r pc ls st h.1 with
        | none => none
        | some q => xr sc n d mi q.1 q.2.1 q.2.2.1 (q.2.2.2, h.2)
      | 1 => match xret (xme mi).2.2.2.1 r.1 st with
        | none => none
        | some v => some (.inl v, h)
      | 2 => match d with
        | 0 => none
        | d' + 1 => match xcall r st h.1 with
          | none => none
          | some q => match xr sc n d' r.2.2.1 0 (lv_args 0 q.1) [] h with
            | none => none
            | some (.inl v, h') => xr sc n (d' + 1) mi (pc + 3) ls (v.toList ++ q.2) h'
            | some (.inr e, h') => match xhnd mi pc e with
              | none => none
              | some t => xr sc n (d' + 1) mi t.1 (ls.filter fun z => !(z.1 == t.2) && !(z.1 + 1 == t.2 && z.2.category == 2)) [] h'
      | 4 => match d with
        | d' + 8 => if (st.map fun v => v.category).sum ≤ 8 then xr sc n (d' + 8) mi (pc + 5) ls (.long r.2.2.2.2.2.2.1 :: st) h else none
        | _ => none
      | _ => match d with
        | _ + 8 => match st with
          | [] => some (.inr (r.2.2.1 - 1000), (h.1, h.2 + 1))
          | _ :: _ => none
        | _ => none
