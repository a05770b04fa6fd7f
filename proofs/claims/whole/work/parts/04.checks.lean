-- what is asked of a row of code, and that every row has it
def xTb : List Cond := lw_tbl.filter goodWord
def xhas (i : Nat) (w : Cond) : Bool := decide (lw_tbl[i]? = some w) && goodWord w
theorem xhas_in {i : Nat} {w : Cond} (h : xhas i w = true) : w ∈ xTb := by
  simp only [xhas, Bool.and_eq_true, decide_eq_true_eq] at h
  exact List.mem_filter.mpr ⟨List.mem_of_getElem? h.1, h.2⟩
def xby (mi : Nat) : ByteArray := (xme mi).2.1
def xcl (ci : Nat) : vw_C := xCl.getD ci ("", xT_0, 0)
def xfok (own : String) (i ci k p : Nat) : Bool := decide (ci < 8) && (decide (k < (xcl ci).2.2) && (xhas p (.fieldLink own i (xcl ci).1 ((xcl ci).2.1 k).2.1 ((xcl ci).2.1 k).2.2.1) && decide (((xcl ci).2.1 k).1 = (xcl ci).1)))
def xfin (y : MethodName) (ci k : Nat) : Bool := if ((xcl ci).2.1 k).2.2.2 then decide (y.name = "<init>") && decide ((xcl ci).1 = y.cls) else true
def xlink (own : String) (i : Nat) (y : MethodName) (p : Nat) (k : Int64) : Bool := if k = 0 then xhas p (.methodLink own i y) else decide (lw_tbl[p]? = some (.methodLinkNest own i y "TermReader"))
def xpar (y : MethodName) (n : Nat) : Bool := decide ((parseMethodDescriptor y.desc).map (fun d => d.parameters.length) = some n)
/-- the pairs of a switch: match values and where they lead -/
def xswp (pc : Nat) : List (Int × Int) → List (Int32 × Nat) → Bool
  | [], [] => true
  | q :: r, z :: t => decide (z.1.toInt = q.1) && (decide ((pc : Int) + q.2 = z.2) && xswp pc r t)
  | _, _ => false
def xswt (pc : Nat) (lo : Int) : List Int → List (Int32 × Nat) → Bool
  | [], [] => true
  | q :: r, z :: t => decide (z.1.toInt = lo) && (decide ((pc : Int) + q = z.2) && xswt pc (lo + 1) r t)
  | _, _ => false
def xlen : Instr → Nat
  | .iconst _ => 1 | .bipush _ => 2 | .sipush _ => 3 | .lconst _ => 1 | .ldc2_w _ => 3 | .ldc _ => 2
  | .iload _ => 2 | .iload_n _ => 1 | .lload _ => 2 | .lload_n _ => 1 | .aload _ => 2 | .aload_n _ => 1
  | .istore _ => 2 | .istore_n _ => 1 | .lstore _ => 2 | .lstore_n _ => 1 | .astore _ => 2 | .astore_n _ => 1
  | .iinc _ _ => 3 | .ifCond _ _ => 3 | .if_icmp _ _ => 3 | .goto _ => 3 | .getfield _ => 3 | .putfield _ => 3
  | .newarray _ => 2 | .new _ => 3 | .invokespecial _ => 3 | .invokestatic _ => 3 | .invokevirtual _ => 3
  | .tableswitch _ _ _ _ => 0 | .lookupswitch _ _ => 0
  | _ => 1
/-- only the law calls its own helpers -/
def xlim (mi : Nat) : Nat := if mi < 214 then 214 else 220
def xokI (mi pc : Nat) (r : xRow) : Bool := match r.1 with
  | .iconst n => decide (Int32.ofInt n = r.2.2.2.2.2.1)
  | .bipush n => decide ((Int8.ofInt n).toInt32 = r.2.2.2.2.2.1)
  | .sipush n => decide ((Int16.ofInt n).toInt32 = r.2.2.2.2.2.1)
  | .iinc _ n => decide (Int32.ofInt n = r.2.2.2.2.2.1)
  | .ldc2_w i => xhas r.2.2.2.2.1 (.constantLong (xme mi).1.cls i r.2.2.2.2.2.2.1)
  | .ifCond _ o => decide ((pc : Int) + o = (r.2.2.1 : Int))
  | .if_icmp _ o => decide ((pc : Int) + o = (r.2.2.1 : Int))
  | .goto o => decide ((pc : Int) + o = (r.2.2.1 : Int))
  | .tableswitch d lo hi offs => decide ((pc : Int) + d = (r.2.2.1 : Int)) && (decide (hi = lo + offs.size - 1) && xswt pc lo offs.toList r.2.2.2.2.2.2.2)
  | .lookupswitch d ps => decide ((pc : Int) + d = (r.2.2.1 : Int)) && ((ps.toList.zip (ps.toList.drop 1)).all (fun (a, next) => a.1 < next.1) && xswp pc ps.toList r.2.2.2.2.2.2.2)
  | .getfield i => xfok (xme mi).1.cls i r.2.2.1 r.2.2.2.1 r.2.2.2.2.1
  | .putfield i => xfok (xme mi).1.cls i r.2.2.1 r.2.2.2.1 r.2.2.2.2.1 && xfin (xme mi).1 r.2.2.1 r.2.2.2.1
  | .newarray t => xhas r.2.2.2.2.1 (.arrayClass (newarray.typeOf t))
  | .new i => if r.2.2.1 < 8 then xhas r.2.2.2.2.1 (.classLink (xme mi).1.cls i (xcl r.2.2.1).1) else true
  | .invokevirtual i => if r.2.2.1 < 1000 then (decide (r.2.2.1 < xlim mi) && (xlink (xme mi).1.cls i (xme r.2.2.1).1 r.2.2.2.2.1 r.2.2.2.2.2.2.1 && (decide (0 < r.2.2.2.1) && (xpar (xme r.2.2.1).1 (r.2.2.2.1 - 1) && (decide ((xme r.2.2.1).2.2.2.2.1 ≠ 99) && decide ((xme r.2.2.1).1.name ≠ "<init>")))))) else true
  | .invokespecial i => if r.2.2.1 < 1000 then (decide (r.2.2.1 < xlim mi) && (xhas r.2.2.2.2.1 (.methodLink (xme mi).1.cls i (xme r.2.2.1).1) && (decide (0 < r.2.2.2.1) && (xpar (xme r.2.2.1).1 (r.2.2.2.1 - 1) && (decide ((xme r.2.2.1).1.name = "<init>") && (decide ((xme r.2.2.1).2.2.2.1 = none) && decide ((xme r.2.2.1).2.2.2.2.1 ≠ 99))))))) else (if r.2.2.1 = 1000 then xhas r.2.2.2.2.1 (.methodLink (xme mi).1.cls i objectInit) else true)
  | .invokestatic i => if r.2.2.1 < 1000 then (decide (r.2.2.1 < xlim mi) && (xhas r.2.2.2.2.1 (.methodLink (xme mi).1.cls i (xme r.2.2.1).1) && (xpar (xme r.2.2.1).1 r.2.2.2.1 && decide ((xme r.2.2.1).2.2.2.2.1 = 99)))) else (if r.2.2.1 = 1001 then xhas r.2.2.2.2.1 (.methodLink (xme mi).1.cls i Lib.Math.max.name) else true)
  | _ => true
def xok (mi pc : Nat) (r : xRow) : Bool := decide (decode (xby mi) pc = .ok (r.1, r.2.1)) && ((xlen r.1 == 0 || xlen r.1 == r.2.1) && xokI mi pc r)
def xall (mi : Nat) : Bool := (List.range (xcs.getD mi []).length).all fun pc => match xrow mi pc with
  | none => true
  | some r => xok mi pc r
theorem xall_row {mi pc : Nat} {r : xRow} (h : xall mi = true) (hr : xrow mi pc = some r) : xok mi pc r = true := by
  have hlt : pc < (xcs.getD mi []).length := by
    rcases Nat.lt_or_ge pc (xcs.getD mi []).length with q | q
    · exact q
    · unfold xrow at hr
      rw [List.getD_eq_getElem?_getD, List.getElem?_eq_none q] at hr
      cases hr
  have h1 := List.all_eq_true.mp h pc (List.mem_range.mpr hlt)
  rw [hr] at h1
  exact h1
/-- what is asked of a method -/
def xokM (mi : Nat) : Bool :=
  (if mi < 214 then xhas (xme mi).2.2.2.2.2.1 (.code (xme mi).1 (xme mi).2.1 (xme mi).2.2.1 (xme mi).2.2.2.1) else true) &&
  ((if (xme mi).2.2.2.2.1 = 99 then (if mi < 220 then xhas (xme mi).2.2.2.2.2.2.1 (.static (xme mi).1) else true) else (xhas (xme mi).2.2.2.2.2.2.1 (.instanceMethod (xme mi).1) && (decide ((xme mi).1.cls = (xcl (xme mi).2.2.2.2.1).1) && (decide ((xme mi).2.2.2.2.1 < 8) &&
    (if (xme mi).1.name = "<init>" then true else xhas (xme mi).2.2.2.2.2.2.2.1 (.selects (xme mi).1.cls (xme mi).1 (xme mi).1)))))) &&
  (xhas (xme mi).2.2.2.2.2.2.2.2 (.initialized (xme mi).1.cls) && (decide ((xme mi).1.cls ≠ "java/lang/invoke/MethodHandle") && (decide ((xme mi).1.cls ≠ "java/lang/invoke/VarHandle") && (plainName (xme mi).1.cls && decide ((xme mi).2.2.1 ≤ 40))))))
