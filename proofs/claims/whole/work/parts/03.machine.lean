-- THE LITTLE MACHINE: the same bytecode, resolved, over a heap of cells that are lists of values
abbrev LCell : Type := Option ((Nat × List Value) ⊕ (FieldType × List Value))
/-- the next number of a cell, how many slots were made, the cells -/
abbrev LHeap : Type := Nat × Nat × (Nat → LCell)
def hRd (h : LHeap) (a : Nat) : LCell := h.2.2 a
def hWr (h : LHeap) (a : Nat) (c : LCell) : LHeap := (h.1, h.2.1, fun x => if x = a then c else h.2.2 x)
def hNew (h : LHeap) (sl : Nat) (c : LCell) : LHeap := (h.1 + 1, h.2.1 + sl, fun x => if x = h.1 then c else h.2.2 x)
abbrev LLoc : Type := List (Option Value)
abbrev LRes : Type := (Option Nat × LLoc × List Value × LHeap) ⊕ (Option Value ⊕ (Nat × List Value × List Value))
def lGet (ls : LLoc) (i : Nat) : Option Value := match ls[i]? with
  | some (some v) => some v
  | _ => none
/-- no long ends in the slot -/
def lFree (ls : LLoc) (i : Nat) : Bool := match i with
  | 0 => true
  | j + 1 => match lGet ls j with
    | some v => v.category == 1
    | none => true
def withI (st : List Value) (f : Int32 → List Value → Option LRes) : Option LRes := match st with
  | .int x :: r => f x r
  | _ => none
def withL (st : List Value) (f : Int64 → List Value → Option LRes) : Option LRes := match st with
  | .long x :: r => f x r
  | _ => none
def withR (st : List Value) (f : Nat → List Value → Option LRes) : Option LRes := match st with
  | .ref x :: r => f x r
  | _ => none
def withObj (c : LCell) (f : Nat → List Value → Option LRes) : Option LRes := match c with
  | some (.inl (ci, fs)) => f ci fs
  | _ => none
def withArr (c : LCell) (f : FieldType → List Value → Option LRes) : Option LRes := match c with
  | some (.inr (ty, vs)) => f ty vs
  | _ => none
def withV (v : Option Value) (f : Value → Option LRes) : Option LRes := match v with
  | some v => f v
  | none => none
def nx (ls : LLoc) (st : List Value) (h : LHeap) : Option LRes := some (.inl (none, ls, st, h))
def jp (t : Int) (ls : LLoc) (st : List Value) (h : LHeap) : Option LRes := some (.inl (some t.toNat, ls, st, h))
def gd (c : Prop) [Decidable c] (r : Option LRes) : Option LRes := if c then r else none
def cmpC (c : ClassFile.Cond) (x y : Int32) : Bool := match c with
  | .eq => decide (x = y)
  | .ne => decide (¬ x = y)
  | .lt => decide (x < y)
  | .ge => decide (y ≤ x)
  | .gt => decide (y < x)
  | .le => decide (x ≤ y)
def cpyL (v0 : List Value) (sp : Nat) (v1 : List Value) (dp n : Nat) : List Value := v1.take dp ++ ((v0.drop sp).take n ++ v1.drop (dp + n))
def tyState : FieldType := .object "WakeOrder$State"
def stepI (d : Nat) (i : Instr) (ls : LLoc) (st : List Value) (h : LHeap) : Option LRes :=
  match i with
  | .nop => nx ls st h
  | .iconst z => nx ls (.int (Int32.ofInt z) :: st) h
  | .jsr_w z => nx ls (.long (Int64.ofInt z) :: st) h
  | .aconst_null => nx ls (.null :: st) h
  | .iload i => withV (lGet ls i) fun v => withI [v] fun x _ => nx ls (.int x :: st) h
  | .lload i => withV (lGet ls i) fun v => withL [v] fun x _ => nx ls (.long x :: st) h
  | .aload i => withV (lGet ls i) fun v => withR [v] fun a _ => nx ls (.ref a :: st) h
  | .istore i => withI st fun x r => gd (lFree ls i = true ∧ i < ls.length) (nx (ls.set i (some (.int x))) r h)
  | .lstore i => withL st fun x r => gd (lFree ls i = true ∧ i + 1 < ls.length) (nx ((ls.set i (some (.long x))).set (i + 1) none) r h)
  | .astore i => withR st fun a r => gd (lFree ls i = true ∧ i < ls.length) (nx (ls.set i (some (.ref a))) r h)
  | .iinc i z => withV (lGet ls i) fun v => withI [v] fun x _ => gd (lFree ls i = true) (nx (ls.set i (some (.int (x + Int32.ofInt z)))) st h)
  | .iadd => withI st fun y r => withI r fun x r => nx ls (.int (x + y) :: r) h
  | .isub => withI st fun y r => withI r fun x r => nx ls (.int (x - y) :: r) h
  | .imul => withI st fun y r => withI r fun x r => nx ls (.int (x * y) :: r) h
  | .iand => withI st fun y r => withI r fun x r => nx ls (.int (x &&& y) :: r) h
  | .ior => withI st fun y r => withI r fun x r => nx ls (.int (x ||| y) :: r) h
  | .ixor => withI st fun y r => withI r fun x r => nx ls (.int (x ^^^ y) :: r) h
  | .ishl => withI st fun y r => withI r fun x r => nx ls (.int (x <<< (y &&& 31)) :: r) h
  | .ishr => withI st fun y r => withI r fun x r => nx ls (.int (x >>> (y &&& 31)) :: r) h
  | .iushr => withI st fun y r => withI r fun x r => nx ls (.int (x.toUInt32 >>> (y.toUInt32 &&& 31)).toInt32 :: r) h
  | .idiv => withI st fun y r => withI r fun x r => gd (¬ y = 0) (nx ls (.int (x / y) :: r) h)
  | .irem => withI st fun y r => withI r fun x r => gd (¬ y = 0) (nx ls (.int (x - x / y * y) :: r) h)
  | .ladd => withL st fun y r => withL r fun x r => nx ls (.long (x + y) :: r) h
  | .lmul => withL st fun y r => withL r fun x r => nx ls (.long (x * y) :: r) h
  | .land => withL st fun y r => withL r fun x r => nx ls (.long (x &&& y) :: r) h
  | .ldiv => withL st fun y r => withL r fun x r => gd (¬ y = 0) (nx ls (.long (x / y) :: r) h)
  | .lrem => withL st fun y r => withL r fun x r => gd (¬ y = 0) (nx ls (.long (x - x / y * y) :: r) h)
  | .lcmp => withL st fun y r => withL r fun x r => nx ls (.int (lg_cmp x y) :: r) h
  | .i2l => withI st fun x r => nx ls (.long x.toInt64 :: r) h
  | .l2i => withL st fun x r => nx ls (.int x.toInt32 :: r) h
  | .dup => match st with
    | v :: r => gd (v.category = 1) (nx ls (v :: v :: r) h)
    | [] => none
  | .dup2 => match st with
    | v :: w :: r => gd (v.category = 1 ∧ w.category = 1) (nx ls (v :: w :: v :: w :: r) h)
    | _ => none
  | .pop => withR st fun _ r => gd (0 < d ∧ r.length ≤ 4) (nx ls r h)
  | .goto t => jp t ls st h
  | .ifCond c t => withI st fun x r => if cmpC c x 0 = true then jp t ls r h else nx ls r h
  | .if_icmp c t => withI st fun y r => withI r fun x r => if cmpC c x y = true then jp t ls r h else nx ls r h
  | .ifnull t => match st with
    | .null :: r => jp t ls r h
    | .ref _ :: r => nx ls r h
    | _ => none
  | .tableswitch dflt lo hi offs => withI st fun x r => if x.toInt < lo ∨ hi < x.toInt then jp dflt ls r h else match offs[(x.toInt - lo).toNat]? with
    | some t => jp t ls r h
    | none => none
  | .lookupswitch dflt ps => withI st fun x r => jp (Op.lookupswitch.offset ps.toList dflt x.toInt) ls r h
  | .getfield n => withR st fun a r => withObj (hRd h a) fun ci fs => gd (ci = n / 64) (withV (fs[n % 64]?) fun v => nx ls (v :: r) h)
  | .putfield n => withI st fun x r => withR r fun a r => withObj (hRd h a) fun ci fs => gd (ci = n / 64) (nx ls r (hWr h a (some (.inl (ci, fs.set (n % 64) (.int x))))))
  | .putstatic n => withR st fun x r => withR r fun a r => withObj (hRd h a) fun ci fs => gd (ci = n / 64) (nx ls r (hWr h a (some (.inl (ci, fs.set (n % 64) (.ref x))))))
  | .new ci => nx ls (.ref h.1 :: st) (hNew h (clsN ci) (some (.inl (ci, clsDef ci))))
  | .newarray .int => withI st fun n r => gd (0 ≤ n ∧ n ≤ 1000) (nx ls (.ref h.1 :: r) (hNew h n.toNatClampNeg (some (.inr (.int, List.replicate n.toNatClampNeg (.int 0))))))
  | .newarray .boolean => withI st fun n r => gd (0 ≤ n ∧ n ≤ 1000) (nx ls (.ref h.1 :: r) (hNew h n.toNatClampNeg (some (.inr (.boolean, List.replicate n.toNatClampNeg (.int 0))))))
  | .anewarray _ => withI st fun n r => gd (0 ≤ n ∧ n ≤ 1000) (nx ls (.ref h.1 :: r) (hNew h n.toNatClampNeg (some (.inr (tyState, List.replicate n.toNatClampNeg .null)))))
  | .iaload => withI st fun i r => withR r fun a r => withArr (hRd h a) fun ty vs => gd (ty = .int ∧ 0 ≤ i) (withV (vs[i.toNatClampNeg]?) fun v => nx ls (v :: r) h)
  | .baload => withI st fun i r => withR r fun a r => withArr (hRd h a) fun ty vs => gd (ty = .boolean ∧ 0 ≤ i) (withV (vs[i.toNatClampNeg]?) fun v => nx ls (v :: r) h)
  | .aaload => withI st fun i r => withR r fun a r => withArr (hRd h a) fun ty vs => gd (ty = tyState ∧ 0 ≤ i) (withV (vs[i.toNatClampNeg]?) fun v => nx ls (v :: r) h)
  | .iastore => withI st fun x r => withI r fun i r => withR r fun a r => withArr (hRd h a) fun ty vs => gd (ty = .int ∧ 0 ≤ i ∧ i.toNatClampNeg < vs.length ∧ ¬ a = 0) (nx ls r (hWr h a (some (.inr (ty, vs.set i.toNatClampNeg (.int x))))))
  | .bastore => withI st fun x r => withI r fun i r => withR r fun a r => withArr (hRd h a) fun ty vs => gd (ty = .boolean ∧ 0 ≤ i ∧ i.toNatClampNeg < vs.length ∧ (x = 0 ∨ x = 1)) (nx ls r (hWr h a (some (.inr (ty, vs.set i.toNatClampNeg (.int x))))))
  | .aastore => withR st fun v r => withI r fun i r => withR r fun a r => withArr (hRd h a) fun ty vs => withObj (hRd h v) fun ci _ => gd (ty = tyState ∧ 0 ≤ i ∧ i.toNatClampNeg < vs.length ∧ ci = 7) (nx ls r (hWr h a (some (.inr (ty, vs.set i.toNatClampNeg (.ref v))))))
  | .arraylength => withR st fun a r => withArr (hRd h a) fun _ vs => nx ls (.int (Int32.ofNat vs.length) :: r) h
  | .invokedynamic _ => withI st fun n r => withI r fun dp r => withR r fun a1 r => withI r fun sp r => withR r fun a0 r =>
      withArr (hRd h a0) fun t0 v0 => withArr (hRd h a1) fun t1 v1 =>
        gd (0 < d ∧ r.length ≤ 4 ∧ t0 = .int ∧ t1 = .int ∧ 0 ≤ sp ∧ 0 ≤ dp ∧ 0 ≤ n ∧ sp.toNatClampNeg + n.toNatClampNeg ≤ v0.length ∧ dp.toNatClampNeg + n.toNatClampNeg ≤ v1.length ∧ ¬ a0 = 0 ∧ ¬ a1 = 0)
          (nx ls r (hWr h a1 (some (.inr (t1, cpyL v0 sp.toNatClampNeg v1 dp.toNatClampNeg n.toNatClampNeg)))))
  | .invokeinterface n _ => withI st fun y r => withI r fun x r => gd (0 < d ∧ r.length ≤ 4) (nx ls (.int (if n = 0 then (if x < y then y else x) else (if y < x then y else x)) :: r) h)
  | .invokestatic k => gd (mNa k ≤ st.length ∧ (st.drop (mNa k)).length ≤ 4) (some (.inr (.inr (k, (st.take (mNa k)).reverse, st.drop (mNa k)))))
  | .ireturn => match st with
    | [.int x] => some (.inr (.inl (some (.int x))))
    | _ => none
  | .areturn => match st with
    | [.int x] => gd (x = 0 ∨ x = 1) (some (.inr (.inl (some (.int x)))))
    | _ => none
  | .return_ => match st with
    | [] => some (.inr (.inl none))
    | _ => none
  | _ => none
def expV (v : Value) : LLoc := if v.category = 2 then [some v, none] else [some v]
def entL (k : Nat) (as : List Value) : LLoc := as.flatMap expV ++ List.replicate (mL k - (as.flatMap expV).length) none
def isRecv (k : Nat) (as : List Value) (h : LHeap) : Bool := match as with
  | .ref a :: _ => match hRd h a with
    | some (.inl (ci, _)) => ci == mCi k
    | _ => false
  | _ => false
def callOk (k : Nat) (as : List Value) (h : LHeap) : Bool := decide (k < nMeth ∧ ¬ k = 181 ∧ ¬ k = 182) && decide ((as.flatMap expV).length ≤ mL k) && decide (as.length = mNa k) && (mKind k == 0 || isRecv k as h)
def runF : Nat → Nat → Nat → Nat → LLoc → List Value → LHeap → Option (Option Value × LHeap)
  | 0, _, _, _, _, _, _ => none
  | n + 1, d, k, pc, ls, st, h => match (lcode k)[pc]? with
    | none => none
    | some i => match stepI d i ls st h with
      | none => none
      | some (.inl (t, ls1, st1, h1)) => runF n d k (t.getD (pc + 1)) ls1 st1 h1
      | some (.inr (.inl v)) => some (v, h)
      | some (.inr (.inr (k1, as, r))) => match d with
        | 0 => none
        | d1 + 1 => match callOk k1 as h with
          | false => none
          | true => match runF n d1 k1 0 (entL k1 as) [] h with
            | none => none
            | some (v, h1) => runF n (d1 + 1) k (pc + 1) ls (v.toList ++ r) h1
-- ===== what ties the little machine's instruction to the class file's
def memAt (p : Nat) (w : Jvm.Cond) : Bool := decide (lw_tbl[p]? = some w)
def okConst (own : String) (z : Int) (raw : Instr) (len hint : Nat) : Bool := match raw with
  | .iconst y => decide (Int32.ofInt y = Int32.ofInt z) && len == 1
  | .bipush y => decide ((Int8.ofInt y).toInt32 = Int32.ofInt z) && len == 2
  | .sipush y => decide ((Int16.ofInt y).toInt32 = Int32.ofInt z) && len == 3
  | .ldc ix => memAt hint (.constant own ix (Int32.ofInt z)) && len == 2
  | .ldc_w ix => memAt hint (.constant own ix (Int32.ofInt z)) && len == 3
  | _ => false
def okConstL (own : String) (z : Int) (raw : Instr) (len hint : Nat) : Bool := match raw with
  | .lconst n => decide (Int64.ofNat (n : Nat) = Int64.ofInt z) && len == 1
  | .ldc2_w ix => memAt hint (.constantLong own ix (Int64.ofInt z)) && len == 3
  | _ => false
def okFld (own : String) (n ix hint : Nat) : Bool := match vwCl[n / 64]? with
  | some (_, T, N) => decide (n % 64 < N) && memAt hint (.fieldLink own ix (T (n % 64)).1 (T (n % 64)).2.1 (T (n % 64)).2.2.1)
  | none => false
def okPut (k n : Nat) (rf : Bool) : Bool := match vwCl[n / 64]? with
  | some (_, T, _) => (!(T (n % 64)).2.2.2 || (decide ((mY k).name = "<init>") && decide ((T (n % 64)).1 = (mY k).cls))) && (match parseFieldDescriptor (T (n % 64)).2.2.1, rf with
    | some .int, false => true
    | some (.object _), true => true
    | some (.array _), true => true
    | _, _ => false)
  | none => false
def okTab (k pc : Nat) (a b : List Int) : Bool := match a, b with
  | [], [] => true
  | x :: a, y :: b => decide ((pc : Int) + y = (pcOf k x.toNat : Int)) && okTab k pc a b
  | _, _ => false
def okLkp (k pc : Nat) (a b : List (Int × Int)) : Bool := match a, b with
  | [], [] => true
  | x :: a, y :: b => decide (x.1 = y.1) && decide ((pc : Int) + y.2 = (pcOf k x.2.toNat : Int)) && okLkp k pc a b
  | _, _ => false
def okJ (k pc : Nat) (t off : Int) (len : Nat) : Bool := decide ((pc : Int) + off = (pcOf k t.toNat : Int)) && len == 3
def okCall (own : String) (k1 : Nat) (raw : Instr) (len hint : Nat) : Bool := len == 3 && decide (k1 < nMeth) && (match raw, mKind k1 with
  | .invokestatic ix, 0 => memAt hint (.methodLink own ix (mY k1)) || nests.contains (.methodLinkNest own ix (mY k1) "WakeOrder")
  | .invokevirtual ix, 1 => memAt hint (.methodLink own ix (mY k1)) || nests.contains (.methodLinkNest own ix (mY k1) "WakeOrder")
  | .invokespecial ix, 2 => memAt hint (.methodLink own ix (mY k1)) || nests.contains (.methodLinkNest own ix (mY k1) "WakeOrder")
  | _, _ => false)
def okB (k ip : Nat) (lm : Instr) (pc : Nat) (raw : Instr) (len hint : Nat) : Bool :=
  let own := (mY k).cls
  let nxt : Nat → Bool := fun n => len == n && pcOf k (ip + 1) == pc + n
  match lm with
  | .nop => pcOf k (ip + 1) == pc
  | .iconst z => okConst own z raw len hint && pcOf k (ip + 1) == pc + len
  | .jsr_w z => okConstL own z raw len hint && pcOf k (ip + 1) == pc + len
  | .iload i => pcOf k (ip + 1) == pc + len && (match raw with | .iload j => i == j && len == 2 | .iload_n j => i == (j : Nat) && len == 1 | _ => false)
  | .lload i => pcOf k (ip + 1) == pc + len && (match raw with | .lload j => i == j && len == 2 | .lload_n j => i == (j : Nat) && len == 1 | _ => false)
  | .aload i => pcOf k (ip + 1) == pc + len && (match raw with | .aload j => i == j && len == 2 | .aload_n j => i == (j : Nat) && len == 1 | _ => false)
  | .istore i => pcOf k (ip + 1) == pc + len && (match raw with | .istore j => i == j && len == 2 | .istore_n j => i == (j : Nat) && len == 1 | _ => false)
  | .lstore i => pcOf k (ip + 1) == pc + len && (match raw with | .lstore j => i == j && len == 2 | .lstore_n j => i == (j : Nat) && len == 1 | _ => false)
  | .astore i => pcOf k (ip + 1) == pc + len && (match raw with | .astore j => i == j && len == 2 | .astore_n j => i == (j : Nat) && len == 1 | _ => false)
  | .iinc i z => nxt 3 && decide (raw = .iinc i z)
  | .pop => nxt 3 && (match raw with | .invokespecial ix => memAt hint (.methodLink own ix objectInit) | _ => false)
  | .goto t => match raw with | .goto off => okJ k pc t off len | _ => false
  | .ifCond c t => nxt 3 && (match raw with | .ifCond c1 off => decide (c = c1) && okJ k pc t off len | _ => false)
  | .if_icmp c t => nxt 3 && (match raw with | .if_icmp c1 off => decide (c = c1) && okJ k pc t off len | _ => false)
  | .ifnull t => nxt 3 && (match raw with | .ifnull off => okJ k pc t off len | _ => false)
  | .tableswitch d lo hi os => match raw with | .tableswitch d1 lo1 hi1 os1 => lo == lo1 && hi == hi1 && decide ((pc : Int) + d1 = (pcOf k d.toNat : Int)) && okTab k pc os.toList os1.toList | _ => false
  | .lookupswitch d ps => match raw with | .lookupswitch d1 ps1 => decide ((pc : Int) + d1 = (pcOf k d.toNat : Int)) && okLkp k pc ps.toList ps1.toList && (ps1.toList.zip (ps1.toList.drop 1)).all (fun (a, next) => a.1 < next.1) | _ => false
  | .getfield n => nxt 3 && (match raw with | .getfield ix => okFld own n ix hint | _ => false)
  | .putfield n => nxt 3 && (match raw with | .putfield ix => okFld own n ix hint && okPut k n false | _ => false)
  | .putstatic n => nxt 3 && (match raw with | .putfield ix => okFld own n ix hint && okPut k n true | _ => false)
  | .new ci => nxt 3 && (match raw, vwCl[ci]? with | .new ix, some (C, _, N) => memAt hint (.classLink own ix C) && clsN ci == N | _, _ => false)
  | .newarray t => nxt 2 && decide (raw = .newarray t)
  | .anewarray _ => nxt 3 && (match raw with | .anewarray ix => memAt hint (.classLink own ix "WakeOrder$State") | _ => false)
  | .invokedynamic _ => nxt 3 && (match raw with | .invokestatic ix => memAt hint (.methodLink own ix arraycopyName) | _ => false)
  | .invokeinterface n _ => nxt 3 && (match raw with | .invokestatic ix => memAt hint (.methodLink own ix (if n = 0 then Lib.Math.max.name else Lib.Math.min.name)) | _ => false)
  | .invokestatic k1 => nxt 3 && okCall own k1 raw len hint
  | .ireturn => decide (raw = .ireturn) && len == 1 && decide (mRet k = some .int)
  | .areturn => decide (raw = .ireturn) && len == 1 && decide (mRet k = some .boolean)
  | .return_ => decide (raw = .return_) && len == 1 && decide (mRet k = none)
  | i => nxt 1 && decide (raw = i)
def okRow (k ip : Nat) (r : LRow) : Bool := (match decode (mB k) r.2.1 with | .ok q => decide (q = (r.2.2.1, r.2.2.2.1)) | .error _ => false) && okB k ip r.1 r.2.1 r.2.2.1 r.2.2.2.1 r.2.2.2.2
def okNop (k ip : Nat) (r : LRow) : Bool := decide (r.1 = .nop) && pcOf k (ip + 1) == r.2.1
def okRows (k : Nat) : List LRow → Nat → Bool
  | [], _ => true
  | r :: rs, ip => (okNop k ip r || okRow k ip r) && okRows k rs (ip + 1)
def okHead (k : Nat) : Bool :=
  let y := mY k
  plainName y.cls && decide (y.cls ≠ "java/lang/invoke/MethodHandle" ∧ y.cls ≠ "java/lang/invoke/VarHandle" ∧ (parseMethodDescriptor y.desc).map (fun d => d.parameters.length) = some (mNp k)) &&
    memAt (mHc k) (.code y (mB k) (mL k) (mRet k)) && memAt (mHi k) (.initialized y.cls) && decide (mL k ≤ 11) &&
    (match mKind k with
    | 0 => memAt (mHm k) (.static y) && mNa k == mNp k
    | 1 => memAt (mHm k) (.instanceMethod y) && memAt (mHs k) (.selects y.cls y y) && mNa k == mNp k + 1 && (match vwCl[mCi k]? with | some q => decide (q.1 = y.cls) | none => false)
    | 2 => memAt (mHm k) (.instanceMethod y) && decide (y.name = "<init>") && decide (mRet k = none) && mNa k == mNp k + 1
    | _ => false)
def nCh (k : Nat) : Nat := ((mRows k).length + 39) / 40
def okChunk (k i : Nat) : Bool := okRows k (((mRows k).drop (40 * i)).take 40) (40 * i)
def okRowsAll (k : Nat) : Prop := ∀ i, i < nCh k → okChunk k i = true
def okHeadAll (k : Nat) : Prop := k = 181 ∨ k = 182 ∨ okHead k = true
