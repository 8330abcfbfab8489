/-! THE ABSTRACT MACHINE. Its values are the model's own: .ref i stands for the i-th cell that was made since the law's entry, .retAddr k for the k-th thing that was there before
    (0: the script; 1: the static array UNITS; from 2 on: the texts of the exceptions). Its world is the list of the cells made: (tag, contents). Tags: 0 to 10 an object of that class of cls_all,
    20 int[], 21 long[], 22 char[], 23 boolean[], 30 + k an array of references to class k. -/
abbrev ax_W : Type := List (Nat × List Value)
abbrev ax_E : Type := Instr × Nat × Nat × Nat × Nat
abbrev ax_M : Type := List (Option ax_E) × Nat × Nat × List (Nat × Nat × Nat × Nat)
def ax_v (B : Nat) (X : Nat → Value) : Value → Value
  | .ref i => .ref (B + i)
  | .retAddr k => X k
  | .int x => .int x
  | .long x => .long x
  | .null => .null
  | .float x => .float x
  | .double x => .double x
def ax_lI (o : Option (Option Value)) (st : List Value) : Option (List Value) := match o with
  | some (some (.int x)) => some (.int x :: st)
  | _ => none
def ax_lL (o : Option (Option Value)) (st : List Value) : Option (List Value) := match o with
  | some (some (.long x)) => some (.long x :: st)
  | _ => none
def ax_lA (o : Option (Option Value)) (st : List Value) : Option (List Value) := match o with
  | some (some (.ref x)) => some (.ref x :: st)
  | some (some (.retAddr x)) => some (.retAddr x :: st)
  | some (some .null) => some (.null :: st)
  | _ => none
def ax_ii (f : Int32 → Int32 → Int32) (st : List Value) : Option (List Value) := match st with
  | .int y :: .int x :: r => some (.int (f x y) :: r)
  | _ => none
def ax_iz (f : Int32 → Int32 → Int32) (st : List Value) : Option (List Value) := match st with
  | .int y :: .int x :: r => if y = 0 then none else some (.int (f x y) :: r)
  | _ => none
def ax_i1 (f : Int32 → Int32) (st : List Value) : Option (List Value) := match st with
  | .int x :: r => some (.int (f x) :: r)
  | _ => none
def ax_ll (f : Int64 → Int64 → Int64) (st : List Value) : Option (List Value) := match st with
  | .long y :: .long x :: r => some (.long (f x y) :: r)
  | _ => none
def ax_lz (f : Int64 → Int64 → Int64) (st : List Value) : Option (List Value) := match st with
  | .long y :: .long x :: r => if y = 0 then none else some (.long (f x y) :: r)
  | _ => none
def ax_l1 (f : Int64 → Int64) (st : List Value) : Option (List Value) := match st with
  | .long x :: r => some (.long (f x) :: r)
  | _ => none
def ax_li (f : Int64 → Int32 → Int64) (st : List Value) : Option (List Value) := match st with
  | .int y :: .long x :: r => some (.long (f x y) :: r)
  | _ => none
def ax_i2l (st : List Value) : Option (List Value) := match st with
  | .int x :: r => some (.long x.toInt64 :: r)
  | _ => none
def ax_l2i (st : List Value) : Option (List Value) := match st with
  | .long x :: r => some (.int x.toInt32 :: r)
  | _ => none
def ax_lc (st : List Value) : Option (List Value) := match st with
  | .long y :: .long x :: r => some (.int (lg_cmp x y) :: r)
  | _ => none
/-- a value of one slot -/
def ax_c1 : Value → Bool
  | .long _ => false
  | .double _ => false
  | _ => true
def ax_dup (st : List Value) : Option (List Value) := match st with
  | v :: r => if ax_c1 v then some (v :: v :: r) else none
  | _ => none
def ax_pop (st : List Value) : Option (List Value) := match st with
  | v :: r => if ax_c1 v then some r else none
  | _ => none
def ax_dup2 (st : List Value) : Option (List Value) := match st with
  | .long x :: r => some (.long x :: .long x :: r)
  | v :: u :: r => if ax_c1 v && ax_c1 u then some (v :: u :: v :: u :: r) else none
  | _ => none
def ax_pop2 (st : List Value) : Option (List Value) := match st with
  | .long _ :: r => some r
  | v :: u :: r => if ax_c1 v && ax_c1 u then some r else none
  | _ => none
/-- instructions that change the operand stack alone, and may read locals -/
def ax_st (i : Instr) (ls : List (Option Value)) (st : List Value) : Option (List Value) := match i with
  | .iconst n => some (.int (Int32.ofInt n) :: st)
  | .bipush n => some (.int ((Int8.ofInt n).toInt32) :: st)
  | .sipush n => some (.int ((Int16.ofInt n).toInt32) :: st)
  | .lconst n => some (.long (Int64.ofNat (n : Nat)) :: st)
  | .iload n => ax_lI ls[n]? st
  | .iload_n n => ax_lI ls[(n : Nat)]? st
  | .lload n => ax_lL ls[n]? st
  | .lload_n n => ax_lL ls[(n : Nat)]? st
  | .aload n => ax_lA ls[n]? st
  | .aload_n n => ax_lA ls[(n : Nat)]? st
  | .iadd => ax_ii (fun x y => x + y) st
  | .isub => ax_ii (fun x y => x - y) st
  | .imul => ax_ii (fun x y => x * y) st
  | .iand => ax_ii (fun x y => x &&& y) st
  | .ixor => ax_ii (fun x y => x ^^^ y) st
  | .idiv => ax_iz (fun x y => x / y) st
  | .irem => ax_iz (fun x y => x - x / y * y) st
  | .ineg => ax_i1 (fun x => -x) st
  | .ishl => ax_ii (fun x y => x <<< (y &&& 31)) st
  | .ishr => ax_ii (fun x y => x >>> (y &&& 31)) st
  | .iushr => ax_ii (fun x y => (x.toUInt32 >>> (y.toUInt32 &&& Int32.toUInt32 31)).toInt32) st
  | .ladd => ax_ll (fun x y => x + y) st
  | .lsub => ax_ll (fun x y => x - y) st
  | .lmul => ax_ll (fun x y => x * y) st
  | .land => ax_ll (fun x y => x &&& y) st
  | .lor => ax_ll (fun x y => x ||| y) st
  | .ldiv => ax_lz (fun x y => x / y) st
  | .lrem => ax_lz (fun x y => x - x / y * y) st
  | .lneg => ax_l1 (fun x => -x) st
  | .lshl => ax_li (fun x y => x <<< (y.toInt64 &&& 63)) st
  | .lshr => ax_li (fun x y => x >>> (y.toInt64 &&& 63)) st
  | .lushr => ax_li (fun x y => (x.toUInt64 >>> (y.toInt64.toUInt64 &&& Int64.toUInt64 63)).toInt64) st
  | .i2l => ax_i2l st
  | .l2i => ax_l2i st
  | .i2c => ax_i1 (fun x => (x.toUInt32 % 65536).toInt32) st
  | .lcmp => ax_lc st
  | .dup => ax_dup st
  | .dup2 => ax_dup2 st
  | .pop => ax_pop st
  | .pop2 => ax_pop2 st
  | _ => none
/-- a store at n ends a value of two slots that began at n - 1 -/
def ax_clr (ls : List (Option Value)) (n : Nat) : List (Option Value) := match n with
  | 0 => ls
  | k + 1 => match ls[k]? with
    | some (some v) => if ax_c1 v then ls else ls.set k none
    | _ => ls
def ax_set1 (ls : List (Option Value)) (n : Nat) (v : Value) : List (Option Value) := (ax_clr ls n).set n (some v)
def ax_set2 (ls : List (Option Value)) (n : Nat) (v : Value) : List (Option Value) := ((ax_clr ls n).set n (some v)).set (n + 1) none
def ax_sI (n : Nat) (ls : List (Option Value)) (st : List Value) : Option (List (Option Value) × List Value) := match st with
  | .int x :: r => if n < ls.length then some (ax_set1 ls n (.int x), r) else none
  | _ => none
def ax_sL (n : Nat) (ls : List (Option Value)) (st : List Value) : Option (List (Option Value) × List Value) := match st with
  | .long x :: r => if n + 1 < ls.length then some (ax_set2 ls n (.long x), r) else none
  | _ => none
def ax_sA (n : Nat) (ls : List (Option Value)) (st : List Value) : Option (List (Option Value) × List Value) := match st with
  | .ref x :: r => if n < ls.length then some (ax_set1 ls n (.ref x), r) else none
  | .retAddr x :: r => if n < ls.length then some (ax_set1 ls n (.retAddr x), r) else none
  | _ => none
def ax_inc (n : Nat) (k : Int) (ls : List (Option Value)) (st : List Value) : Option (List (Option Value) × List Value) := match ls[n]? with
  | some (some (.int x)) => some (ax_set1 ls n (.int (x + Int32.ofInt k)), st)
  | _ => none
/-- instructions that write a local -/
def ax_sto (i : Instr) (ls : List (Option Value)) (st : List Value) : Option (List (Option Value) × List Value) := match i with
  | .istore n => ax_sI n ls st
  | .istore_n n => ax_sI n ls st
  | .lstore n => ax_sL n ls st
  | .lstore_n n => ax_sL n ls st
  | .astore n => ax_sA n ls st
  | .astore_n n => ax_sA n ls st
  | .iinc n k => ax_inc n k ls st
  | _ => none
def ax_cmp : Jvm.ClassFile.Cond → Int32 → Int32 → Bool
  | .eq, x, y => decide (x = y)
  | .ne, x, y => !decide (x = y)
  | .lt, x, y => decide (x < y)
  | .ge, x, y => decide (y ≤ x)
  | .gt, x, y => decide (y < x)
  | .le, x, y => decide (x ≤ y)
/-- where a branch goes: t its target, n the next instruction -/
def ax_br (i : Instr) (t n : Nat) (pc : Nat) (st : List Value) : Option (Nat × List Value) := match i with
  | .goto _ => some (t, st)
  | .ifCond c _ => (match st with
    | .int x :: r => some (if ax_cmp c x 0 then t else n, r)
    | _ => none)
  | .if_icmp c _ => (match st with
    | .int y :: .int x :: r => some (if ax_cmp c x y then t else n, r)
    | _ => none)
  | .tableswitch d lo hi offs => (match st with
    | .int x :: r => if x.toInt < lo || hi < x.toInt then some (((pc : Int) + d).toNat, r) else (match offs[(x.toInt - lo).toNat]? with
      | some off => some (((pc : Int) + off).toNat, r)
      | none => none)
    | _ => none)
  | _ => none
/-- the kinds of fields: 0 int, 1 boolean, 2 reference -/
def ax_fit (k : Nat) (v : Value) : Bool := match k, v with
  | 0, .int _ => true
  | 1, .int x => x == 0 || x == 1
  | 2, .ref _ => true
  | 2, .null => true
  | _, _ => false
def ax_rd (w : ax_W) (i t : Nat) (j : Int32) : Option Value := match w[i]? with
  | some (t', vs) => if t' = t then (if j < 0 then none else vs[j.toNatClampNeg]?) else none
  | none => none
def ax_wr (w : ax_W) (i t : Nat) (j : Int32) (v : Value) : Option ax_W := match w[i]? with
  | some (t', vs) => if t' = t then (if j < 0 then none else if j.toNatClampNeg < vs.length then some (w.set i (t, vs.set j.toNatClampNeg v)) else none) else none
  | none => none
/-- what is read outside: the script's numbers, the nine units -/
def ax_units : List Int32 := [100000000, 10000000, 1000000, 100000, 10000, 1000, 100, 10, 1]
def ax_ext (xs : List Int32) (k : Nat) : Option (List Int32) := match k with
  | 0 => some xs
  | 1 => some ax_units
  | _ => none
def ax_ald (t : Nat) (xs : List Int32) (st : List Value) (w : ax_W) : Option (List Value) := match st with
  | .int j :: .ref i :: r => (match ax_rd w i t j with
    | some v => some (v :: r)
    | none => none)
  | .int j :: .retAddr k :: r => if t = 20 then (match ax_ext xs k with
    | some ys => if j < 0 then none else (match ys[j.toNatClampNeg]? with
      | some y => some (.int y :: r)
      | none => none)
    | none => none) else none
  | _ => none
/-- an array of references: any tag from 30 on -/
def ax_aald (st : List Value) (w : ax_W) : Option (List Value) := match st with
  | .int j :: .ref i :: r => (match w[i]? with
    | some (t, vs) => if t < 30 then none else if j < 0 then none else (match vs[j.toNatClampNeg]? with
      | some v => some (v :: r)
      | none => none)
    | none => none)
  | _ => none
def ax_ast (t : Nat) (st : List Value) (w : ax_W) : Option (List Value × ax_W) := match st with
  | .int x :: .int j :: .ref i :: r => (match ax_wr w i t j (.int x) with
    | some w' => some (r, w')
    | none => none)
  | _ => none
def ax_last (st : List Value) (w : ax_W) : Option (List Value × ax_W) := match st with
  | .long x :: .int j :: .ref i :: r => (match ax_wr w i 21 j (.long x) with
    | some w' => some (r, w')
    | none => none)
  | _ => none
/-- a char is from 0 to 65535, a boolean 0 or 1 -/
def ax_cast (t : Nat) (hi : Int32) (st : List Value) (w : ax_W) : Option (List Value × ax_W) := match st with
  | .int x :: _ => if x < 0 || hi < x then none else ax_ast t st w
  | _ => none
def ax_aast (st : List Value) (w : ax_W) : Option (List Value × ax_W) := match st with
  | .ref x :: .int j :: .ref i :: r => (match w[x]? with
    | some (c, _) => (match ax_wr w i (30 + c) j (.ref x) with
      | some w' => some (r, w')
      | none => none)
    | none => none)
  | _ => none
def ax_alen (xs : List Int32) (st : List Value) (w : ax_W) : Option (List Value) := match st with
  | .ref i :: r => (match w[i]? with
    | some (t, vs) => if t < 20 then none else some (.int vs.length.toInt32 :: r)
    | none => none)
  | .retAddr k :: r => (match ax_ext xs k with
    | some ys => some (.int ys.length.toInt32 :: r)
    | none => none)
  | _ => none
def ax_get (c k : Nat) (st : List Value) (w : ax_W) : Option (List Value) := match st with
  | .ref i :: r => (match w[i]? with
    | some (c', fs) => if c' = c then (match fs[k]? with
      | some v => some (v :: r)
      | none => none) else none
    | none => none)
  | _ => none
/-- fk: the kind of the field -/
def ax_put (c k fk : Nat) (st : List Value) (w : ax_W) : Option (List Value × ax_W) := match st with
  | v :: .ref i :: r => if ax_fit fk v then (match w[i]? with
    | some (c', fs) => if c' = c then (if k < fs.length then some (r, w.set i (c, fs.set k v)) else none) else none
    | none => none) else none
  | _ => none
/-- how many slots a cell takes: an exception's are not followed, but counted -/
def ax_cs (q : Nat × List Value) : Nat := if q.1 = 9 then 6 else if q.1 = 10 then 6 else q.2.length
def ax_sz (w : ax_W) : Nat := (w.map ax_cs).sum
/-- the first contents of an object of a class: by the kinds of its fields -/
def ax_dfl (k : Nat) : Value := if k = 2 then .null else .int 0
def ax_newa (t : Nat) (d : Value) (st : List Value) (w : ax_W) : Option (List Value × ax_W) := match st with
  | .int n :: r => if n < 0 || 100000 < n then none else some (.ref w.length :: r, w ++ [(t, List.replicate n.toNatClampNeg d)])
  | _ => none
/-- fields of class c: their kinds -/
def ax_new (kinds : List (List Nat)) (c : Nat) (st : List Value) (w : ax_W) : Option (List Value × ax_W) := match kinds[c]? with
  | some ks => some (.ref w.length :: st, w ++ [(c, ks.map ax_dfl)])
  | none => none
def ax_at (t : ArrayType) : Option (Nat × Value) := match t with
  | .int => some (20, .int 0)
  | .long => some (21, .long 0)
  | .char => some (22, .int 0)
  | .boolean => some (23, .int 0)
  | _ => none
/-- one entry: the instruction, its length, and a, b, j: what the pool gives -/
def ax_hp (kinds : List (List Nat)) (kI : List Int32) (kJ : List Int64) (xs : List Int32) (e : ax_E) (st : List Value) (w : ax_W) : Option (List Value × ax_W) := match e.1 with
  | .iaload => (ax_ald 20 xs st w).map (fun r => (r, w))
  | .laload => (ax_ald 21 xs st w).map (fun r => (r, w))
  | .caload => (ax_ald 22 xs st w).map (fun r => (r, w))
  | .baload => (ax_ald 23 xs st w).map (fun r => (r, w))
  | .aaload => (ax_aald st w).map (fun r => (r, w))
  | .arraylength => (ax_alen xs st w).map (fun r => (r, w))
  | .getfield _ => (ax_get e.2.2.1 e.2.2.2.1 st w).map (fun r => (r, w))
  | .getstatic _ => some (.retAddr e.2.2.1 :: st, w)
  | .ldc _ => if e.2.2.2.1 = 0 then (match kI[e.2.2.1]? with
    | some x => some (.int x :: st, w)
    | none => none) else some (.retAddr e.2.2.1 :: st, w)
  | .ldc_w _ => if e.2.2.2.1 = 0 then (match kI[e.2.2.1]? with
    | some x => some (.int x :: st, w)
    | none => none) else some (.retAddr e.2.2.1 :: st, w)
  | .ldc2_w _ => (match kJ[e.2.2.1]? with
    | some x => some (.long x :: st, w)
    | none => none)
  | .iastore => ax_ast 20 st w
  | .lastore => ax_last st w
  | .castore => ax_cast 22 65535 st w
  | .bastore => ax_cast 23 1 st w
  | .aastore => ax_aast st w
  | .putfield _ => (match kinds[e.2.2.1]? with
    | some ks => (match ks[e.2.2.2.1]? with
      | some fk => ax_put e.2.2.1 e.2.2.2.1 fk st w
      | none => none)
    | none => none)
  | .new _ => ax_new kinds e.2.2.1 st w
  | .newarray t => (match ax_at t with
    | some (tg, d) => ax_newa tg d st w
    | none => none)
  | .anewarray _ => ax_newa (30 + e.2.2.1) .null st w
  | _ => none
/-- one step that is no call, no return, no throw -/
def ax_step (kinds : List (List Nat)) (kI : List Int32) (kJ : List Int64) (xs : List Int32) (e : ax_E) (pc : Nat) (ls : List (Option Value)) (st : List Value) (w : ax_W) : Option (Nat × List (Option Value) × List Value × ax_W) :=
  match ax_st e.1 ls st with
  | some st' => some (pc + e.2.1, ls, st', w)
  | none => match ax_sto e.1 ls st with
    | some (ls', st') => some (pc + e.2.1, ls', st', w)
    | none => match ax_br e.1 e.2.2.1 (pc + e.2.1) pc st with
      | some (pc', st') => some (pc', ls, st', w)
      | none => match ax_hp kinds kI kJ xs e st w with
        | some (st', w') => some (pc + e.2.1, ls, st', w')
        | none => none
/-- the end of a method: rk 0 void, 1 int, 2 boolean, 3 long, 4 a reference -/
def ax_ret (rk : Nat) (i : Instr) (st : List Value) : Option (Option Value) := match i with
  | .return_ => (match st with
    | [] => if rk = 0 then some none else none
    | _ => none)
  | .ireturn => (match st with
    | [.int x] => if rk = 1 then some (some (.int x)) else if rk = 2 then (if x = 0 then some (some (.int x)) else if x = 1 then some (some (.int x)) else none) else none
    | _ => none)
  | .lreturn => (match st with
    | [.long x] => if rk = 3 then some (some (.long x)) else none
    | _ => none)
  | .areturn => (match st with
    | [.ref x] => if rk = 4 then some (some (.ref x)) else none
    | _ => none)
  | _ => none
def ax_sl : List Value → List (Option Value)
  | [] => []
  | v :: vs => if ax_c1 v then some v :: ax_sl vs else some v :: none :: ax_sl vs
def ax_ent (as : List Value) (n : Nat) : List (Option Value) := ax_sl as ++ List.replicate (n - (ax_sl as).length) none
def ax_wt (v : Value) : Nat := if ax_c1 v then 1 else 2
def ax_hdl (tab : List (Nat × Nat × Nat × Nat)) (pc t : Nat) : Option Nat := match tab with
  | [] => none
  | (s, e, h, c) :: r => if s ≤ pc && pc < e && c == t then some h else ax_hdl r pc t
def ax_rcv (rc : Nat) (as : List Value) (w : ax_W) : Bool := match rc with
  | 0 => true
  | t + 1 => match as with
    | .ref i :: _ => (match w[i]? with
      | some (t', _) => t' == t
      | none => false)
    | _ => false
def ax_is (t : Nat) (v : Value) : Bool := match v with
  | .int _ => t == 20
  | .long _ => t == 21
  | _ => false
def ax_cpy (st : List Value) (w : ax_W) : Option (List Value × ax_W) := match st with
  | .int n :: .int dp :: .ref b :: .int sp :: .ref a :: r => (match w[a]?, w[b]? with
    | some (t, us), some (t', vs) => if t = t' && (t == 20 || t == 21) && !(decide (n < 0)) && !(decide (dp < 0)) && !(decide (sp < 0)) && decide (sp.toNatClampNeg + n.toNatClampNeg ≤ us.length) && decide (dp.toNatClampNeg + n.toNatClampNeg ≤ vs.length) && ((us.drop sp.toNatClampNeg).take n.toNatClampNeg).all (ax_is t) then
        some (r, w.set b (t, vs.take dp.toNatClampNeg ++ (us.drop sp.toNatClampNeg).take n.toNatClampNeg ++ vs.drop (dp.toNatClampNeg + n.toNatClampNeg))) else none
    | _, _ => none)
  | _ => none
/-- an exception's fields before its constructor: cause, stackTrace, suppressedExceptions, detailMessage, backtrace, depth; afterwards they are not followed any more -/
def ax_xf : List Value := [.null, .null, .null, .null, .null, .int 0]
/-- calls that are laws of the library: 1000 Object's constructor, 1001 the constructor of an exception with a text, 1002 System.arraycopy -/
def ax_spc (fr lo a : Nat) (st : List Value) (w : ax_W) : Option (List Value × ax_W) := match a with
  | 1000 => (match st with
    | .ref _ :: r => if fr = 0 then none else if lo < 30 then none else if 8 < (r.map ax_wt).sum then none else some (r, w)
    | _ => none)
  | 1001 => (match st with
    | .retAddr k :: .ref i :: r => if fr < 7 then none else if lo < 200 then none else if 8 < (r.map ax_wt).sum then none else if k < 2 then none else (match w[i]? with
      | some (t, fs) => if fs = ax_xf then (if t = 9 then some (r, w.set i (t, [])) else if t = 10 then some (r, w.set i (t, [])) else none) else none
      | none => none)
    | _ => none)
  | 1002 => if fr = 0 then none else if lo < 100 then none else if 18 < (st.map ax_wt).sum then none else ax_cpy st w
  | _ => none
/-- THE MACHINE: method z at pc, with fr frames and lo words of stack left; calls have their number in a, and in b what they take: the number of values, and 100 times (1 + the receiver's class) -/
def ax_ex (P : Nat → Option ax_M) (kinds : List (List Nat)) (kI : List Int32) (kJ : List Int64) (xs : List Int32) : Nat → Nat → Nat → Nat → Nat → List (Option Value) → List Value → ax_W → Option (Outcome × ax_W)
  | 0, _, _, _, _, _, _, _ => none
  | f + 1, fr, lo, z, pc, ls, st, w =>
    match P z with
    | none => none
    | some M =>
      match M.1[pc]? with
      | some (some e) =>
        match ax_ret M.2.2.1 e.1 st with
        | some v => some (.returned v, w)
        | none =>
          match e.1 with
          | .athrow =>
            match st with
            | .ref i :: _ => if M.2.2.2.isEmpty then some (.threw i, w) else none
            | _ => none
          | .invokevirtual _ | .invokestatic _ | .invokespecial _ =>
            if 1000 ≤ e.2.2.1 then
              match ax_spc fr lo e.2.2.1 st w with
              | some (st', w') => ax_ex P kinds kI kJ xs f fr lo z (pc + 3) ls st' w'
              | none => none
            else
              match P e.2.2.1 with
              | none => none
              | some M' =>
                if fr = 0 then none else if lo < M'.2.1 + 19 then none else if st.length < e.2.2.2.1 % 100 then none else if 8 < ((st.drop (e.2.2.2.1 % 100)).map ax_wt).sum then none else if M'.2.1 < (ax_sl (st.take (e.2.2.2.1 % 100)).reverse).length then none else
                if ax_rcv (e.2.2.2.1 / 100) (st.take (e.2.2.2.1 % 100)).reverse w then
                  match ax_ex P kinds kI kJ xs f (fr - 1) (lo - (M'.2.1 + 19)) e.2.2.1 0 (ax_ent (st.take (e.2.2.2.1 % 100)).reverse M'.2.1) [] w with
                  | none => none
                  | some (.returned v, w') => ax_ex P kinds kI kJ xs f fr lo z (pc + 3) ls (v.toList ++ st.drop (e.2.2.2.1 % 100)) w'
                  | some (.threw i, w') =>
                    match w'[i]? with
                    | none => none
                    | some (t, _) =>
                      match ax_hdl M.2.2.2 pc t with
                      | some h => ax_ex P kinds kI kJ xs f fr lo z h ls [.ref i] w'
                      | none => if M.2.2.2.isEmpty then some (.threw i, w') else none
                else none
          | _ =>
            match ax_step kinds kI kJ xs e pc ls st w with
            | some (pc', ls', st', w') => ax_ex P kinds kI kJ xs f fr lo z pc' ls' st' w'
            | none => none
      | _ => none
/-- the length of an instruction of fixed length -/
def ax_len (i : Instr) : Nat := match i with
  | .bipush _ => 2
  | .sipush _ => 3
  | .iload _ => 2
  | .lload _ => 2
  | .aload _ => 2
  | .istore _ => 2
  | .lstore _ => 2
  | .astore _ => 2
  | .iinc _ _ => 3
  | .goto _ => 3
  | .ifCond _ _ => 3
  | .if_icmp _ _ => 3
  | .getfield _ => 3
  | .putfield _ => 3
  | .getstatic _ => 3
  | .ldc _ => 2
  | .ldc_w _ => 3
  | .ldc2_w _ => 3
  | .new _ => 3
  | .newarray _ => 2
  | .anewarray _ => 3
  | .invokevirtual _ => 3
  | .invokestatic _ => 3
  | .invokespecial _ => 3
  | _ => 1
def ax_ty (t : Nat) : Option FieldType := match t with
  | 20 => some .int
  | 21 => some .long
  | 22 => some .char
  | 23 => some .boolean
  | 32 => some (.object "MatrixDesk$Matrix")
  | 35 => some (.object "MatrixDesk$Row")
  | 37 => some (.object "MatrixDesk$Whole")
  | _ => none
