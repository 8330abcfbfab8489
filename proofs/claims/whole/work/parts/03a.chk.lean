/-! what the tables are checked for -/
def ax_fl (own : String) (idx a b : Nat) : Option Jvm.Cond := match cls_all[a]? with
  | some q => if b < q.2.2 && (q.2.1 b).1 == q.1 then some (.fieldLink own idx q.1 (q.2.1 b).2.1 (q.2.1 b).2.2.1) else none
  | none => none
def ax_fln (own : String) (idx a b : Nat) : Option Jvm.Cond := match cls_all[a]? with
  | some q => if b < q.2.2 && (q.2.1 b).1 == q.1 then some (.fieldLinkNest own idx q.1 (q.2.1 b).2.1 (q.2.1 b).2.2.1 "MatrixDesk") else none
  | none => none
def ax_inl (i : Nat) (c : Option Jvm.Cond) : Bool := match c with
  | some w => decide (lw_tbl[i]? = some w)
  | none => false
def ax_npar (d : String) : Option Nat := (parseMethodDescriptor d).map (fun q => q.parameters.length)
def ax_yok (y : MethodName) : Bool := decide (y.cls ≠ "java/lang/invoke/MethodHandle") && decide (y.cls ≠ "java/lang/invoke/VarHandle")
/-- the name of an exception's constructor -/
def ax_xn (t : Nat) : MethodName := ⟨if t = 9 then R_Io else R_Ia, "<init>", "(Ljava/lang/String;)V"⟩
def ax_txt (k : Nat) : String := if k = 2 then "there is no such matrix" else if k = 3 then "rows and columns are 1 to 6" else if k = 4 then "there is no such row or column" else "a number is below 10^18 in size"
abbrev ax_P5 : Type := String × Nat × Nat × Nat × List Nat
def ax_pc0 (q : ax_P5) : Bool := match q.2.2.2.2 with
  | [i] => ax_inl i (ax_fl q.1 q.2.1 q.2.2.1 q.2.2.2.1)
  | _ => false
def ax_pc1 (q : ax_P5) : Bool := match q.2.2.2.2 with
  | [i] => ax_inl i (ax_fln q.1 q.2.1 q.2.2.1 q.2.2.2.1)
  | _ => false
def ax_pc2 (q : ax_P5) : Bool := match q.2.2.2.2 with
  | [i, _] => decide (q.2.2.1 = 1) && ax_inl i (some (.fieldLinkNest q.1 q.2.1 "MatrixDesk" "UNITS" "[I" "MatrixDesk"))
  | _ => false
def ax_pc3 (q : ax_P5) : Bool := match q.2.2.2.2, cls_all[q.2.2.1]? with
  | [i, j, k], some c => decide (q.2.2.1 < 11) && ax_inl i (some (.classLink q.1 q.2.1 c.1)) && ax_inl j (some (.instantiable c.1 c.2.2)) && ax_inl k (some (.initialized c.1))
  | _, _ => false
def ax_pc4 (q : ax_P5) : Bool := match q.2.2.2.2, cls_all[q.2.2.1]? with
  | [i, j], some c => decide (ax_ty (30 + q.2.2.1) = some (.object c.1)) && ax_inl i (some (.classLink q.1 q.2.1 c.1)) && ax_inl j (some (.arrayOver (.object c.1)))
  | _, _ => false
def ax_pc5 (q : ax_P5) : Bool := match q.2.2.2.2, ax_kI[q.2.2.1]? with
  | [i], some x => ax_inl i (some (.constant q.1 q.2.1 x))
  | _, _ => false
def ax_pc6 (q : ax_P5) : Bool := match q.2.2.2.2, ax_kJ[q.2.2.1]? with
  | [i], some x => ax_inl i (some (.constantLong q.1 q.2.1 x))
  | _, _ => false
def ax_ix (a : Nat) : Nat := if a = 2 then 223 else if a = 3 then 69 else if a = 4 then 226 else 86
def ax_pc7 (q : ax_P5) : Bool := match q.2.2.2.2 with
  | [i] => decide (2 ≤ q.2.2.1) && decide (q.2.2.1 < 6) && decide (q.1 = "MatrixDesk") && decide (q.2.1 = ax_ix q.2.2.1) && ax_inl i (some (.stringRef q.1 q.2.1 (ax_txt q.2.2.1)))
  | _ => false
/-- a link of either kind -/
def ax_ml (nest : Bool) (own : String) (idx : Nat) (y : MethodName) : Jvm.Cond := if nest then .methodLinkNest own idx y "MatrixDesk" else .methodLink own idx y
def ax_pcS (nest : Bool) (q : ax_P5) : Bool := match q.2.2.2.2, ax_who[q.2.2.1]? with
  | [i, j, k], some y => ax_yok y.1 && decide (q.2.2.2.1 < 100) && decide (ax_npar y.1.desc = some q.2.2.2.1) && ax_inl i (some (ax_ml nest q.1 q.2.1 y.1)) && ax_inl j (some (.static y.1)) && ax_inl k (some (.initialized y.1.cls))
  | _, _ => false
def ax_pcV (nest : Bool) (q : ax_P5) : Bool := match q.2.2.2.2, ax_who[q.2.2.1]? with
  | [i, j, k, n], some y => ax_yok y.1 && decide (100 ≤ q.2.2.2.1) && decide ((cls_all[q.2.2.2.1 / 100 - 1]?).map (fun c => c.1) = some y.1.cls) && decide (q.2.2.2.1 / 100 - 1 < 11) && decide ((ax_npar y.1.desc).map (fun z => z + 1) = some (q.2.2.2.1 % 100)) && ax_inl i (some (ax_ml nest q.1 q.2.1 y.1)) && ax_inl j (some (.instanceMethod y.1)) && ax_inl k (some (.selects y.1.cls y.1 y.1)) && ax_inl n (some (.initialized y.1.cls))
  | _, _ => false
def ax_pcI (nest : Bool) (q : ax_P5) : Bool := match q.2.2.2.2, ax_who[q.2.2.1]? with
  | [i, j, k], some y => ax_yok y.1 && decide (y.1.name = "<init>") && decide (y.2.2.1 = none) && decide (100 ≤ q.2.2.2.1) && decide ((ax_npar y.1.desc).map (fun z => z + 1) = some (q.2.2.2.1 % 100)) && ax_inl i (some (ax_ml nest q.1 q.2.1 y.1)) && ax_inl j (some (.instanceMethod y.1)) && ax_inl k (some (.initialized y.1.cls))
  | _, _ => false
def ax_pcO (y : MethodName) (q : ax_P5) : Bool := match q.2.2.2.2 with
  | [i] => ax_inl i (some (.methodLink q.1 q.2.1 y))
  | _ => false
def ax_pchk (q : Nat × ax_P5) : Bool := match q.1 with
  | 0 => ax_pc0 q.2
  | 1 => ax_pc1 q.2
  | 2 => ax_pc2 q.2
  | 3 => ax_pc3 q.2
  | 4 => ax_pc4 q.2
  | 5 => ax_pc5 q.2
  | 6 => ax_pc6 q.2
  | 7 => ax_pc7 q.2
  | 10 => ax_pcS false q.2
  | 13 => ax_pcS true q.2
  | 11 => ax_pcV false q.2
  | 14 => ax_pcV true q.2
  | 12 => ax_pcI false q.2
  | 15 => ax_pcI true q.2
  | 20 => ax_pcO Lib.objectInit q.2
  | 21 => (decide (q.2.2.2.2.1 = 9) || decide (q.2.2.2.2.1 = 10)) && ax_pcO (ax_xn q.2.2.2.2.1) q.2
  | 22 => ax_pcO arraycopyName q.2
  | _ => false
/-- the pool's entry j is of one of these kinds, of this owner and index, and gives a and b -/
def ax_pj (j : Nat) (ks : List Nat) (own : String) (idx a b : Nat) : Bool := match ax_pool[j]? with
  | some (k, o, i, a', b', _) => ks.contains k && decide (i = idx) && decide (a' = a) && decide (b' = b) && decide (o = own)
  | none => false
def ax_echk (own : String) (isInit : Bool) (pc : Nat) (e : ax_E) : Bool := match e.1 with
  | .tableswitch d _ _ offs => decide (0 ≤ (pc : Int) + d) && offs.all (fun o => decide (0 ≤ (pc : Int) + o))
  | .goto off => decide (e.2.1 = 3) && decide ((pc : Int) + off = (e.2.2.1 : Int))
  | .ifCond _ off => decide (e.2.1 = 3) && decide ((pc : Int) + off = (e.2.2.1 : Int))
  | .if_icmp _ off => decide (e.2.1 = 3) && decide ((pc : Int) + off = (e.2.2.1 : Int))
  | .getfield idx => decide (e.2.1 = 3) && ax_pj e.2.2.2.2 [0, 1] own idx e.2.2.1 e.2.2.2.1 && decide (e.2.2.1 < 9)
  | .putfield idx => decide (e.2.1 = 3) && ax_pj e.2.2.2.2 [0, 1] own idx e.2.2.1 e.2.2.2.1 && decide (e.2.2.1 < 9) && (match cls_all[e.2.2.1]? with
    | some q => !(q.2.1 e.2.2.2.1).2.2.2 || (isInit && decide (q.1 = own) && ax_pj e.2.2.2.2 [0] own idx e.2.2.1 e.2.2.2.1)
    | none => false)
  | .getstatic idx => decide (e.2.1 = 3) && ax_pj e.2.2.2.2 [2] own idx e.2.2.1 e.2.2.2.1
  | .new idx => decide (e.2.1 = 3) && ax_pj e.2.2.2.2 [3] own idx e.2.2.1 e.2.2.2.1
  | .anewarray idx => decide (e.2.1 = 3) && ax_pj e.2.2.2.2 [4] own idx e.2.2.1 e.2.2.2.1
  | .ldc idx => decide (e.2.1 = 2) && ((decide (e.2.2.2.1 = 0) && ax_pj e.2.2.2.2 [5] own idx e.2.2.1 0) || (decide (e.2.2.2.1 = 1) && ax_pj e.2.2.2.2 [7] own idx e.2.2.1 0))
  | .ldc_w idx => decide (e.2.1 = 3) && decide (e.2.2.2.1 = 0) && ax_pj e.2.2.2.2 [5] own idx e.2.2.1 0
  | .ldc2_w idx => decide (e.2.1 = 3) && ax_pj e.2.2.2.2 [6] own idx e.2.2.1 0
  | .invokevirtual idx => decide (e.2.1 = 3) && decide (e.2.2.1 < 1000) && ax_pj e.2.2.2.2 [11, 14] own idx e.2.2.1 e.2.2.2.1
  | .invokestatic idx => decide (e.2.1 = 3) && ((decide (e.2.2.1 = 1002) && ax_pj e.2.2.2.2 [22] own idx 1002 0) || (decide (e.2.2.1 < 1000) && ax_pj e.2.2.2.2 [10, 13] own idx e.2.2.1 e.2.2.2.1))
  | .invokespecial idx => decide (e.2.1 = 3) && ((decide (e.2.2.1 = 1000) && ax_pj e.2.2.2.2 [20] own idx 1000 0) || (decide (e.2.2.1 = 1001) && (ax_pj e.2.2.2.2 [21] own idx 1001 9 || ax_pj e.2.2.2.2 [21] own idx 1001 10)) || (decide (e.2.2.1 < 1000) && ax_pj e.2.2.2.2 [12, 15] own idx e.2.2.1 e.2.2.2.1))
  | i => decide (e.2.1 = ax_len i)
def ax_cchk (own : String) (isInit : Bool) (bytes : ByteArray) : Nat → List (Option ax_E) → Bool
  | _, [] => true
  | pc, none :: r => ax_cchk own isInit bytes (pc + 1) r
  | pc, some e :: r => decide (decode bytes pc = .ok (e.1, e.2.1)) && ax_echk own isInit pc e && ax_cchk own isInit bytes (pc + 1) r
def ax_rk (rk : Nat) (ret : Option FieldType) : Bool := match rk, ret with
  | 0, none => true
  | 1, some .int => true
  | 2, some .boolean => true
  | 3, some .long => true
  | 4, some (.object _) => true
  | 4, some (.array _) => true
  | _, _ => false
/-- the handlers as the words have them -/
def ax_ht (tab : List (Nat × Nat × Nat × Nat)) : List (Nat × Nat × Nat × Nat) := tab.map (fun q => (q.1, q.2.1, q.2.2.1, if q.2.2.2 = 9 then 13 else 15))
def ax_cw (y : MethodName) (bytes : ByteArray) (maxL : Nat) (ret : Option FieldType) (tab : List (Nat × Nat × Nat × Nat)) : Jvm.Cond := if tab.isEmpty then .code y bytes maxL ret else .codeWith y bytes maxL ret (ax_ht tab)
def ax_mchk (z : Nat) : Bool := match ax_prog[z]?, ax_who[z]? with
  | some M, some y => ax_cchk y.1.cls (decide (y.1.name = "<init>")) y.2.1 0 M.1 && ax_rk M.2.2.1 y.2.2.1 && plainFor y.1 && (decide (z = 185) || ax_inl y.2.2.2 (some (ax_cw y.1 y.2.1 M.2.1 y.2.2.1 M.2.2.2))) && (M.2.2.2.isEmpty || decide (y.1.cls = "MatrixDeskLaw")) && M.2.2.2.all (fun q => decide (q.2.2.2 = 9) || decide (q.2.2.2 = 10))
  | _, _ => false
