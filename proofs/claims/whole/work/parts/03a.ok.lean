/-! THE TABLES ARE RIGHT: every entry of the code tables is what the bytes decode to, and its resolved operands are what the words of lw_tbl say -/
def TBg : List Cond := lw_tbl.filter goodWord
def isNW : Cond → Bool
  | .fieldLinkNest _ _ _ _ _ _ => true
  | .methodLinkNest _ _ _ _ => true
  | .castable _ _ => true
  | .arrayOver (.object _) => true
  | _ => false
def NWL : List Cond := lw_tbl.filter isNW
def atW (w : Cond) (p : Nat) : Bool := decide (lw_tbl[p]? = some w)
theorem atW_mem {w : Cond} {p : Nat} (h : atW w p = true) : w ∈ lw_tbl := List.mem_of_getElem? (of_decide_eq_true h)
theorem atW_good {w : Cond} {p : Nat} (h : atW w p = true) (g : goodWord w = true) : w ∈ TBg := List.mem_filter.mpr ⟨atW_mem h, g⟩
theorem atW_nw {w : Cond} {p : Nat} (h : atW w p = true) (g : isNW w = true) : w ∈ NWL := List.mem_filter.mpr ⟨atW_mem h, g⟩
def clsT (c : Nat) : vw_C := CL.getD c ("", TX13, 0)
def ownN (o : Nat) : String := OW.getD o ""
def mrow (y : Nat) : MR := MT.getD y (0, ⟨"", "", ""⟩, .mk #[], 0, none, 0, false, 0, 0, 0, 0)
def acpN : MethodName := ⟨"java/lang/System", "arraycopy", "(Ljava/lang/Object;ILjava/lang/Object;II)V"⟩
def rowN : MethodName := ⟨"RoundMapsLaw", "row", "(LRoundMaps;I[J)I"⟩
def cloN : MethodName := ⟨"[I", "clone", "()Ljava/lang/Object;"⟩
def mnam (y : Nat) : MethodName := if y = 9000 then objInitN else if y = 9001 then acpN else if y = 9002 then rowN else if y = 9003 then cloN else (mrow y).2.1
def wF (q : Nat × Nat × Nat × Nat × Nat × String) : Cond := match q with
  | (o, ix, c, k, _, host) => if host = "" then .fieldLink (ownN o) ix ((clsT c).2.1 k).1 ((clsT c).2.1 k).2.1 ((clsT c).2.1 k).2.2.1 else .fieldLinkNest (ownN o) ix ((clsT c).2.1 k).1 ((clsT c).2.1 k).2.1 ((clsT c).2.1 k).2.2.1 host
def wM (q : Nat × Nat × Nat × Nat × String) : Cond := match q with
  | (o, ix, y, _, host) => if host = "" then .methodLink (ownN o) ix (mnam y) else .methodLinkNest (ownN o) ix (mnam y) host
theorem FL_ok : FL.all (fun q => atW (wF q) q.2.2.2.2.1 && decide (q.2.2.2.1 < (clsT q.2.2.1).2.2)) = true := by decide +kernel
theorem ML_ok : ML.all (fun q => atW (wM q) q.2.2.2.1) = true := by decide +kernel
theorem NL_ok : NL.all (fun q => atW (.classLink (ownN q.1) q.2.1 (clsT q.2.2.1).1) q.2.2.2) = true := by decide +kernel
theorem IL_ok : IL.all (fun q => atW (.constant (ownN q.1) q.2.1 q.2.2.1) q.2.2.2) = true := by decide +kernel
theorem JL_ok : JL.all (fun q => atW (.constantLong (ownN q.1) q.2.1 q.2.2.1) q.2.2.2) = true := by decide +kernel
theorem GL_ok : GL.all (fun q => atW (.fieldLink (ownN q.1) q.2.1 "java/lang/String" "COMPACT_STRINGS" "Z") q.2.2) = true := by decide +kernel
theorem CW_ok : (List.range 13).all (fun c => match CW.getD c (0, 0, 0, []) with
  | (n, pi, pn, ls) => decide (n = (clsT c).2.2) && (atW (.instantiable (clsT c).1 n) pi && (atW (.initialized (clsT c).1) pn && (List.range n).all (fun k => atW (u_lay (clsT c).1 (clsT c).2.1 k) (ls.getD k 0))))) = true := by decide +kernel
/-- a method's words: its code, its kind, its choice, its class -/
def okR (r : MR) : Bool := match r with
  | (o, y, cc, mx, rt, np, st, pc, pk, ps, pn) => decide (ownN o = y.cls) && (atW (.initialized y.cls) pn && (plainFor y && (decide (y.cls ≠ "java/lang/invoke/MethodHandle" ∧ y.cls ≠ "java/lang/invoke/VarHandle") && (decide (mx ≤ 60) &&
    (if st then atW (.static y) pk && decide ((parseMethodDescriptor y.desc).map (fun d => d.parameters.length) = some np)
     else atW (.instanceMethod y) pk && (decide ((parseMethodDescriptor y.desc).map (fun d => d.parameters.length) = some (np - 1)) && (decide (1 ≤ np) && (decide (y.name = "<init>") || atW (.selects y.cls y y) ps))))))))
def wC (r : MR) : Cond := .code r.2.1 r.2.2.1 r.2.2.2.1 r.2.2.2.2.1
set_option maxRecDepth 100000 in
theorem MT0_ok : MT0.all okR = true := by decide +kernel
set_option maxRecDepth 100000 in
theorem MT0_cd : MT0.map wC = (MT0.map (fun r => r.2.2.2.2.2.2.2.1)).filterMap (fun i => lw_tbl[i]?) := rfl
set_option maxRecDepth 100000 in
theorem MT1_ok : MT1.all okR = true := by decide +kernel
set_option maxRecDepth 100000 in
theorem MT1_cd : MT1.map wC = (MT1.map (fun r => r.2.2.2.2.2.2.2.1)).filterMap (fun i => lw_tbl[i]?) := rfl
set_option maxRecDepth 100000 in
theorem MT2_ok : MT2.all okR = true := by decide +kernel
set_option maxRecDepth 100000 in
theorem MT2_cd : MT2.map wC = (MT2.map (fun r => r.2.2.2.2.2.2.2.1)).filterMap (fun i => lw_tbl[i]?) := rfl
set_option maxRecDepth 100000 in
theorem MT3_ok : MT3.all okR = true := by decide +kernel
set_option maxRecDepth 100000 in
theorem MT3_cd : MT3.map wC = (MT3.map (fun r => r.2.2.2.2.2.2.2.1)).filterMap (fun i => lw_tbl[i]?) := rfl
set_option maxRecDepth 100000 in
theorem MT4_ok : MT4.all okR = true := by decide +kernel
set_option maxRecDepth 100000 in
theorem MT4_cd : MT4.map wC = (MT4.map (fun r => r.2.2.2.2.2.2.2.1)).filterMap (fun i => lw_tbl[i]?) := rfl
set_option maxRecDepth 100000 in
theorem MT5_ok : MT5.all okR = true := by decide +kernel
set_option maxRecDepth 100000 in
theorem MT5_cd : MT5.map wC = (MT5.map (fun r => r.2.2.2.2.2.2.2.1)).filterMap (fun i => lw_tbl[i]?) := rfl
set_option maxRecDepth 100000 in
theorem MT6_ok : MT6.all okR = true := by decide +kernel
set_option maxRecDepth 100000 in
theorem MT6_cd : MT6.map wC = (MT6.map (fun r => r.2.2.2.2.2.2.2.1)).filterMap (fun i => lw_tbl[i]?) := rfl
set_option maxRecDepth 100000 in
theorem MT7_ok : (MT7.dropLast).all okR = true := by decide +kernel
set_option maxRecDepth 100000 in
theorem MT7_cd : (MT7.dropLast).map wC = ((MT7.dropLast).map (fun r => r.2.2.2.2.2.2.2.1)).filterMap (fun i => lw_tbl[i]?) := rfl
def okT (t : Option FieldType) (k : Nat) : Bool := match t with
  | some .int => k == 0
  | some .long => k == 1
  | some .boolean => k == 2
  | some (.object _) => k == 3
  | some (.array _) => k == 3
  | _ => false
def okJ (pc a : Nat) (off : Int) : Bool := decide ((pc : Int) + off = (a : Int))
def inF (o ix a b : Nat) : Bool := FL.any (fun q => q.1 == o && (q.2.1 == ix && (q.2.2.1 == a && q.2.2.2.1 == b)))
def inM (o ix a : Nat) : Bool := ML.any (fun q => q.1 == o && (q.2.1 == ix && q.2.2.1 == a))
def inN (o ix a : Nat) : Bool := NL.any (fun q => q.1 == o && (q.2.1 == ix && q.2.2.1 == a))
/-- the resolved operands of an instruction -/
def okI (ini : Bool) (o mx : Nat) (rt : Option FieldType) (pc : Nat) : EN → Bool
  | (i, len, a, b, v, _) => match i with
    | .aconst_null => len == 1
    | .iconst k => len == 1 && decide (v = .int (Int32.ofInt k))
    | .bipush k => len == 2 && decide (v = .int (Int8.ofInt k).toInt32)
    | .sipush k => len == 3 && decide (v = .int (Int16.ofInt k).toInt32)
    | .lconst k => len == 1 && decide (v = .long (Int64.ofNat k.val))
    | .ldc k => len == 2 && (IL.any (fun q => q.1 == o && (q.2.1 == k && decide (v = .int q.2.2.1))) || SL.any (fun q => q.1 == o && (q.2.1 == k && decide (v = .ref (1048577 + q.2.2.1)))))
    | .ldc_w k => len == 3 && IL.any (fun q => q.1 == o && (q.2.1 == k && decide (v = .int q.2.2.1)))
    | .ldc2_w k => len == 3 && JL.any (fun q => q.1 == o && (q.2.1 == k && decide (v = .long q.2.2.1)))
    | .getstatic k => len == 3 && (decide (v = .int 1) && GL.any (fun q => q.1 == o && q.2.1 == k))
    | .iload _ => len == 2
    | .lload _ => len == 2
    | .aload _ => len == 2
    | .istore k => len == 2 && decide (k < mx)
    | .astore k => len == 2 && decide (k < mx)
    | .lstore k => len == 2 && decide (k + 1 < mx)
    | .istore_n k => len == 1 && decide (k.val < mx)
    | .astore_n k => len == 1 && decide (k.val < mx)
    | .lstore_n k => len == 1 && decide (k.val + 1 < mx)
    | .iinc k j => len == 3 && (decide (k < mx) && decide (v = .int (Int32.ofInt j)))
    | .goto k => len == 3 && okJ pc a k
    | .ifCond _ k => len == 3 && okJ pc a k
    | .if_icmp _ k => len == 3 && okJ pc a k
    | .ifnull k => len == 3 && okJ pc a k
    | .ifnonnull k => len == 3 && okJ pc a k
    | .tableswitch _ _ _ _ => true
    | .getfield k => len == 3 && inF o k a b
    | .putfield k => len == 3 && ((if ((clsT a).2.1 b).2.2.2 then ini && (decide (((clsT a).2.1 b).1 = ownN o) && FL.any (fun q => q.1 == o && (q.2.1 == k && (q.2.2.1 == a && (q.2.2.2.1 == b && decide (q.2.2.2.2.2 = "")))))) else inF o k a b) && (match v with
      | .retAddr t => okT (parseFieldDescriptor ((clsT a).2.1 b).2.2.1) t && decide (a < 13)
      | _ => false))
    | .new k => len == 3 && (inN o k a && (decide (b = (clsT a).2.2) && decide (a < 13)))
    | .newarray t => len == 2 && decide (t = .int ∨ t = .boolean ∨ t = .long)
    | .anewarray k => len == 3 && (inN o k a && decide (a = 2 ∨ a = 4 ∨ a = 5))
    | .checkcast k => len == 3 && decide (o = 16 ∧ k = 317)
    | .invokespecial k => len == 3 && (inM o k a && (a == 9000 || (decide (a < 310) && (decide ((mrow a).2.1.name = "<init>") && (decide (b = (mrow a).2.2.2.2.2.1) && decide ((mrow a).2.2.2.2.2.2.1 = false))))))
    | .invokevirtual k => len == 3 && (inM o k a && (a == 9003 || (decide (a < 310) && (decide (b = (mrow a).2.2.2.2.2.1) && (decide ((mrow a).2.2.2.2.2.2.1 = false) && (decide (¬ (mrow a).2.1.name = "<init>") && match v with
      | .retAddr c => decide ((clsT c).1 = (mrow a).2.1.cls ∧ c < 15)
      | _ => false))))))
    | .invokestatic k => len == 3 && (inM o k a && (a == 9001 || (a == 9002 || (decide (a < 310) && (decide (b = (mrow a).2.2.2.2.2.1) && decide ((mrow a).2.2.2.2.2.2.1 = true))))))
    | .ireturn => len == 1 && (if a = 0 then decide (rt = some .int) else if a = 1 then decide (rt = some .boolean) else (a == 2 && decide (rt = some .byte)))
    | .lreturn => len == 1 && decide (rt = some .long)
    | .areturn => len == 1 && (match rt with
      | some (.object _) => true
      | some (.array _) => true
      | _ => false)
    | .return_ => len == 1 && decide (rt = none)
    | _ => len == 1
def okE (m : Nat) (e : Nat × EN) : Bool := decide (decode (mrow m).2.2.1 e.1 = .ok (e.2.1, e.2.2.1)) && okI (decide ((mrow m).2.1.name = "<init>")) (mrow m).1 (mrow m).2.2.2.1 (mrow m).2.2.2.2.1 e.1 e.2
