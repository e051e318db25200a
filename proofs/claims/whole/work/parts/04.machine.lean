/-! THE ABSTRACT MACHINE: values are the machine's own, but for addresses: i stands for the i-th cell made since the law began; from 1048576 on: what was there before (script, texts) -/
abbrev AC : Type := (FieldType × vp_A) ⊕ (Nat × List Value)
abbrev AH : Type := Nat × Nat × (Nat → Option AC)
abbrev LV : Type := List (Option Value)
abbrev CF : Type := Nat × Nat × LV × List Value × AH
abbrev OU : Type := Option Value × AH
abbrev AT : Type := CF ⊕ (Bool × CF × CF) ⊕ (Nat × List Value × CF) ⊕ OU
def ag (h : AH) (a : Nat) : Option AC := h.2.2 a
def au (h : AH) (a : Nat) (c : AC) : AH := (h.1, h.2.1, fun b => if b = a then some c else h.2.2 b)
def an (h : AH) (n : Nat) (c : AC) : AH := (h.1 + 1, h.2.1 + n, fun b => if b = h.1 then some c else h.2.2 b)
abbrev cI (n : Nat) (f : Nat → Int32) : AC := .inl (.int, n, .inl f)
abbrev cZ (n : Nat) (f : Nat → Int32) : AC := .inl (.boolean, n, .inl f)
abbrev cJ (n : Nat) (f : Nat → Int64) : AC := .inl (.long, n, .inr (.inl f))
abbrev cR (C : String) (n : Nat) (f : Nat → Option Nat) : AC := .inl (.object C, n, .inr (.inr (.inr (.inr f))))
abbrev cO (ci : Nat) (fs : List Value) : AC := .inr (ci, fs)
def ob {α β : Type} (o : Option α) (k : α → Option β) : Option β := match o with
  | some x => k x
  | none => none
def pI {α : Type} (st : List Value) (k : Int32 → List Value → Option α) : Option α := match st with
  | .int x :: t => k x t
  | _ => none
def pJ {α : Type} (st : List Value) (k : Int64 → List Value → Option α) : Option α := match st with
  | .long x :: t => k x t
  | _ => none
def pR {α : Type} (st : List Value) (k : Nat → List Value → Option α) : Option α := match st with
  | .ref x :: t => k x t
  | _ => none
def pV {α : Type} (st : List Value) (k : Value → List Value → Option α) : Option α := match st with
  | x :: t => k x t
  | _ => none
def gO {α : Type} (c : Option AC) (k : Nat → List Value → Option α) : Option α := match c with
  | some (.inr (ci, fs)) => k ci fs
  | _ => none
def gI {α : Type} (c : Option AC) (k : FieldType → Nat → (Nat → Int32) → Option α) : Option α := match c with
  | some (.inl (ty, n, .inl f)) => k ty n f
  | _ => none
def gJ {α : Type} (c : Option AC) (k : FieldType → Nat → (Nat → Int64) → Option α) : Option α := match c with
  | some (.inl (ty, n, .inr (.inl f))) => k ty n f
  | _ => none
def gR {α : Type} (c : Option AC) (k : FieldType → Nat → (Nat → Option Nat) → Option α) : Option α := match c with
  | some (.inl (ty, n, .inr (.inr (.inr (.inr f))))) => k ty n f
  | _ => none
def gL {α : Type} (c : Option AC) (k : Nat → Option α) : Option α := match c with
  | some (.inl (_, n, _)) => k n
  | _ => none
def gC {α : Type} (t : FieldType) (k : String → Option α) : Option α := match t with
  | .object C => k C
  | _ => none
def gT {α : Type} (b : Prop) [Decidable b] (k : Option α) : Option α := if b then k else none
def gX {α : Type} (i : Int32) (n : Nat) (k : Option α) : Option α := if i < 0 ∨ n ≤ i.toNatClampNeg then none else k
def ld : LV → Nat → Option Value
  | [], _ => none
  | x :: _, 0 => x
  | _ :: t, k + 1 => ld t k
def killL (x : Option Value) : Option Value := match x with
  | some (.long _) => none
  | some (.double _) => none
  | y => y
def ss1 : LV → Nat → Value → LV
  | _ :: t, 0, v => some v :: t
  | x :: _ :: t, 1, v => killL x :: some v :: t
  | x :: t, n + 2, v => x :: ss1 t (n + 1) v
  | _, _, _ => []
def ss2 : LV → Nat → Value → LV
  | _ :: _ :: t, 0, v => some v :: none :: t
  | x :: _ :: _ :: t, 1, v => killL x :: some v :: none :: t
  | x :: t, n + 2, v => x :: ss2 t (n + 1) v
  | _, _, _ => []
def trimB : List Bool → LV → LV
  | true :: bs, x :: xs => x :: trimB bs xs
  | false :: bs, _ :: xs => none :: trimB bs xs
  | _, _ => []
def trimO (o : Option (List Bool)) (lv : LV) : LV := match o with
  | none => lv
  | some bs => trimB bs lv
def popN : Nat → List Value → List Value → Option (List Value × List Value)
  | 0, st, acc => some (acc, st)
  | n + 1, v :: st, acc => popN n st (v :: acc)
  | _ + 1, [], _ => none
def layA : List Value → LV
  | [] => []
  | .long x :: t => some (.long x) :: none :: layA t
  | .double x :: t => some (.double x) :: none :: layA t
  | v :: t => some v :: layA t
def padL : Nat → LV → LV
  | 0, lv => lv
  | n + 1, [] => none :: padL n []
  | n + 1, x :: t => x :: padL n t
def cmpB (c : Jvm.ClassFile.Cond) (x y : Int32) : Bool := match c with
  | .eq => decide (x = y)
  | .ne => decide (¬ x = y)
  | .lt => decide (x < y)
  | .ge => decide (y ≤ x)
  | .gt => decide (y < x)
  | .le => decide (x ≤ y)
def jmpT (pc : Nat) (off : Int) : Nat := ((pc : Int) + off).toNat
def swT (pc : Nat) (dflt lo hi : Int) (offs : Array Int) (x : Int32) : Option Nat :=
  if x.toInt < lo ∨ hi < x.toInt then (if 0 ≤ (pc : Int) + dflt then some (jmpT pc dflt) else none)
  else ob (offs[(x.toInt - lo).toNat]?) (fun off => if 0 ≤ (pc : Int) + off then some (jmpT pc off) else none)
def cl (i : Int32) : Nat := i.toNatClampNeg
def updZ (f : Nat → Int32) (i : Nat) (x : Int32) : Nat → Int32 := upd f i (vp_nar .boolean x)
/-- may a value of kind t (0 int, 1 long, 2 boolean, 3 reference) be put -/
def putOk (t : Nat) (v : Value) : Bool := match t, v with
  | 0, .int _ => true
  | 1, .long _ => true
  | 2, .int x => decide (x = 0 ∨ x = 1)
  | 3, .ref _ => true
  | 3, .null => true
  | _, _ => false
/-- RoundMapsLaw.row: what it answers, as a next state: the exception is one new cell -/
def rowB {α : Type} (h : AH) (st : List Value) (k : List Value → AH → Option α) : Option α :=
  pR st fun o st => pI st fun i st => pR st fun x st => gO (ag h x) fun (ci : Nat) (fs : List Value) => match (fs[7]? : Option Value) with
    | some (.ref t) => gO (ag h t) fun (ct : Nat) (ts : List Value) => match (ts : List Value) with
      | [.ref nm, .int tot] => gI (ag h nm) fun ty n f => gJ (ag h o) fun tyo no g =>
        gT (ci = 11 ∧ ct = 8 ∧ ty = .int ∧ tyo = .long ∧ n = 128 ∧ no = 1) <|
        if 0 ≤ i ∧ i < tot ∧ i < 128 then k (.int 0 :: st) (au h o (cJ 1 (vp_updL g 0 (f (cl i)).toInt64)))
        else gT (h.1 < 700000) (k (.int 1 :: st) (an h 16 (cO 13 [])))
      | _ => none
    | _ => none
def lI {α : Type} (o : Option Value) (k : Int32 → Option α) : Option α := match o with
  | some (.int x) => k x
  | _ => none
def lJ {α : Type} (o : Option Value) (k : Int64 → Option α) : Option α := match o with
  | some (.long x) => k x
  | _ => none
def lR {α : Type} (o : Option Value) (k : Value → Option α) : Option α := match o with
  | some (.ref x) => k (.ref x)
  | some .null => k .null
  | _ => none
def vI {α : Type} (v : Value) (k : Int32 → Option α) : Option α := match v with
  | .int x => k x
  | _ => none
def vT {α : Type} (v : Value) (k : Nat → Option α) : Option α := match v with
  | .retAddr x => k x
  | _ => none
def isR (v : Value) : Bool := match v with
  | .ref _ => true
  | .null => true
  | _ => false
def nx (m pc : Nat) (lv : LV) (st : List Value) (h : AH) : Option AT := some (.inl (m, pc, lv, st, h))
def br (b : Bool) (m p1 p2 : Nat) (lv : LV) (st : List Value) (h : AH) : Option AT := some (.inr (.inl (b, (m, p1, lv, st, h), (m, p2, lv, st, h))))
def rt (v : Option Value) (h : AH) : Option AT := some (.inr (.inr (.inr (v, h))))
def cpyB {α : Type} (h : AH) (st : List Value) (k : List Value → AH → Option α) : Option α :=
  pI st fun n st => pI st fun dp st => pR st fun d st => pI st fun sp st => pR st fun s st =>
    gT (¬ sp < 0 ∧ ¬ dp < 0 ∧ ¬ n < 0) <| match ag h s, ag h d with
    | some (.inl (.int, n0, .inl f)), some (.inl (.int, n1, .inl g)) => gT (cl sp + cl n ≤ n0 ∧ cl dp + cl n ≤ n1) (k st (au h d (cI n1 (va_cpy f g (cl sp) (cl dp) (cl n)))))
    | some (.inl (.long, n0, .inr (.inl f))), some (.inl (.long, n1, .inr (.inl g))) => gT (cl sp + cl n ≤ n0 ∧ cl dp + cl n ≤ n1) (k st (au h d (cJ n1 (va_cpy f g (cl sp) (cl dp) (cl n)))))
    | _, _ => none
def MX (m : Nat) : Nat := (MT.getD m (0, ⟨"", "", ""⟩, .mk #[], 0, none, 0, false, 0, 0, 0, 0)).2.2.2.1
def callA (m pc a b : Nat) (lv : LV) (st : List Value) (h : AH) (chk : List Value → Bool) : Option AT :=
  ob (popN b st []) fun q => gT (chk q.1 = true ∧ q.2.length ≤ 12 ∧ (layA q.1).length ≤ MX a) (some (.inr (.inr (.inl (a, q.1, (m, pc, lv, q.2, h))))))
def isO (h : AH) (c : Nat) (as : List Value) : Bool := match as with
  | .ref r :: _ => (match ag h r with
    | some (.inr (ci, _)) => ci == c
    | _ => false)
  | _ => false
def isRf (as : List Value) : Bool := match as with
  | .ref _ :: _ => true
  | _ => false
/-- one instruction: the next state, a branch, a call, or the end -/
def aI (m pc : Nat) (lv : LV) (st : List Value) (h : AH) : EN → Option AT
  | (i, len, a, b, v, _) => match i with
    | .aconst_null => nx m (pc + len) lv (.null :: st) h
    | .iconst _ => nx m (pc + len) lv (v :: st) h
    | .bipush _ => nx m (pc + len) lv (v :: st) h
    | .sipush _ => nx m (pc + len) lv (v :: st) h
    | .lconst _ => nx m (pc + len) lv (v :: st) h
    | .ldc _ => nx m (pc + len) lv (v :: st) h
    | .ldc_w _ => nx m (pc + len) lv (v :: st) h
    | .ldc2_w _ => nx m (pc + len) lv (v :: st) h
    | .getstatic _ => nx m (pc + len) lv (v :: st) h
    | .iload k => lI (ld lv k) fun x => nx m (pc + len) lv (.int x :: st) h
    | .iload_n k => lI (ld lv k.val) fun x => nx m (pc + len) lv (.int x :: st) h
    | .lload k => lJ (ld lv k) fun x => nx m (pc + len) lv (.long x :: st) h
    | .lload_n k => lJ (ld lv k.val) fun x => nx m (pc + len) lv (.long x :: st) h
    | .aload k => lR (ld lv k) fun x => nx m (pc + len) lv (x :: st) h
    | .aload_n k => lR (ld lv k.val) fun x => nx m (pc + len) lv (x :: st) h
    | .istore k => pI st fun x st => nx m (pc + len) (ss1 lv k (.int x)) st h
    | .istore_n k => pI st fun x st => nx m (pc + len) (ss1 lv k.val (.int x)) st h
    | .lstore k => pJ st fun x st => nx m (pc + len) (ss2 lv k (.long x)) st h
    | .lstore_n k => pJ st fun x st => nx m (pc + len) (ss2 lv k.val (.long x)) st h
    | .astore k => pV st fun x st => gT (isR x = true) <| nx m (pc + len) (ss1 lv k x) st h
    | .astore_n k => pV st fun x st => gT (isR x = true) <| nx m (pc + len) (ss1 lv k.val x) st h
    | .iinc k _ => lI (ld lv k) fun x => vI v fun d => nx m (pc + len) (ss1 lv k (.int (x + d))) st h
    | .iadd => pI st fun y st => pI st fun x st => nx m (pc + len) lv (.int (x + y) :: st) h
    | .isub => pI st fun y st => pI st fun x st => nx m (pc + len) lv (.int (x - y) :: st) h
    | .imul => pI st fun y st => pI st fun x st => nx m (pc + len) lv (.int (x * y) :: st) h
    | .idiv => pI st fun y st => pI st fun x st => gT (¬ y = 0) <| nx m (pc + len) lv (.int (x / y) :: st) h
    | .irem => pI st fun y st => pI st fun x st => gT (¬ y = 0) <| nx m (pc + len) lv (.int (x - x / y * y) :: st) h
    | .iand => pI st fun y st => pI st fun x st => nx m (pc + len) lv (.int (x &&& y) :: st) h
    | .ior => pI st fun y st => pI st fun x st => nx m (pc + len) lv (.int (x ||| y) :: st) h
    | .ineg => pI st fun x st => nx m (pc + len) lv (.int (-x) :: st) h
    | .ishl => pI st fun y st => pI st fun x st => nx m (pc + len) lv (.int (x <<< (y &&& 31)) :: st) h
    | .ishr => pI st fun y st => pI st fun x st => nx m (pc + len) lv (.int (x >>> (y &&& 31)) :: st) h
    | .iushr => pI st fun y st => pI st fun x st => nx m (pc + len) lv (.int ((x.toUInt32 >>> (y.toUInt32 &&& Int32.toUInt32 31)).toInt32) :: st) h
    | .i2l => pI st fun x st => nx m (pc + len) lv (.long x.toInt64 :: st) h
    | .l2i => pJ st fun x st => nx m (pc + len) lv (.int x.toInt32 :: st) h
    | .i2b => pI st fun x st => nx m (pc + len) lv (.int x.toInt8.toInt32 :: st) h
    | .i2s => pI st fun x st => nx m (pc + len) lv (.int x.toInt16.toInt32 :: st) h
    | .i2c => pI st fun x st => nx m (pc + len) lv (.int (x.toUInt32 % 65536).toInt32 :: st) h
    | .ladd => pJ st fun y st => pJ st fun x st => nx m (pc + len) lv (.long (x + y) :: st) h
    | .lsub => pJ st fun y st => pJ st fun x st => nx m (pc + len) lv (.long (x - y) :: st) h
    | .lmul => pJ st fun y st => pJ st fun x st => nx m (pc + len) lv (.long (x * y) :: st) h
    | .ldiv => pJ st fun y st => pJ st fun x st => gT (¬ y = 0) <| nx m (pc + len) lv (.long (x / y) :: st) h
    | .land => pJ st fun y st => pJ st fun x st => nx m (pc + len) lv (.long (x &&& y) :: st) h
    | .lor => pJ st fun y st => pJ st fun x st => nx m (pc + len) lv (.long (x ||| y) :: st) h
    | .lxor => pJ st fun y st => pJ st fun x st => nx m (pc + len) lv (.long (x ^^^ y) :: st) h
    | .lneg => pJ st fun x st => nx m (pc + len) lv (.long (-x) :: st) h
    | .lshl => pI st fun y st => pJ st fun x st => nx m (pc + len) lv (.long (x <<< (y.toInt64 &&& 63)) :: st) h
    | .lushr => pI st fun y st => pJ st fun x st => nx m (pc + len) lv (.long ((x.toUInt64 >>> (y.toInt64.toUInt64 &&& Int64.toUInt64 63)).toInt64) :: st) h
    | .lcmp => pJ st fun y st => pJ st fun x st => nx m (pc + len) lv (.int (lg_cmp x y) :: st) h
    | .dup => pV st fun x st => gT (x.category = 1) <| nx m (pc + len) lv (x :: x :: st) h
    | .pop => pV st fun x st => gT (x.category = 1) <| nx m (pc + len) lv st h
    | .dup2 => pV st fun x st => pV st fun y st => gT (x.category = 1 ∧ y.category = 1) <| nx m (pc + len) lv (x :: y :: x :: y :: st) h
    | .goto _ => nx m a lv st h
    | .ifCond c _ => pI st fun x st => br (cmpB c x 0) m a (pc + len) lv st h
    | .if_icmp c _ => pI st fun y st => pI st fun x st => br (cmpB c x y) m a (pc + len) lv st h
    | .ifnull _ => pV st fun x st => gT (isR x = true) <| nx m (match x with
      | .null => a
      | _ => pc + len) lv st h
    | .ifnonnull _ => pV st fun x st => gT (isR x = true) <| nx m (match x with
      | .null => pc + len
      | _ => a) lv st h
    | .tableswitch dflt lo hi offs => pI st fun x st => ob (swT pc dflt lo hi offs x) fun t => nx m t lv st h
    | .getfield _ => pR st fun r st => gO (ag h r) fun ci fs => gT (ci = a) <| ob (fs[b]?) fun w => nx m (pc + len) lv (w :: st) h
    | .putfield _ => pV st fun w st => pR st fun r st => gO (ag h r) fun ci fs => vT v fun t => gT (ci = a ∧ putOk t w = true ∧ b < fs.length) <| nx m (pc + len) lv st (au h r (cO ci (fs.set b w)))
    | .arraylength => pR st fun r st => gL (ag h r) fun n => nx m (pc + len) lv (.int (nI n) :: st) h
    | .iaload => pI st fun i st => pR st fun r st => gI (ag h r) fun ty n f => gT (ty = .int ∨ ty = .char) <| gX i n <| nx m (pc + len) lv (.int (f (cl i)) :: st) h
    | .baload => pI st fun i st => pR st fun r st => gI (ag h r) fun ty n f => gT (ty = .boolean ∨ ty = .byte) <| gX i n <| nx m (pc + len) lv (.int (f (cl i)) :: st) h
    | .laload => pI st fun i st => pR st fun r st => gJ (ag h r) fun ty n f => gT (ty = .long) <| gX i n <| nx m (pc + len) lv (.long (f (cl i)) :: st) h
    | .aaload => pI st fun i st => pR st fun r st => gR (ag h r) fun _ n f => gX i n <| nx m (pc + len) lv (va_rf (f (cl i)) :: st) h
    | .iastore => pI st fun x st => pI st fun i st => pR st fun r st => gI (ag h r) fun ty n f => gT (ty = .int) <| gX i n <| nx m (pc + len) lv st (au h r (cI n (upd f (cl i) x)))
    | .bastore => pI st fun x st => pI st fun i st => pR st fun r st => gI (ag h r) fun ty n f => gT (ty = .boolean) <| gX i n <| nx m (pc + len) lv st (au h r (cZ n (updZ f (cl i) x)))
    | .lastore => pJ st fun x st => pI st fun i st => pR st fun r st => gJ (ag h r) fun ty n f => gT (ty = .long) <| gX i n <| nx m (pc + len) lv st (au h r (cJ n (vp_updL f (cl i) x)))
    | .aastore => pR st fun x st => pI st fun i st => pR st fun r st => gR (ag h r) fun ty n f => gO (ag h x) fun ci _ => gC ty fun C => gT ((CL.getD ci ("", TX13, 0)).1 = C ∧ ci < 13) <| gX i n <| nx m (pc + len) lv st (au h r (cR C n (va_up f (cl i) (some x))))
    | .new _ => gT (h.1 < 700000) <| nx m (pc + len) lv (.ref h.1 :: st) (an h b (cO a (DFT.getD a [])))
    | .newarray t => pI st fun n st => gT (h.1 < 700000 ∧ ¬ n < 0 ∧ cl n ≤ 20000) <| ob (match t with
      | .int => some (cI (cl n) (fun _ => 0))
      | .boolean => some (cZ (cl n) (fun _ => 0))
      | .long => some (cJ (cl n) (fun _ => 0))
      | _ => none) fun c => nx m (pc + len) lv (.ref h.1 :: st) (an h (cl n) c)
    | .anewarray _ => pI st fun n st => gT (h.1 < 700000 ∧ ¬ n < 0 ∧ cl n ≤ 20000) <| nx m (pc + len) lv (.ref h.1 :: st) (an h (cl n) (cR (CL.getD a ("", TX13, 0)).1 (cl n) (fun _ => none)))
    | .checkcast _ => pR st fun r st => gI (ag h r) fun ty _ _ => gT (ty = .int) <| nx m (pc + len) lv (.ref r :: st) h
    | .invokespecial _ => if a = 9000 then pR st fun _ st => gT (st.length ≤ 12) <| nx m (pc + len) lv st h
      else callA m (pc + len) a b lv st h isRf
    | .invokevirtual _ => if a = 9003 then pR st fun r st => gI (ag h r) fun ty n f => gT (ty = .int ∧ h.1 < 700000 ∧ st.length ≤ 12) <| nx m (pc + len) lv (.ref h.1 :: st) (an h n (cI n f))
      else vT v fun c => callA m (pc + len) a b lv st h (isO h c)
    | .invokestatic _ => if a = 9001 then cpyB h st fun st h => gT (st.length ≤ 12) <| nx m (pc + len) lv st h
      else if a = 9002 then rowB h st fun st h => gT (st.length ≤ 12) <| nx m (pc + len) lv st h
      else callA m (pc + len) a b lv st h (fun _ => true)
    | .ireturn => match st with
      | [.int x] => gT ((a = 1 → x = 0 ∨ x = 1) ∧ (a = 2 → x.toInt8.toInt32 = x)) <| rt (some (.int x)) h
      | _ => none
    | .lreturn => match st with
      | [.long x] => rt (some (.long x)) h
      | _ => none
    | .areturn => match st with
      | [x] => gT (isR x = true) <| rt (some x) h
      | _ => none
    | .return_ => match st with
      | [] => rt none h
      | _ => none
    | _ => none
def aS (m pc : Nat) (lv : LV) (st : List Value) (h : AH) : Option AT := ob (KM m pc) fun e => aI m pc (trimO e.2.2.2.2.2 lv) st h e
def psh (o : OU) (st : List Value) : List Value := match o.1 with
  | some v => v :: st
  | none => st
/-- the run, with fuel f, d calls deep at most -/
def aX : Nat → Nat → CF → Option OU
  | 0, _, _ => none
  | f + 1, d, (m, pc, lv, st, h) => match aS m pc lv st h with
    | none => none
    | some (.inl c) => aX f d c
    | some (.inr (.inl (b, c1, c2))) => if b = true then aX f d c1 else aX f d c2
    | some (.inr (.inr (.inl (y, as, (m2, pc2, lv2, st2, h2))))) => match d with
      | 0 => none
      | d + 1 => ob (aX f d (y, 0, padL (MX y) (layA as), [], h2)) fun o => aX f (d + 1) (m2, pc2, lv2, psh o st2, o.2)
    | some (.inr (.inr (.inr o))) => some o
theorem aX_mono : ∀ (f d : Nat) (c : CF) (o : OU), aX f d c = some o → aX (f + 1) d c = some o := by
  intro f
  induction f with
  | zero => intro d c o h; cases h
  | succ f ih =>
    intro d c o h
    obtain ⟨m, pc, lv, st, hp⟩ := c
    rw [aX] at h ⊢
    split at h
    · cases h
    · exact ih _ _ _ h
    · split at h
      · rename_i hb; rw [if_pos hb]; exact ih _ _ _ h
      · rename_i hb; rw [if_neg hb]; exact ih _ _ _ h
    · rename_i y as m2 pc2 lv2 st2 h2 hs
      cases d with
      | zero => cases h
      | succ d =>
        dsimp only at h ⊢
        cases hc : aX f d (y, 0, padL (MX y) (layA as), [], h2) with
        | none => rw [hc] at h; cases h
        | some o1 => rw [hc] at h; rw [ih _ _ _ hc]; exact ih _ _ _ h
    · exact h
theorem aX_le {f g d : Nat} {c : CF} {o : OU} (h : aX f d c = some o) (hg : f ≤ g) : aX g d c = some o := by
  induction hg with
  | refl => exact h
  | step _ ih => exact aX_mono _ _ _ _ ih
noncomputable def aAt (d m pc : Nat) (lv : LV) (st : List Value) (h : AH) : Option OU :=
  @dite _ (∃ (f : Nat) (o : OU), aX f d (m, pc, lv, st, h) = some o) (Classical.propDecidable _) (fun H => some (Classical.choose (Classical.choose_spec H))) (fun _ => none)
theorem aAt_iff {d m pc : Nat} {lv : LV} {st : List Value} {h : AH} {o : OU} : aAt d m pc lv st h = some o ↔ ∃ f, aX f d (m, pc, lv, st, h) = some o := by
  unfold aAt
  constructor
  · intro H
    split at H
    · rename_i hx
      cases H
      exact ⟨_, Classical.choose_spec (Classical.choose_spec hx)⟩
    · cases H
  · rintro ⟨f, hf⟩
    have H : ∃ (f : Nat) (o : OU), aX f d (m, pc, lv, st, h) = some o := ⟨f, o, hf⟩
    rw [dif_pos H]
    have h1 := Classical.choose_spec (Classical.choose_spec H)
    have h2 := aX_le h1 (Nat.le_max_left _ f)
    have h3 := aX_le hf (Nat.le_max_right (Classical.choose H) f)
    rw [h2] at h3
    exact h3
noncomputable def aAtC (d : Nat) (c : CF) : Option OU := aAt d c.1 c.2.1 c.2.2.1 c.2.2.2.1 c.2.2.2.2
noncomputable def aCall (d y : Nat) (as : List Value) (h : AH) : Option OU := match d with
  | 0 => none
  | d + 1 => aAt d y 0 (padL (MX y) (layA as)) [] h
noncomputable def aR (go : CF → Option OU) (d : Nat) (a : Option AT) : Option OU := match a with
  | none => none
  | some (.inl c) => go c
  | some (.inr (.inl (b, c1, c2))) => if b = true then go c1 else go c2
  | some (.inr (.inr (.inl (y, as, (m2, pc2, lv2, st2, h2))))) => ob (aCall d y as h2) fun o => go (m2, pc2, lv2, psh o st2, o.2)
  | some (.inr (.inr (.inr o))) => some o
theorem aAtC_iff {d : Nat} {c : CF} {o : OU} : aAtC d c = some o ↔ ∃ f, aX f d c = some o := aAt_iff
theorem opt_ext {α : Type} {a b : Option α} (h : ∀ o, a = some o ↔ b = some o) : a = b := by
  cases a with
  | none =>
    cases b with
    | none => rfl
    | some b => exact absurd ((h b).mpr rfl) (by simp)
  | some a => exact ((h a).mp rfl).symm
theorem aAt_step (d m pc : Nat) (lv : LV) (st : List Value) (h : AH) : aAt d m pc lv st h = aR (aAtC d) d (aS m pc lv st h) := by
  apply opt_ext
  intro o
  rw [aAt_iff]
  constructor
  · rintro ⟨f, hf⟩
    cases f with
    | zero => cases hf
    | succ f =>
      rw [aX] at hf
      unfold aR
      split at hf
      · cases hf
      · rename_i c hs; exact aAtC_iff.mpr ⟨_, hf⟩
      · split at hf
        · rename_i hb; rw [if_pos hb]; exact aAtC_iff.mpr ⟨_, hf⟩
        · rename_i hb; rw [if_neg hb]; exact aAtC_iff.mpr ⟨_, hf⟩
      · rename_i y as m2 pc2 lv2 st2 h2 hs
        cases d with
        | zero => cases hf
        | succ d =>
          dsimp only at hf
          cases hc : aX f d (y, 0, padL (MX y) (layA as), [], h2) with
          | none => rw [hc] at hf; cases hf
          | some o1 =>
            rw [hc] at hf
            have h1 : aCall (d + 1) y as h2 = some o1 := aAt_iff.mpr ⟨_, hc⟩
            rw [h1]
            exact aAtC_iff.mpr ⟨_, hf⟩
      · exact hf
  · intro hf
    unfold aR at hf
    split at hf
    · cases hf
    · rename_i c hs
      obtain ⟨f, hf⟩ := aAtC_iff.mp hf
      exact ⟨f + 1, by rw [aX, hs]; exact hf⟩
    · rename_i b c1 c2 hs
      split at hf
      · rename_i hb
        obtain ⟨f, hf⟩ := aAtC_iff.mp hf
        exact ⟨f + 1, by rw [aX, hs]; dsimp only; rw [if_pos hb]; exact hf⟩
      · rename_i hb
        obtain ⟨f, hf⟩ := aAtC_iff.mp hf
        exact ⟨f + 1, by rw [aX, hs]; dsimp only; rw [if_neg hb]; exact hf⟩
    · rename_i y as m2 pc2 lv2 st2 h2 hs
      cases d with
      | zero => cases hf
      | succ d =>
        cases hc : aCall (d + 1) y as h2 with
        | none => rw [hc] at hf; cases hf
        | some o1 =>
          rw [hc] at hf
          obtain ⟨f1, h1⟩ := aAt_iff.mp (show aAt d y 0 (padL (MX y) (layA as)) [] h2 = some o1 from hc)
          obtain ⟨f2, h2'⟩ := aAtC_iff.mp hf
          refine ⟨max f1 f2 + 1, ?_⟩
          rw [aX, hs]
          dsimp only
          rw [aX_le h1 (Nat.le_max_left f1 f2)]
          exact aX_le h2' (Nat.le_max_right f1 f2)
    · rename_i o' hs
      exact ⟨1, by rw [aX, hs]; exact hf⟩
/-- evaluation by simp: n steps at most, stops at labels -/
noncomputable def aGo0 : Nat → Nat → CF → Option OU
  | 0, d, c => aAtC d c
  | n + 1, d, (m, pc, lv, st, h) => ob (KM m pc) fun e => match e.2.2.2.2.2 with
    | some bs => aAt d m pc (trimB bs lv) st h
    | none => aR (aGo0 n d) d (aI m pc lv st h e)
/-- the same, closed to unfolding -/
theorem aGo_ex : ∃ g : Nat → Nat → CF → Option OU, g = aGo0 := ⟨_, rfl⟩
noncomputable def aGo : Nat → Nat → CF → Option OU := Classical.choose aGo_ex
theorem aGo_def : aGo = aGo0 := Classical.choose_spec aGo_ex
noncomputable def aG1 (n d m pc : Nat) (lv : LV) (st : List Value) (h : AH) : Option OU := ob (KM m pc) fun e => aR (aGo n d) d (aI m pc (trimO e.2.2.2.2.2 lv) st h e)
theorem trimB_idem : ∀ (bs : List Bool) (lv : LV), trimB bs (trimB bs lv) = trimB bs lv
  | [], lv => rfl
  | true :: bs, [] => rfl
  | false :: bs, [] => rfl
  | true :: bs, x :: lv => by rw [trimB, trimB, trimB_idem bs lv]
  | false :: bs, x :: lv => by rw [trimB, trimB, trimB_idem bs lv]
theorem aGo_eq : ∀ (n d : Nat) (c : CF), aGo n d c = aAtC d c := by
  rw [aGo_def]
  intro n
  induction n with
  | zero => intro d c; rfl
  | succ n ih =>
    intro d c
    obtain ⟨m, pc, lv, st, h⟩ := c
    show _ = aAt d m pc lv st h
    rw [aAt_step, aGo0, show aGo0 n d = aAtC d from funext (ih d)]
    unfold aS
    cases hk : KM m pc with
    | none => rfl
    | some e =>
      obtain ⟨i, len, a, b, v, lab⟩ := e
      cases lab with
      | none => rfl
      | some bs =>
        show aAt d m pc (trimB bs lv) st h = _
        rw [aAt_step]
        unfold aS
        rw [hk]
        simp only [ob, trimO, trimB_idem]
theorem aG1_eq (n d m pc : Nat) (lv : LV) (st : List Value) (h : AH) : aAt d m pc lv st h = aG1 n d m pc lv st h := by
  rw [aAt_step]
  unfold aG1 aS
  rw [show aGo n d = aAtC d from funext (aGo_eq n d)]
  cases KM m pc with
  | none => rfl
  | some e => rfl
theorem aCall_eq (n d y : Nat) (as : List Value) (h : AH) : aCall (d + 1) y as h = aG1 n d y 0 (padL (MX y) (layA as)) [] h := aG1_eq _ _ _ _ _ _ _
def hGet {α : Type} (h : AH) (r b a : Nat) (k : Value → Option α) : Option α := gO (ag h r) fun ci fs => gT (ci = a) (ob (fs[b]?) k)
def hPut {α : Type} (h : AH) (r b a t : Nat) (w : Value) (k : AH → Option α) : Option α := gO (ag h r) fun ci fs => gT (ci = a ∧ putOk t w = true ∧ b < fs.length) (k (au h r (cO ci (fs.set b w))))
def hLen {α : Type} (h : AH) (r : Nat) (k : Nat → Option α) : Option α := gL (ag h r) k
def hIld {α : Type} (h : AH) (r : Nat) (i : Int32) (k : Int32 → Option α) : Option α := gI (ag h r) fun ty n f => gT (ty = .int ∨ ty = .char) (gX i n (k (f (cl i))))
def hBld {α : Type} (h : AH) (r : Nat) (i : Int32) (k : Int32 → Option α) : Option α := gI (ag h r) fun ty n f => gT (ty = .boolean ∨ ty = .byte) (gX i n (k (f (cl i))))
def hJld {α : Type} (h : AH) (r : Nat) (i : Int32) (k : Int64 → Option α) : Option α := gJ (ag h r) fun ty n f => gT (ty = .long) (gX i n (k (f (cl i))))
def hRld {α : Type} (h : AH) (r : Nat) (i : Int32) (k : Value → Option α) : Option α := gR (ag h r) fun _ n f => gX i n (k (va_rf (f (cl i))))
def hIst {α : Type} (h : AH) (r : Nat) (i x : Int32) (k : AH → Option α) : Option α := gI (ag h r) fun ty n f => gT (ty = .int) (gX i n (k (au h r (cI n (upd f (cl i) x)))))
def hBst {α : Type} (h : AH) (r : Nat) (i x : Int32) (k : AH → Option α) : Option α := gI (ag h r) fun ty n f => gT (ty = .boolean) (gX i n (k (au h r (cZ n (updZ f (cl i) x)))))
def hJst {α : Type} (h : AH) (r : Nat) (i : Int32) (x : Int64) (k : AH → Option α) : Option α := gJ (ag h r) fun ty n f => gT (ty = .long) (gX i n (k (au h r (cJ n (vp_updL f (cl i) x)))))
def hRst {α : Type} (h : AH) (r : Nat) (i : Int32) (x : Nat) (k : AH → Option α) : Option α := gR (ag h r) fun ty n f => gO (ag h x) fun ci _ => gC ty fun C => gT ((CL.getD ci ("", TX13, 0)).1 = C ∧ ci < 13) (gX i n (k (au h r (cR C n (va_up f (cl i) (some x))))))
section RH
variable {go : CF → Option OU} {d : Nat}
theorem aR_ob {α : Type} {o : Option α} {k : α → Option AT} : aR go d (ob o k) = ob o (fun x => aR go d (k x)) := by
  unfold ob
  split <;> rfl
theorem aR_pI {o : List Value} {k : Int32 → List Value → Option AT} : aR go d (pI o k) = pI o (fun x t => aR go d (k x t)) := by
  unfold pI
  split <;> rfl
theorem aR_pJ {o : List Value} {k : Int64 → List Value → Option AT} : aR go d (pJ o k) = pJ o (fun x t => aR go d (k x t)) := by
  unfold pJ
  split <;> rfl
theorem aR_pR {o : List Value} {k : Nat → List Value → Option AT} : aR go d (pR o k) = pR o (fun x t => aR go d (k x t)) := by
  unfold pR
  split <;> rfl
theorem aR_pV {o : List Value} {k : Value → List Value → Option AT} : aR go d (pV o k) = pV o (fun x t => aR go d (k x t)) := by
  unfold pV
  split <;> rfl
theorem aR_gO {o : Option AC} {k : Nat → List Value → Option AT} : aR go d (gO o k) = gO o (fun x t => aR go d (k x t)) := by
  unfold gO
  split <;> rfl
theorem aR_gI {o : Option AC} {k : FieldType → Nat → (Nat → Int32) → Option AT} : aR go d (gI o k) = gI o (fun x t f => aR go d (k x t f)) := by
  unfold gI
  split <;> rfl
theorem aR_gJ {o : Option AC} {k : FieldType → Nat → (Nat → Int64) → Option AT} : aR go d (gJ o k) = gJ o (fun x t f => aR go d (k x t f)) := by
  unfold gJ
  split <;> rfl
theorem aR_gR {o : Option AC} {k : FieldType → Nat → (Nat → Option Nat) → Option AT} : aR go d (gR o k) = gR o (fun x t f => aR go d (k x t f)) := by
  unfold gR
  split <;> rfl
theorem aR_gL {o : Option AC} {k : Nat → Option AT} : aR go d (gL o k) = gL o (fun x => aR go d (k x)) := by
  unfold gL
  split <;> rfl
theorem aR_lI {o : Option Value} {k : Int32 → Option AT} : aR go d (lI o k) = lI o (fun x => aR go d (k x)) := by
  unfold lI
  split <;> rfl
theorem aR_lJ {o : Option Value} {k : Int64 → Option AT} : aR go d (lJ o k) = lJ o (fun x => aR go d (k x)) := by
  unfold lJ
  split <;> rfl
theorem aR_lR {o : Option Value} {k : Value → Option AT} : aR go d (lR o k) = lR o (fun x => aR go d (k x)) := by
  unfold lR
  split <;> rfl
theorem aR_gC {t : FieldType} {k : String → Option AT} : aR go d (gC t k) = gC t (fun x => aR go d (k x)) := by
  unfold gC
  split <;> rfl
theorem aR_gT {b : Prop} [Decidable b] {k : Option AT} : aR go d (gT b k) = gT b (aR go d k) := by
  unfold gT
  split <;> rfl
theorem aR_gX {i : Int32} {n : Nat} {k : Option AT} : aR go d (gX i n k) = gX i n (aR go d k) := by
  unfold gX
  split <;> rfl
theorem aR_nx {m pc : Nat} {lv : LV} {st : List Value} {h : AH} : aR go d (nx m pc lv st h) = go (m, pc, lv, st, h) := rfl
theorem aR_br {b : Bool} {m p1 p2 : Nat} {lv : LV} {st : List Value} {h : AH} : aR go d (br b m p1 p2 lv st h) = if b = true then go (m, p1, lv, st, h) else go (m, p2, lv, st, h) := rfl
theorem aR_call {m pc a b : Nat} {lv : LV} {st : List Value} {h : AH} {chk : List Value → Bool} : aR go d (callA m pc a b lv st h chk) = ob (popN b st []) fun q => gT (chk q.1 = true ∧ q.2.length ≤ 12 ∧ (layA q.1).length ≤ MX a) (ob (aCall d a q.1 h) fun o => go (m, pc, lv, psh o q.2, o.2)) := by
  unfold callA
  rw [aR_ob]
  congr 1
  funext q
  rw [aR_gT]
  rfl
theorem aR_cpy {h : AH} {st : List Value} {k : List Value → AH → Option AT} : aR go d (cpyB h st k) = cpyB h st (fun st h => aR go d (k st h)) := by
  unfold cpyB
  simp only [aR_pI, aR_pR, aR_gT]
  congr 1; funext n st; congr 1; funext dp st; congr 1; funext r st; congr 1; funext sp st; congr 1; funext s st; congr 1
  split
  · rw [aR_gT]
  · rw [aR_gT]
  · rfl
theorem aR_row {h : AH} {st : List Value} {k : List Value → AH → Option AT} : aR go d (rowB h st k) = rowB h st (fun st h => aR go d (k st h)) := by
  unfold rowB
  simp only [aR_pI, aR_pR, aR_gO]
  congr 1; funext o st; congr 1; funext i st; congr 1; funext x st; congr 1; funext ci fs
  split
  · rw [aR_gO]
    congr 1; funext ct ts
    split
    · rw [aR_gI]
      congr 1; funext ty n f
      rw [aR_gJ]
      congr 1; funext tyo no g
      rw [aR_gT]
      congr 1
      split
      · rfl
      · rw [aR_gT]
    · rfl
  · rfl
variable {m pc len a b : Nat} {lv : LV} {st : List Value} {h : AH} {v : Value} {lab : Option (List Bool)}
theorem RH_aconst_null  : aR go d (aI m pc lv st h (.aconst_null, len, a, b, v, lab)) = go (m, pc + len, lv, .null :: st, h) := by
  simp only [aI, aR_ob, aR_pI, aR_pJ, aR_pR, aR_pV, aR_gO, aR_gI, aR_gJ, aR_gR, aR_gL, aR_gT, aR_gX, aR_lI, aR_lJ, aR_lR, aR_nx, vI, vT, ob]
theorem RH_iconst {k : Int} : aR go d (aI m pc lv st h (.iconst k, len, a, b, v, lab)) = go (m, pc + len, lv, v :: st, h) := by
  simp only [aI, aR_ob, aR_pI, aR_pJ, aR_pR, aR_pV, aR_gO, aR_gI, aR_gJ, aR_gR, aR_gL, aR_gT, aR_gX, aR_lI, aR_lJ, aR_lR, aR_nx, vI, vT, ob]
theorem RH_bipush {k : Int} : aR go d (aI m pc lv st h (.bipush k, len, a, b, v, lab)) = go (m, pc + len, lv, v :: st, h) := by
  simp only [aI, aR_ob, aR_pI, aR_pJ, aR_pR, aR_pV, aR_gO, aR_gI, aR_gJ, aR_gR, aR_gL, aR_gT, aR_gX, aR_lI, aR_lJ, aR_lR, aR_nx, vI, vT, ob]
theorem RH_sipush {k : Int} : aR go d (aI m pc lv st h (.sipush k, len, a, b, v, lab)) = go (m, pc + len, lv, v :: st, h) := by
  simp only [aI, aR_ob, aR_pI, aR_pJ, aR_pR, aR_pV, aR_gO, aR_gI, aR_gJ, aR_gR, aR_gL, aR_gT, aR_gX, aR_lI, aR_lJ, aR_lR, aR_nx, vI, vT, ob]
theorem RH_lconst {k : Fin 2} : aR go d (aI m pc lv st h (.lconst k, len, a, b, v, lab)) = go (m, pc + len, lv, v :: st, h) := by
  simp only [aI, aR_ob, aR_pI, aR_pJ, aR_pR, aR_pV, aR_gO, aR_gI, aR_gJ, aR_gR, aR_gL, aR_gT, aR_gX, aR_lI, aR_lJ, aR_lR, aR_nx, vI, vT, ob]
theorem RH_ldc {k : Nat} : aR go d (aI m pc lv st h (.ldc k, len, a, b, v, lab)) = go (m, pc + len, lv, v :: st, h) := by
  simp only [aI, aR_ob, aR_pI, aR_pJ, aR_pR, aR_pV, aR_gO, aR_gI, aR_gJ, aR_gR, aR_gL, aR_gT, aR_gX, aR_lI, aR_lJ, aR_lR, aR_nx, vI, vT, ob]
theorem RH_ldc_w {k : Nat} : aR go d (aI m pc lv st h (.ldc_w k, len, a, b, v, lab)) = go (m, pc + len, lv, v :: st, h) := by
  simp only [aI, aR_ob, aR_pI, aR_pJ, aR_pR, aR_pV, aR_gO, aR_gI, aR_gJ, aR_gR, aR_gL, aR_gT, aR_gX, aR_lI, aR_lJ, aR_lR, aR_nx, vI, vT, ob]
theorem RH_ldc2_w {k : Nat} : aR go d (aI m pc lv st h (.ldc2_w k, len, a, b, v, lab)) = go (m, pc + len, lv, v :: st, h) := by
  simp only [aI, aR_ob, aR_pI, aR_pJ, aR_pR, aR_pV, aR_gO, aR_gI, aR_gJ, aR_gR, aR_gL, aR_gT, aR_gX, aR_lI, aR_lJ, aR_lR, aR_nx, vI, vT, ob]
theorem RH_getstatic {k : Nat} : aR go d (aI m pc lv st h (.getstatic k, len, a, b, v, lab)) = go (m, pc + len, lv, v :: st, h) := by
  simp only [aI, aR_ob, aR_pI, aR_pJ, aR_pR, aR_pV, aR_gO, aR_gI, aR_gJ, aR_gR, aR_gL, aR_gT, aR_gX, aR_lI, aR_lJ, aR_lR, aR_nx, vI, vT, ob]
theorem RH_iload {k : Nat} : aR go d (aI m pc lv st h (.iload k, len, a, b, v, lab)) = lI (ld lv k) fun x => go (m, pc + len, lv, .int x :: st, h) := by
  simp only [aI, aR_ob, aR_pI, aR_pJ, aR_pR, aR_pV, aR_gO, aR_gI, aR_gJ, aR_gR, aR_gL, aR_gT, aR_gX, aR_lI, aR_lJ, aR_lR, aR_nx, vI, vT, ob]
theorem RH_iload_n {k : Fin 4} : aR go d (aI m pc lv st h (.iload_n k, len, a, b, v, lab)) = lI (ld lv k.val) fun x => go (m, pc + len, lv, .int x :: st, h) := by
  simp only [aI, aR_ob, aR_pI, aR_pJ, aR_pR, aR_pV, aR_gO, aR_gI, aR_gJ, aR_gR, aR_gL, aR_gT, aR_gX, aR_lI, aR_lJ, aR_lR, aR_nx, vI, vT, ob]
theorem RH_lload {k : Nat} : aR go d (aI m pc lv st h (.lload k, len, a, b, v, lab)) = lJ (ld lv k) fun x => go (m, pc + len, lv, .long x :: st, h) := by
  simp only [aI, aR_ob, aR_pI, aR_pJ, aR_pR, aR_pV, aR_gO, aR_gI, aR_gJ, aR_gR, aR_gL, aR_gT, aR_gX, aR_lI, aR_lJ, aR_lR, aR_nx, vI, vT, ob]
theorem RH_lload_n {k : Fin 4} : aR go d (aI m pc lv st h (.lload_n k, len, a, b, v, lab)) = lJ (ld lv k.val) fun x => go (m, pc + len, lv, .long x :: st, h) := by
  simp only [aI, aR_ob, aR_pI, aR_pJ, aR_pR, aR_pV, aR_gO, aR_gI, aR_gJ, aR_gR, aR_gL, aR_gT, aR_gX, aR_lI, aR_lJ, aR_lR, aR_nx, vI, vT, ob]
theorem RH_aload {k : Nat} : aR go d (aI m pc lv st h (.aload k, len, a, b, v, lab)) = lR (ld lv k) fun x => go (m, pc + len, lv, x :: st, h) := by
  simp only [aI, aR_ob, aR_pI, aR_pJ, aR_pR, aR_pV, aR_gO, aR_gI, aR_gJ, aR_gR, aR_gL, aR_gT, aR_gX, aR_lI, aR_lJ, aR_lR, aR_nx, vI, vT, ob]
theorem RH_aload_n {k : Fin 4} : aR go d (aI m pc lv st h (.aload_n k, len, a, b, v, lab)) = lR (ld lv k.val) fun x => go (m, pc + len, lv, x :: st, h) := by
  simp only [aI, aR_ob, aR_pI, aR_pJ, aR_pR, aR_pV, aR_gO, aR_gI, aR_gJ, aR_gR, aR_gL, aR_gT, aR_gX, aR_lI, aR_lJ, aR_lR, aR_nx, vI, vT, ob]
theorem RH_istore {k : Nat} : aR go d (aI m pc lv st h (.istore k, len, a, b, v, lab)) = pI st fun x st => go (m, pc + len, ss1 lv k (.int x), st, h) := by
  simp only [aI, aR_ob, aR_pI, aR_pJ, aR_pR, aR_pV, aR_gO, aR_gI, aR_gJ, aR_gR, aR_gL, aR_gT, aR_gX, aR_lI, aR_lJ, aR_lR, aR_nx, vI, vT, ob]
theorem RH_istore_n {k : Fin 4} : aR go d (aI m pc lv st h (.istore_n k, len, a, b, v, lab)) = pI st fun x st => go (m, pc + len, ss1 lv k.val (.int x), st, h) := by
  simp only [aI, aR_ob, aR_pI, aR_pJ, aR_pR, aR_pV, aR_gO, aR_gI, aR_gJ, aR_gR, aR_gL, aR_gT, aR_gX, aR_lI, aR_lJ, aR_lR, aR_nx, vI, vT, ob]
theorem RH_lstore {k : Nat} : aR go d (aI m pc lv st h (.lstore k, len, a, b, v, lab)) = pJ st fun x st => go (m, pc + len, ss2 lv k (.long x), st, h) := by
  simp only [aI, aR_ob, aR_pI, aR_pJ, aR_pR, aR_pV, aR_gO, aR_gI, aR_gJ, aR_gR, aR_gL, aR_gT, aR_gX, aR_lI, aR_lJ, aR_lR, aR_nx, vI, vT, ob]
theorem RH_lstore_n {k : Fin 4} : aR go d (aI m pc lv st h (.lstore_n k, len, a, b, v, lab)) = pJ st fun x st => go (m, pc + len, ss2 lv k.val (.long x), st, h) := by
  simp only [aI, aR_ob, aR_pI, aR_pJ, aR_pR, aR_pV, aR_gO, aR_gI, aR_gJ, aR_gR, aR_gL, aR_gT, aR_gX, aR_lI, aR_lJ, aR_lR, aR_nx, vI, vT, ob]
theorem RH_astore {k : Nat} : aR go d (aI m pc lv st h (.astore k, len, a, b, v, lab)) = pV st fun x st => gT (isR x = true) (go (m, pc + len, ss1 lv k x, st, h)) := by
  simp only [aI, aR_ob, aR_pI, aR_pJ, aR_pR, aR_pV, aR_gO, aR_gI, aR_gJ, aR_gR, aR_gL, aR_gT, aR_gX, aR_lI, aR_lJ, aR_lR, aR_nx, vI, vT, ob]
theorem RH_astore_n {k : Fin 4} : aR go d (aI m pc lv st h (.astore_n k, len, a, b, v, lab)) = pV st fun x st => gT (isR x = true) (go (m, pc + len, ss1 lv k.val x, st, h)) := by
  simp only [aI, aR_ob, aR_pI, aR_pJ, aR_pR, aR_pV, aR_gO, aR_gI, aR_gJ, aR_gR, aR_gL, aR_gT, aR_gX, aR_lI, aR_lJ, aR_lR, aR_nx, vI, vT, ob]
theorem RH_iinc {k : Nat} {j : Int} {dd : Int32} : aR go d (aI m pc lv st h (.iinc k j, len, a, b, .int dd, lab)) = lI (ld lv k) fun x => go (m, pc + len, ss1 lv k (.int (x + dd)), st, h) := by
  simp only [aI, aR_ob, aR_pI, aR_pJ, aR_pR, aR_pV, aR_gO, aR_gI, aR_gJ, aR_gR, aR_gL, aR_gT, aR_gX, aR_lI, aR_lJ, aR_lR, aR_nx, vI, vT, ob]
theorem RH_iadd  : aR go d (aI m pc lv st h (.iadd, len, a, b, v, lab)) = pI st fun y st => pI st fun x st => go (m, pc + len, lv, .int (x + y) :: st, h) := by
  simp only [aI, aR_ob, aR_pI, aR_pJ, aR_pR, aR_pV, aR_gO, aR_gI, aR_gJ, aR_gR, aR_gL, aR_gT, aR_gX, aR_lI, aR_lJ, aR_lR, aR_nx, vI, vT, ob]
theorem RH_isub  : aR go d (aI m pc lv st h (.isub, len, a, b, v, lab)) = pI st fun y st => pI st fun x st => go (m, pc + len, lv, .int (x - y) :: st, h) := by
  simp only [aI, aR_ob, aR_pI, aR_pJ, aR_pR, aR_pV, aR_gO, aR_gI, aR_gJ, aR_gR, aR_gL, aR_gT, aR_gX, aR_lI, aR_lJ, aR_lR, aR_nx, vI, vT, ob]
theorem RH_imul  : aR go d (aI m pc lv st h (.imul, len, a, b, v, lab)) = pI st fun y st => pI st fun x st => go (m, pc + len, lv, .int (x * y) :: st, h) := by
  simp only [aI, aR_ob, aR_pI, aR_pJ, aR_pR, aR_pV, aR_gO, aR_gI, aR_gJ, aR_gR, aR_gL, aR_gT, aR_gX, aR_lI, aR_lJ, aR_lR, aR_nx, vI, vT, ob]
theorem RH_iand  : aR go d (aI m pc lv st h (.iand, len, a, b, v, lab)) = pI st fun y st => pI st fun x st => go (m, pc + len, lv, .int (x &&& y) :: st, h) := by
  simp only [aI, aR_ob, aR_pI, aR_pJ, aR_pR, aR_pV, aR_gO, aR_gI, aR_gJ, aR_gR, aR_gL, aR_gT, aR_gX, aR_lI, aR_lJ, aR_lR, aR_nx, vI, vT, ob]
theorem RH_ior  : aR go d (aI m pc lv st h (.ior, len, a, b, v, lab)) = pI st fun y st => pI st fun x st => go (m, pc + len, lv, .int (x ||| y) :: st, h) := by
  simp only [aI, aR_ob, aR_pI, aR_pJ, aR_pR, aR_pV, aR_gO, aR_gI, aR_gJ, aR_gR, aR_gL, aR_gT, aR_gX, aR_lI, aR_lJ, aR_lR, aR_nx, vI, vT, ob]
theorem RH_ishl  : aR go d (aI m pc lv st h (.ishl, len, a, b, v, lab)) = pI st fun y st => pI st fun x st => go (m, pc + len, lv, .int (x <<< (y &&& 31)) :: st, h) := by
  simp only [aI, aR_ob, aR_pI, aR_pJ, aR_pR, aR_pV, aR_gO, aR_gI, aR_gJ, aR_gR, aR_gL, aR_gT, aR_gX, aR_lI, aR_lJ, aR_lR, aR_nx, vI, vT, ob]
theorem RH_ishr  : aR go d (aI m pc lv st h (.ishr, len, a, b, v, lab)) = pI st fun y st => pI st fun x st => go (m, pc + len, lv, .int (x >>> (y &&& 31)) :: st, h) := by
  simp only [aI, aR_ob, aR_pI, aR_pJ, aR_pR, aR_pV, aR_gO, aR_gI, aR_gJ, aR_gR, aR_gL, aR_gT, aR_gX, aR_lI, aR_lJ, aR_lR, aR_nx, vI, vT, ob]
theorem RH_iushr  : aR go d (aI m pc lv st h (.iushr, len, a, b, v, lab)) = pI st fun y st => pI st fun x st => go (m, pc + len, lv, .int ((x.toUInt32 >>> (y.toUInt32 &&& Int32.toUInt32 31)).toInt32) :: st, h) := by
  simp only [aI, aR_ob, aR_pI, aR_pJ, aR_pR, aR_pV, aR_gO, aR_gI, aR_gJ, aR_gR, aR_gL, aR_gT, aR_gX, aR_lI, aR_lJ, aR_lR, aR_nx, vI, vT, ob]
theorem RH_idiv  : aR go d (aI m pc lv st h (.idiv, len, a, b, v, lab)) = pI st fun y st => pI st fun x st => gT (¬ y = 0) (go (m, pc + len, lv, .int (x / y) :: st, h)) := by
  simp only [aI, aR_ob, aR_pI, aR_pJ, aR_pR, aR_pV, aR_gO, aR_gI, aR_gJ, aR_gR, aR_gL, aR_gT, aR_gX, aR_lI, aR_lJ, aR_lR, aR_nx, vI, vT, ob]
theorem RH_irem  : aR go d (aI m pc lv st h (.irem, len, a, b, v, lab)) = pI st fun y st => pI st fun x st => gT (¬ y = 0) (go (m, pc + len, lv, .int (x - x / y * y) :: st, h)) := by
  simp only [aI, aR_ob, aR_pI, aR_pJ, aR_pR, aR_pV, aR_gO, aR_gI, aR_gJ, aR_gR, aR_gL, aR_gT, aR_gX, aR_lI, aR_lJ, aR_lR, aR_nx, vI, vT, ob]
theorem RH_ineg  : aR go d (aI m pc lv st h (.ineg, len, a, b, v, lab)) = pI st fun x st => go (m, pc + len, lv, .int (-x) :: st, h) := by
  simp only [aI, aR_ob, aR_pI, aR_pJ, aR_pR, aR_pV, aR_gO, aR_gI, aR_gJ, aR_gR, aR_gL, aR_gT, aR_gX, aR_lI, aR_lJ, aR_lR, aR_nx, vI, vT, ob]
theorem RH_i2l  : aR go d (aI m pc lv st h (.i2l, len, a, b, v, lab)) = pI st fun x st => go (m, pc + len, lv, .long x.toInt64 :: st, h) := by
  simp only [aI, aR_ob, aR_pI, aR_pJ, aR_pR, aR_pV, aR_gO, aR_gI, aR_gJ, aR_gR, aR_gL, aR_gT, aR_gX, aR_lI, aR_lJ, aR_lR, aR_nx, vI, vT, ob]
theorem RH_l2i  : aR go d (aI m pc lv st h (.l2i, len, a, b, v, lab)) = pJ st fun x st => go (m, pc + len, lv, .int x.toInt32 :: st, h) := by
  simp only [aI, aR_ob, aR_pI, aR_pJ, aR_pR, aR_pV, aR_gO, aR_gI, aR_gJ, aR_gR, aR_gL, aR_gT, aR_gX, aR_lI, aR_lJ, aR_lR, aR_nx, vI, vT, ob]
theorem RH_i2b  : aR go d (aI m pc lv st h (.i2b, len, a, b, v, lab)) = pI st fun x st => go (m, pc + len, lv, .int x.toInt8.toInt32 :: st, h) := by
  simp only [aI, aR_ob, aR_pI, aR_pJ, aR_pR, aR_pV, aR_gO, aR_gI, aR_gJ, aR_gR, aR_gL, aR_gT, aR_gX, aR_lI, aR_lJ, aR_lR, aR_nx, vI, vT, ob]
theorem RH_i2s  : aR go d (aI m pc lv st h (.i2s, len, a, b, v, lab)) = pI st fun x st => go (m, pc + len, lv, .int x.toInt16.toInt32 :: st, h) := by
  simp only [aI, aR_ob, aR_pI, aR_pJ, aR_pR, aR_pV, aR_gO, aR_gI, aR_gJ, aR_gR, aR_gL, aR_gT, aR_gX, aR_lI, aR_lJ, aR_lR, aR_nx, vI, vT, ob]
theorem RH_i2c  : aR go d (aI m pc lv st h (.i2c, len, a, b, v, lab)) = pI st fun x st => go (m, pc + len, lv, .int (x.toUInt32 % 65536).toInt32 :: st, h) := by
  simp only [aI, aR_ob, aR_pI, aR_pJ, aR_pR, aR_pV, aR_gO, aR_gI, aR_gJ, aR_gR, aR_gL, aR_gT, aR_gX, aR_lI, aR_lJ, aR_lR, aR_nx, vI, vT, ob]
theorem RH_lneg  : aR go d (aI m pc lv st h (.lneg, len, a, b, v, lab)) = pJ st fun x st => go (m, pc + len, lv, .long (-x) :: st, h) := by
  simp only [aI, aR_ob, aR_pI, aR_pJ, aR_pR, aR_pV, aR_gO, aR_gI, aR_gJ, aR_gR, aR_gL, aR_gT, aR_gX, aR_lI, aR_lJ, aR_lR, aR_nx, vI, vT, ob]
theorem RH_ladd  : aR go d (aI m pc lv st h (.ladd, len, a, b, v, lab)) = pJ st fun y st => pJ st fun x st => go (m, pc + len, lv, .long (x + y) :: st, h) := by
  simp only [aI, aR_ob, aR_pI, aR_pJ, aR_pR, aR_pV, aR_gO, aR_gI, aR_gJ, aR_gR, aR_gL, aR_gT, aR_gX, aR_lI, aR_lJ, aR_lR, aR_nx, vI, vT, ob]
theorem RH_lsub  : aR go d (aI m pc lv st h (.lsub, len, a, b, v, lab)) = pJ st fun y st => pJ st fun x st => go (m, pc + len, lv, .long (x - y) :: st, h) := by
  simp only [aI, aR_ob, aR_pI, aR_pJ, aR_pR, aR_pV, aR_gO, aR_gI, aR_gJ, aR_gR, aR_gL, aR_gT, aR_gX, aR_lI, aR_lJ, aR_lR, aR_nx, vI, vT, ob]
theorem RH_lmul  : aR go d (aI m pc lv st h (.lmul, len, a, b, v, lab)) = pJ st fun y st => pJ st fun x st => go (m, pc + len, lv, .long (x * y) :: st, h) := by
  simp only [aI, aR_ob, aR_pI, aR_pJ, aR_pR, aR_pV, aR_gO, aR_gI, aR_gJ, aR_gR, aR_gL, aR_gT, aR_gX, aR_lI, aR_lJ, aR_lR, aR_nx, vI, vT, ob]
theorem RH_land  : aR go d (aI m pc lv st h (.land, len, a, b, v, lab)) = pJ st fun y st => pJ st fun x st => go (m, pc + len, lv, .long (x &&& y) :: st, h) := by
  simp only [aI, aR_ob, aR_pI, aR_pJ, aR_pR, aR_pV, aR_gO, aR_gI, aR_gJ, aR_gR, aR_gL, aR_gT, aR_gX, aR_lI, aR_lJ, aR_lR, aR_nx, vI, vT, ob]
theorem RH_lor  : aR go d (aI m pc lv st h (.lor, len, a, b, v, lab)) = pJ st fun y st => pJ st fun x st => go (m, pc + len, lv, .long (x ||| y) :: st, h) := by
  simp only [aI, aR_ob, aR_pI, aR_pJ, aR_pR, aR_pV, aR_gO, aR_gI, aR_gJ, aR_gR, aR_gL, aR_gT, aR_gX, aR_lI, aR_lJ, aR_lR, aR_nx, vI, vT, ob]
theorem RH_lxor  : aR go d (aI m pc lv st h (.lxor, len, a, b, v, lab)) = pJ st fun y st => pJ st fun x st => go (m, pc + len, lv, .long (x ^^^ y) :: st, h) := by
  simp only [aI, aR_ob, aR_pI, aR_pJ, aR_pR, aR_pV, aR_gO, aR_gI, aR_gJ, aR_gR, aR_gL, aR_gT, aR_gX, aR_lI, aR_lJ, aR_lR, aR_nx, vI, vT, ob]
theorem RH_ldiv  : aR go d (aI m pc lv st h (.ldiv, len, a, b, v, lab)) = pJ st fun y st => pJ st fun x st => gT (¬ y = 0) (go (m, pc + len, lv, .long (x / y) :: st, h)) := by
  simp only [aI, aR_ob, aR_pI, aR_pJ, aR_pR, aR_pV, aR_gO, aR_gI, aR_gJ, aR_gR, aR_gL, aR_gT, aR_gX, aR_lI, aR_lJ, aR_lR, aR_nx, vI, vT, ob]
theorem RH_lshl  : aR go d (aI m pc lv st h (.lshl, len, a, b, v, lab)) = pI st fun y st => pJ st fun x st => go (m, pc + len, lv, .long (x <<< (y.toInt64 &&& 63)) :: st, h) := by
  simp only [aI, aR_ob, aR_pI, aR_pJ, aR_pR, aR_pV, aR_gO, aR_gI, aR_gJ, aR_gR, aR_gL, aR_gT, aR_gX, aR_lI, aR_lJ, aR_lR, aR_nx, vI, vT, ob]
theorem RH_lushr  : aR go d (aI m pc lv st h (.lushr, len, a, b, v, lab)) = pI st fun y st => pJ st fun x st => go (m, pc + len, lv, .long ((x.toUInt64 >>> (y.toInt64.toUInt64 &&& Int64.toUInt64 63)).toInt64) :: st, h) := by
  simp only [aI, aR_ob, aR_pI, aR_pJ, aR_pR, aR_pV, aR_gO, aR_gI, aR_gJ, aR_gR, aR_gL, aR_gT, aR_gX, aR_lI, aR_lJ, aR_lR, aR_nx, vI, vT, ob]
theorem RH_lcmp  : aR go d (aI m pc lv st h (.lcmp, len, a, b, v, lab)) = pJ st fun y st => pJ st fun x st => go (m, pc + len, lv, .int (lg_cmp x y) :: st, h) := by
  simp only [aI, aR_ob, aR_pI, aR_pJ, aR_pR, aR_pV, aR_gO, aR_gI, aR_gJ, aR_gR, aR_gL, aR_gT, aR_gX, aR_lI, aR_lJ, aR_lR, aR_nx, vI, vT, ob]
theorem RH_dup  : aR go d (aI m pc lv st h (.dup, len, a, b, v, lab)) = pV st fun x st => gT (x.category = 1) (go (m, pc + len, lv, x :: x :: st, h)) := by
  simp only [aI, aR_ob, aR_pI, aR_pJ, aR_pR, aR_pV, aR_gO, aR_gI, aR_gJ, aR_gR, aR_gL, aR_gT, aR_gX, aR_lI, aR_lJ, aR_lR, aR_nx, vI, vT, ob]
theorem RH_pop  : aR go d (aI m pc lv st h (.pop, len, a, b, v, lab)) = pV st fun x st => gT (x.category = 1) (go (m, pc + len, lv, st, h)) := by
  simp only [aI, aR_ob, aR_pI, aR_pJ, aR_pR, aR_pV, aR_gO, aR_gI, aR_gJ, aR_gR, aR_gL, aR_gT, aR_gX, aR_lI, aR_lJ, aR_lR, aR_nx, vI, vT, ob]
theorem RH_dup2  : aR go d (aI m pc lv st h (.dup2, len, a, b, v, lab)) = pV st fun x st => pV st fun y st => gT (x.category = 1 ∧ y.category = 1) (go (m, pc + len, lv, x :: y :: x :: y :: st, h)) := by
  simp only [aI, aR_ob, aR_pI, aR_pJ, aR_pR, aR_pV, aR_gO, aR_gI, aR_gJ, aR_gR, aR_gL, aR_gT, aR_gX, aR_lI, aR_lJ, aR_lR, aR_nx, vI, vT, ob]
theorem RH_goto {k : Int} : aR go d (aI m pc lv st h (.goto k, len, a, b, v, lab)) = go (m, a, lv, st, h) := by
  simp only [aI, aR_ob, aR_pI, aR_pJ, aR_pR, aR_pV, aR_gO, aR_gI, aR_gJ, aR_gR, aR_gL, aR_gT, aR_gX, aR_lI, aR_lJ, aR_lR, aR_nx, vI, vT, ob]
theorem RH_if_eq {k : Int} : aR go d (aI m pc lv st h (.ifCond .eq k, len, a, b, v, lab)) = pI st fun x st => if x = 0 then go (m, a, lv, st, h) else go (m, pc + len, lv, st, h) := by
  simp only [aI, aR_ob, aR_pI, aR_pJ, aR_pR, aR_pV, aR_gO, aR_gI, aR_gJ, aR_gR, aR_gL, aR_gT, aR_gX, aR_lI, aR_lJ, aR_lR, aR_nx, aR_br, cmpB, decide_eq_true_eq]
theorem RH_icmp_eq {k : Int} : aR go d (aI m pc lv st h (.if_icmp .eq k, len, a, b, v, lab)) = pI st fun y st => pI st fun x st => if x = y then go (m, a, lv, st, h) else go (m, pc + len, lv, st, h) := by
  simp only [aI, aR_ob, aR_pI, aR_pJ, aR_pR, aR_pV, aR_gO, aR_gI, aR_gJ, aR_gR, aR_gL, aR_gT, aR_gX, aR_lI, aR_lJ, aR_lR, aR_nx, aR_br, cmpB, decide_eq_true_eq]
theorem RH_if_ne {k : Int} : aR go d (aI m pc lv st h (.ifCond .ne k, len, a, b, v, lab)) = pI st fun x st => if ¬ x = 0 then go (m, a, lv, st, h) else go (m, pc + len, lv, st, h) := by
  simp only [aI, aR_ob, aR_pI, aR_pJ, aR_pR, aR_pV, aR_gO, aR_gI, aR_gJ, aR_gR, aR_gL, aR_gT, aR_gX, aR_lI, aR_lJ, aR_lR, aR_nx, aR_br, cmpB, decide_eq_true_eq]
theorem RH_icmp_ne {k : Int} : aR go d (aI m pc lv st h (.if_icmp .ne k, len, a, b, v, lab)) = pI st fun y st => pI st fun x st => if ¬ x = y then go (m, a, lv, st, h) else go (m, pc + len, lv, st, h) := by
  simp only [aI, aR_ob, aR_pI, aR_pJ, aR_pR, aR_pV, aR_gO, aR_gI, aR_gJ, aR_gR, aR_gL, aR_gT, aR_gX, aR_lI, aR_lJ, aR_lR, aR_nx, aR_br, cmpB, decide_eq_true_eq]
theorem RH_if_lt {k : Int} : aR go d (aI m pc lv st h (.ifCond .lt k, len, a, b, v, lab)) = pI st fun x st => if x < 0 then go (m, a, lv, st, h) else go (m, pc + len, lv, st, h) := by
  simp only [aI, aR_ob, aR_pI, aR_pJ, aR_pR, aR_pV, aR_gO, aR_gI, aR_gJ, aR_gR, aR_gL, aR_gT, aR_gX, aR_lI, aR_lJ, aR_lR, aR_nx, aR_br, cmpB, decide_eq_true_eq]
theorem RH_icmp_lt {k : Int} : aR go d (aI m pc lv st h (.if_icmp .lt k, len, a, b, v, lab)) = pI st fun y st => pI st fun x st => if x < y then go (m, a, lv, st, h) else go (m, pc + len, lv, st, h) := by
  simp only [aI, aR_ob, aR_pI, aR_pJ, aR_pR, aR_pV, aR_gO, aR_gI, aR_gJ, aR_gR, aR_gL, aR_gT, aR_gX, aR_lI, aR_lJ, aR_lR, aR_nx, aR_br, cmpB, decide_eq_true_eq]
theorem RH_if_ge {k : Int} : aR go d (aI m pc lv st h (.ifCond .ge k, len, a, b, v, lab)) = pI st fun x st => if 0 ≤ x then go (m, a, lv, st, h) else go (m, pc + len, lv, st, h) := by
  simp only [aI, aR_ob, aR_pI, aR_pJ, aR_pR, aR_pV, aR_gO, aR_gI, aR_gJ, aR_gR, aR_gL, aR_gT, aR_gX, aR_lI, aR_lJ, aR_lR, aR_nx, aR_br, cmpB, decide_eq_true_eq]
theorem RH_icmp_ge {k : Int} : aR go d (aI m pc lv st h (.if_icmp .ge k, len, a, b, v, lab)) = pI st fun y st => pI st fun x st => if y ≤ x then go (m, a, lv, st, h) else go (m, pc + len, lv, st, h) := by
  simp only [aI, aR_ob, aR_pI, aR_pJ, aR_pR, aR_pV, aR_gO, aR_gI, aR_gJ, aR_gR, aR_gL, aR_gT, aR_gX, aR_lI, aR_lJ, aR_lR, aR_nx, aR_br, cmpB, decide_eq_true_eq]
theorem RH_if_gt {k : Int} : aR go d (aI m pc lv st h (.ifCond .gt k, len, a, b, v, lab)) = pI st fun x st => if 0 < x then go (m, a, lv, st, h) else go (m, pc + len, lv, st, h) := by
  simp only [aI, aR_ob, aR_pI, aR_pJ, aR_pR, aR_pV, aR_gO, aR_gI, aR_gJ, aR_gR, aR_gL, aR_gT, aR_gX, aR_lI, aR_lJ, aR_lR, aR_nx, aR_br, cmpB, decide_eq_true_eq]
theorem RH_icmp_gt {k : Int} : aR go d (aI m pc lv st h (.if_icmp .gt k, len, a, b, v, lab)) = pI st fun y st => pI st fun x st => if y < x then go (m, a, lv, st, h) else go (m, pc + len, lv, st, h) := by
  simp only [aI, aR_ob, aR_pI, aR_pJ, aR_pR, aR_pV, aR_gO, aR_gI, aR_gJ, aR_gR, aR_gL, aR_gT, aR_gX, aR_lI, aR_lJ, aR_lR, aR_nx, aR_br, cmpB, decide_eq_true_eq]
theorem RH_if_le {k : Int} : aR go d (aI m pc lv st h (.ifCond .le k, len, a, b, v, lab)) = pI st fun x st => if x ≤ 0 then go (m, a, lv, st, h) else go (m, pc + len, lv, st, h) := by
  simp only [aI, aR_ob, aR_pI, aR_pJ, aR_pR, aR_pV, aR_gO, aR_gI, aR_gJ, aR_gR, aR_gL, aR_gT, aR_gX, aR_lI, aR_lJ, aR_lR, aR_nx, aR_br, cmpB, decide_eq_true_eq]
theorem RH_icmp_le {k : Int} : aR go d (aI m pc lv st h (.if_icmp .le k, len, a, b, v, lab)) = pI st fun y st => pI st fun x st => if x ≤ y then go (m, a, lv, st, h) else go (m, pc + len, lv, st, h) := by
  simp only [aI, aR_ob, aR_pI, aR_pJ, aR_pR, aR_pV, aR_gO, aR_gI, aR_gJ, aR_gR, aR_gL, aR_gT, aR_gX, aR_lI, aR_lJ, aR_lR, aR_nx, aR_br, cmpB, decide_eq_true_eq]
theorem RH_ifnull {k : Int} : aR go d (aI m pc lv st h (.ifnull k, len, a, b, v, lab)) = pV st fun x st => gT (isR x = true) (go (m, (match x with | .null => a | _ => pc + len), lv, st, h)) := by
  simp only [aI, aR_ob, aR_pI, aR_pJ, aR_pR, aR_pV, aR_gO, aR_gI, aR_gJ, aR_gR, aR_gL, aR_gT, aR_gX, aR_lI, aR_lJ, aR_lR, aR_nx, vI, vT]
theorem RH_ifnonnull {k : Int} : aR go d (aI m pc lv st h (.ifnonnull k, len, a, b, v, lab)) = pV st fun x st => gT (isR x = true) (go (m, (match x with | .null => pc + len | _ => a), lv, st, h)) := by
  simp only [aI, aR_ob, aR_pI, aR_pJ, aR_pR, aR_pV, aR_gO, aR_gI, aR_gJ, aR_gR, aR_gL, aR_gT, aR_gX, aR_lI, aR_lJ, aR_lR, aR_nx, vI, vT]
theorem RH_tableswitch {df lo hi : Int} {os : Array Int} : aR go d (aI m pc lv st h (.tableswitch df lo hi os, len, a, b, v, lab)) = pI st fun x st => ob (swT pc df lo hi os x) fun t => go (m, t, lv, st, h) := by
  simp only [aI, aR_ob, aR_pI, aR_pJ, aR_pR, aR_pV, aR_gO, aR_gI, aR_gJ, aR_gR, aR_gL, aR_gT, aR_gX, aR_lI, aR_lJ, aR_lR, aR_nx, vI, vT]
theorem RH_getfield {k : Nat} : aR go d (aI m pc lv st h (.getfield k, len, a, b, v, lab)) = pR st fun r st => hGet h r b a fun w => go (m, pc + len, lv, w :: st, h) := by
  simp only [hGet, hPut, hLen, hIld, hBld, hJld, hRld, hIst, hBst, hJst, hRst, aI, aR_ob, aR_pI, aR_pJ, aR_pR, aR_pV, aR_gO, aR_gI, aR_gJ, aR_gR, aR_gL, aR_gT, aR_gX, aR_lI, aR_lJ, aR_lR, aR_nx, vI, vT]
theorem RH_putfield {k t : Nat} : aR go d (aI m pc lv st h (.putfield k, len, a, b, .retAddr t, lab)) = pV st fun w st => pR st fun r st => hPut h r b a t w fun h' => go (m, pc + len, lv, st, h') := by
  simp only [hGet, hPut, hLen, hIld, hBld, hJld, hRld, hIst, hBst, hJst, hRst, aI, aR_ob, aR_pI, aR_pJ, aR_pR, aR_pV, aR_gO, aR_gI, aR_gJ, aR_gR, aR_gL, aR_gT, aR_gX, aR_lI, aR_lJ, aR_lR, aR_nx, vI, vT, ob]
theorem RH_arraylength  : aR go d (aI m pc lv st h (.arraylength, len, a, b, v, lab)) = pR st fun r st => hLen h r fun n => go (m, pc + len, lv, .int (nI n) :: st, h) := by
  simp only [hGet, hPut, hLen, hIld, hBld, hJld, hRld, hIst, hBst, hJst, hRst, aI, aR_ob, aR_pI, aR_pJ, aR_pR, aR_pV, aR_gO, aR_gI, aR_gJ, aR_gR, aR_gL, aR_gT, aR_gX, aR_lI, aR_lJ, aR_lR, aR_nx, vI, vT, ob]
theorem RH_iaload  : aR go d (aI m pc lv st h (.iaload, len, a, b, v, lab)) = pI st fun i st => pR st fun r st => hIld h r i fun x => go (m, pc + len, lv, .int x :: st, h) := by
  simp only [hGet, hPut, hLen, hIld, hBld, hJld, hRld, hIst, hBst, hJst, hRst, aI, aR_ob, aR_pI, aR_pJ, aR_pR, aR_pV, aR_gO, aR_gI, aR_gJ, aR_gR, aR_gL, aR_gT, aR_gX, aR_lI, aR_lJ, aR_lR, aR_nx, vI, vT, ob]
theorem RH_baload  : aR go d (aI m pc lv st h (.baload, len, a, b, v, lab)) = pI st fun i st => pR st fun r st => hBld h r i fun x => go (m, pc + len, lv, .int x :: st, h) := by
  simp only [hGet, hPut, hLen, hIld, hBld, hJld, hRld, hIst, hBst, hJst, hRst, aI, aR_ob, aR_pI, aR_pJ, aR_pR, aR_pV, aR_gO, aR_gI, aR_gJ, aR_gR, aR_gL, aR_gT, aR_gX, aR_lI, aR_lJ, aR_lR, aR_nx, vI, vT, ob]
theorem RH_laload  : aR go d (aI m pc lv st h (.laload, len, a, b, v, lab)) = pI st fun i st => pR st fun r st => hJld h r i fun x => go (m, pc + len, lv, .long x :: st, h) := by
  simp only [hGet, hPut, hLen, hIld, hBld, hJld, hRld, hIst, hBst, hJst, hRst, aI, aR_ob, aR_pI, aR_pJ, aR_pR, aR_pV, aR_gO, aR_gI, aR_gJ, aR_gR, aR_gL, aR_gT, aR_gX, aR_lI, aR_lJ, aR_lR, aR_nx, vI, vT, ob]
theorem RH_aaload  : aR go d (aI m pc lv st h (.aaload, len, a, b, v, lab)) = pI st fun i st => pR st fun r st => hRld h r i fun x => go (m, pc + len, lv, x :: st, h) := by
  simp only [hGet, hPut, hLen, hIld, hBld, hJld, hRld, hIst, hBst, hJst, hRst, aI, aR_ob, aR_pI, aR_pJ, aR_pR, aR_pV, aR_gO, aR_gI, aR_gJ, aR_gR, aR_gL, aR_gT, aR_gX, aR_lI, aR_lJ, aR_lR, aR_nx, vI, vT, ob]
theorem RH_iastore  : aR go d (aI m pc lv st h (.iastore, len, a, b, v, lab)) = pI st fun x st => pI st fun i st => pR st fun r st => hIst h r i x fun h' => go (m, pc + len, lv, st, h') := by
  simp only [hGet, hPut, hLen, hIld, hBld, hJld, hRld, hIst, hBst, hJst, hRst, aI, aR_ob, aR_pI, aR_pJ, aR_pR, aR_pV, aR_gO, aR_gI, aR_gJ, aR_gR, aR_gL, aR_gT, aR_gX, aR_lI, aR_lJ, aR_lR, aR_nx, vI, vT, ob]
theorem RH_bastore  : aR go d (aI m pc lv st h (.bastore, len, a, b, v, lab)) = pI st fun x st => pI st fun i st => pR st fun r st => hBst h r i x fun h' => go (m, pc + len, lv, st, h') := by
  simp only [hGet, hPut, hLen, hIld, hBld, hJld, hRld, hIst, hBst, hJst, hRst, aI, aR_ob, aR_pI, aR_pJ, aR_pR, aR_pV, aR_gO, aR_gI, aR_gJ, aR_gR, aR_gL, aR_gT, aR_gX, aR_lI, aR_lJ, aR_lR, aR_nx, vI, vT, ob]
theorem RH_lastore  : aR go d (aI m pc lv st h (.lastore, len, a, b, v, lab)) = pJ st fun x st => pI st fun i st => pR st fun r st => hJst h r i x fun h' => go (m, pc + len, lv, st, h') := by
  simp only [hGet, hPut, hLen, hIld, hBld, hJld, hRld, hIst, hBst, hJst, hRst, aI, aR_ob, aR_pI, aR_pJ, aR_pR, aR_pV, aR_gO, aR_gI, aR_gJ, aR_gR, aR_gL, aR_gT, aR_gX, aR_lI, aR_lJ, aR_lR, aR_nx, vI, vT, ob]
theorem RH_new {k : Nat} : aR go d (aI m pc lv st h (.new k, len, a, b, v, lab)) = gT (h.1 < 700000) (go (m, pc + len, lv, .ref h.1 :: st, an h b (cO a (DFT.getD a [])))) := by
  simp only [aI, aR_ob, aR_pI, aR_pJ, aR_pR, aR_pV, aR_gO, aR_gI, aR_gJ, aR_gR, aR_gL, aR_gT, aR_gX, aR_lI, aR_lJ, aR_lR, aR_nx, vI, vT, ob]
theorem RH_newarray_int  : aR go d (aI m pc lv st h (.newarray .int, len, a, b, v, lab)) = pI st fun n st => gT (h.1 < 700000 ∧ ¬ n < 0 ∧ cl n ≤ 20000) (go (m, pc + len, lv, .ref h.1 :: st, an h (cl n) (cI (cl n) (fun _ => 0)))) := by
  simp only [aI, aR_ob, aR_pI, aR_pJ, aR_pR, aR_pV, aR_gO, aR_gI, aR_gJ, aR_gR, aR_gL, aR_gT, aR_gX, aR_lI, aR_lJ, aR_lR, aR_nx, vI, vT, ob]
theorem RH_newarray_boolean  : aR go d (aI m pc lv st h (.newarray .boolean, len, a, b, v, lab)) = pI st fun n st => gT (h.1 < 700000 ∧ ¬ n < 0 ∧ cl n ≤ 20000) (go (m, pc + len, lv, .ref h.1 :: st, an h (cl n) (cZ (cl n) (fun _ => 0)))) := by
  simp only [aI, aR_ob, aR_pI, aR_pJ, aR_pR, aR_pV, aR_gO, aR_gI, aR_gJ, aR_gR, aR_gL, aR_gT, aR_gX, aR_lI, aR_lJ, aR_lR, aR_nx, vI, vT, ob]
theorem RH_newarray_long  : aR go d (aI m pc lv st h (.newarray .long, len, a, b, v, lab)) = pI st fun n st => gT (h.1 < 700000 ∧ ¬ n < 0 ∧ cl n ≤ 20000) (go (m, pc + len, lv, .ref h.1 :: st, an h (cl n) (cJ (cl n) (fun _ => 0)))) := by
  simp only [aI, aR_ob, aR_pI, aR_pJ, aR_pR, aR_pV, aR_gO, aR_gI, aR_gJ, aR_gR, aR_gL, aR_gT, aR_gX, aR_lI, aR_lJ, aR_lR, aR_nx, vI, vT, ob]
theorem RH_anewarray {k : Nat} : aR go d (aI m pc lv st h (.anewarray k, len, a, b, v, lab)) = pI st fun n st => gT (h.1 < 700000 ∧ ¬ n < 0 ∧ cl n ≤ 20000) (go (m, pc + len, lv, .ref h.1 :: st, an h (cl n) (cR (CL.getD a ("", TX13, 0)).1 (cl n) (fun _ => none)))) := by
  simp only [aI, aR_ob, aR_pI, aR_pJ, aR_pR, aR_pV, aR_gO, aR_gI, aR_gJ, aR_gR, aR_gL, aR_gT, aR_gX, aR_lI, aR_lJ, aR_lR, aR_nx, vI, vT, ob]
theorem RH_checkcast {k : Nat} : aR go d (aI m pc lv st h (.checkcast k, len, a, b, v, lab)) = pR st fun r st => gI (ag h r) fun ty _ _ => gT (ty = .int) (go (m, pc + len, lv, .ref r :: st, h)) := by
  simp only [aI, aR_ob, aR_pI, aR_pJ, aR_pR, aR_pV, aR_gO, aR_gI, aR_gJ, aR_gR, aR_gL, aR_gT, aR_gX, aR_lI, aR_lJ, aR_lR, aR_nx, vI, vT, ob]
theorem RH_objinit {k : Nat} : aR go d (aI m pc lv st h (.invokespecial k, len, 9000, b, v, lab)) = pR st fun _ st => gT (st.length ≤ 12) (go (m, pc + len, lv, st, h)) := by
  simp only [aI, aR_ob, aR_pI, aR_pJ, aR_pR, aR_pV, aR_gO, aR_gI, aR_gJ, aR_gR, aR_gL, aR_gT, aR_gX, aR_lI, aR_lJ, aR_lR, aR_nx, vI, vT, ob, reduceIte, Nat.reduceEqDiff]
theorem RH0_invokespecial {k : Nat} (ha : ¬ a = 9000) : aR go d (aI m pc lv st h (.invokespecial k, len, a, b, v, lab)) = ob (popN b st []) fun q => gT (isRf q.1 = true ∧ q.2.length ≤ 12 ∧ (layA q.1).length ≤ MX a) (ob (aCall d a q.1 h) fun o => go (m, pc + len, lv, psh o q.2, o.2)) := by
  simp only [aI, aR_ob, aR_pI, aR_pJ, aR_pR, aR_pV, aR_gO, aR_gI, aR_gJ, aR_gR, aR_gL, aR_gT, aR_gX, aR_lI, aR_lJ, aR_lR, aR_nx, vI, vT, ob, aR_call, if_neg ha]
theorem RH_clone {k : Nat} : aR go d (aI m pc lv st h (.invokevirtual k, len, 9003, b, v, lab)) = pR st fun r st => gI (ag h r) fun ty n f => gT (ty = .int ∧ h.1 < 700000 ∧ st.length ≤ 12) (go (m, pc + len, lv, .ref h.1 :: st, an h n (cI n f))) := by
  simp only [aI, aR_ob, aR_pI, aR_pJ, aR_pR, aR_pV, aR_gO, aR_gI, aR_gJ, aR_gR, aR_gL, aR_gT, aR_gX, aR_lI, aR_lJ, aR_lR, aR_nx, vI, vT, ob, reduceIte, Nat.reduceEqDiff]
theorem RH0_invokevirtual {k c : Nat} (ha : ¬ a = 9003) : aR go d (aI m pc lv st h (.invokevirtual k, len, a, b, .retAddr c, lab)) = ob (popN b st []) fun q => gT (isO h c q.1 = true ∧ q.2.length ≤ 12 ∧ (layA q.1).length ≤ MX a) (ob (aCall d a q.1 h) fun o => go (m, pc + len, lv, psh o q.2, o.2)) := by
  simp only [aI, aR_ob, aR_pI, aR_pJ, aR_pR, aR_pV, aR_gO, aR_gI, aR_gJ, aR_gR, aR_gL, aR_gT, aR_gX, aR_lI, aR_lJ, aR_lR, aR_nx, vI, vT, ob, aR_call, if_neg ha]
theorem RH_arraycopy {k : Nat} : aR go d (aI m pc lv st h (.invokestatic k, len, 9001, b, v, lab)) = cpyB h st fun st h => gT (st.length ≤ 12) (go (m, pc + len, lv, st, h)) := by
  simp only [aI, aR_ob, aR_pI, aR_pJ, aR_pR, aR_pV, aR_gO, aR_gI, aR_gJ, aR_gR, aR_gL, aR_gT, aR_gX, aR_lI, aR_lJ, aR_lR, aR_nx, vI, vT, ob, aR_cpy, if_pos, reduceIte, Nat.reduceEqDiff]
theorem RH_lawrow {k : Nat} : aR go d (aI m pc lv st h (.invokestatic k, len, 9002, b, v, lab)) = rowB h st fun st h => gT (st.length ≤ 12) (go (m, pc + len, lv, st, h)) := by
  simp only [aI, aR_ob, aR_pI, aR_pJ, aR_pR, aR_pV, aR_gO, aR_gI, aR_gJ, aR_gR, aR_gL, aR_gT, aR_gX, aR_lI, aR_lJ, aR_lR, aR_nx, vI, vT, ob, aR_row, reduceIte, Nat.reduceEqDiff]
theorem RH0_invokestatic {k : Nat} (ha : ¬ a = 9001) (ha2 : ¬ a = 9002) : aR go d (aI m pc lv st h (.invokestatic k, len, a, b, v, lab)) = ob (popN b st []) fun q => gT (true = true ∧ q.2.length ≤ 12 ∧ (layA q.1).length ≤ MX a) (ob (aCall d a q.1 h) fun o => go (m, pc + len, lv, psh o q.2, o.2)) := by
  simp only [aI, aR_ob, aR_pI, aR_pJ, aR_pR, aR_pV, aR_gO, aR_gI, aR_gJ, aR_gR, aR_gL, aR_gT, aR_gX, aR_lI, aR_lJ, aR_lR, aR_nx, vI, vT, ob, aR_call, if_neg ha, if_neg ha2]
theorem RH_ireturn  : aR go d (aI m pc lv st h (.ireturn, len, a, b, v, lab)) = match st with | [.int x] => gT ((a = 1 → x = 0 ∨ x = 1) ∧ (a = 2 → x.toInt8.toInt32 = x)) (some (some (.int x), h)) | _ => none := by
  simp only [aI]
  split
  · first | rfl | (rw [aR_gT]; rfl)
  · rfl
theorem RH_lreturn  : aR go d (aI m pc lv st h (.lreturn, len, a, b, v, lab)) = match st with | [.long x] => some (some (.long x), h) | _ => none := by
  simp only [aI]
  split
  · first | rfl | (rw [aR_gT]; rfl)
  · rfl
theorem RH_areturn  : aR go d (aI m pc lv st h (.areturn, len, a, b, v, lab)) = match st with | [x] => gT (isR x = true) (some (some x, h)) | _ => none := by
  simp only [aI]
  split
  · first | rfl | (rw [aR_gT]; rfl)
  · rfl
theorem RH_return_  : aR go d (aI m pc lv st h (.return_, len, a, b, v, lab)) = match st with | [] => some (none, h) | _ => none := by
  simp only [aI]
  split
  · first | rfl | (rw [aR_gT]; rfl)
  · rfl
theorem RH_aastore : aR go d (aI m pc lv st h (.aastore, len, a, b, v, lab)) = pR st fun x st => pI st fun i st => pR st fun r st => hRst h r i x fun h' => go (m, pc + len, lv, st, h') := by
  simp only [hGet, hPut, hLen, hIld, hBld, hJld, hRld, hIst, hBst, hJst, hRst, aI, aR_pI, aR_pR, aR_gR, aR_gO, aR_gC, aR_gT, aR_gX, aR_nx]
end RH
/-- how it goes on behind a call (closed, so that nothing looks inside before the call has answered) -/
noncomputable def kont (d m pc : Nat) (lv : LV) (st : List Value) (o : OU) : Option OU := aAt d m pc lv (psh o st) o.2
theorem kont_go (n d m pc : Nat) (lv : LV) (st : List Value) (o : OU) : kont d m pc lv st o = aGo n d (m, pc, lv, psh o st, o.2) := by
  rw [aGo_eq]
  rfl
theorem kont_fun (n d m pc : Nat) (lv : LV) (st : List Value) : (fun o : OU => aGo n d (m, pc, lv, psh o st, o.2)) = kont d m pc lv st := funext fun o => (kont_go n d m pc lv st o).symm
section RK
variable {n d m pc len a b : Nat} {lv : LV} {st : List Value} {h : AH} {v : Value} {lab : Option (List Bool)}
theorem RH_invokespecial {k : Nat} (ha : ¬ a = 9000) : aR (aGo n d) d (aI m pc lv st h (.invokespecial k, len, a, b, v, lab)) = ob (popN b st []) fun q => gT (isRf q.1 = true ∧ q.2.length ≤ 12 ∧ (layA q.1).length ≤ MX a) (ob (aCall d a q.1 h) (kont d m (pc + len) lv q.2)) := by
  rw [RH0_invokespecial ha]
  simp only [kont_fun]
theorem RH_invokevirtual {k c : Nat} (ha : ¬ a = 9003) : aR (aGo n d) d (aI m pc lv st h (.invokevirtual k, len, a, b, .retAddr c, lab)) = ob (popN b st []) fun q => gT (isO h c q.1 = true ∧ q.2.length ≤ 12 ∧ (layA q.1).length ≤ MX a) (ob (aCall d a q.1 h) (kont d m (pc + len) lv q.2)) := by
  rw [RH0_invokevirtual ha]
  simp only [kont_fun]
theorem RH_invokestatic {k : Nat} (ha : ¬ a = 9001) (ha2 : ¬ a = 9002) : aR (aGo n d) d (aI m pc lv st h (.invokestatic k, len, a, b, v, lab)) = ob (popN b st []) fun q => gT (true = true ∧ q.2.length ≤ 12 ∧ (layA q.1).length ≤ MX a) (ob (aCall d a q.1 h) (kont d m (pc + len) lv q.2)) := by
  rw [RH0_invokestatic ha ha2]
  simp only [kont_fun]
end RK
theorem st_of {n d m pc : Nat} {lv : LV} {st : List Value} {h : AH} {i : Instr} {len a b : Nat} {v : Value} (hk : KM m pc = some (i, len, a, b, v, none)) : aGo (n + 1) d (m, pc, lv, st, h) = aR (aGo n d) d (aI m pc lv st h (i, len, a, b, v, none)) := by
  rw [aGo_def, aGo0, hk]
  rfl
theorem st_lb {n d m pc : Nat} {lv : LV} {st : List Value} {h : AH} {i : Instr} {len a b : Nat} {v : Value} {bs : List Bool} (hk : KM m pc = some (i, len, a, b, v, some bs)) : aGo (n + 1) d (m, pc, lv, st, h) = aAt d m pc (trimB bs lv) st h := by
  rw [aGo_def, aGo0, hk]
  rfl
theorem st_at {n d m pc : Nat} {lv : LV} {st : List Value} {h : AH} {i : Instr} {len a b : Nat} {v : Value} {bs : List Bool} (hk : KM m pc = some (i, len, a, b, v, some bs)) : aAt d m pc lv st h = aR (aGo n d) d (aI m pc (trimB bs lv) st h (i, len, a, b, v, some bs)) := by
  rw [aG1_eq n, aG1, hk]
  rfl
theorem aCall_go (n d y : Nat) (as : List Value) (h : AH) : aCall (d + 1) y as h = aGo n d (y, 0, padL (MX y) (layA as), [], h) := by
  rw [aGo_eq]
  rfl
theorem e_gT {α : Type} {b : Prop} [Decidable b] {k : Option α} (h : b) : gT b k = k := if_pos h
theorem e_gX {α : Type} {j n : Nat} {k : Option α} (h : j < n) (hn : n < 2 ^ 31) : gX (nI j) n k = k := if_neg (nI_in h hn)
theorem e_ag {h : AH} {a b : Nat} {c : AC} : ag (au h a c) b = if b = a then some c else ag h b := rfl
theorem e_agn {h : AH} {n b : Nat} {c : AC} : ag (an h n c) b = if b = h.1 then some c else ag h b := rfl
def bi (b : Bool) : Int32 := if b then 1 else 0
theorem bi_01 (b : Bool) : bi b = 0 ∨ bi b = 1 := by cases b <;> simp [bi]
