/-! THE ABSTRACT MACHINE: values are the machine's own, but for addresses: i stands for the i-th cell made since the law began; from 1048576 on: what was there before (script, texts) -/
abbrev AC : Type := (FieldType × vp_A) ⊕ (Nat × List Value)
abbrev AH : Type := Nat × Nat × (Nat → Option AC)
abbrev LV : Type := List (Option Value)
abbrev CF : Type := Nat × Nat × LV × List Value × AH
abbrev OU : Type := Option Value × AH
abbrev AT : Type := CF ⊕ (Bool × CF × CF) ⊕ (Nat × List Value × CF) ⊕ OU
def ag (h : AH) (a : Nat) : Option AC := h.2.2 a
def au (h : AH) (a : Nat) (c : AC) : AH := (h.1, h.2.1, fun b => if b = a then some c else h.2.2 b)
def an (h : AH) (n : Nat) (c : AC) : AH := (h.1 + 1, h.2.1 + n, fun b => if b = h.1 then some c else h.2.2 b)
abbrev cI (n : Nat) (f : Nat → Int32) : AC := .inl (.int, n, .inl f)
abbrev cZ (n : Nat) (f : Nat → Int32) : AC := .inl (.boolean, n, .inl f)
abbrev cJ (n : Nat) (f : Nat → Int64) : AC := .inl (.long, n, .inr (.inl f))
abbrev cR (C : String) (n : Nat) (f : Nat → Option Nat) : AC := .inl (.object C, n, .inr (.inr (.inr (.inr f))))
abbrev cO (ci : Nat) (fs : List Value) : AC := .inr (ci, fs)
def pI {α : Type} (st : List Value) (k : Int32 → List Value → Option α) : Option α := match st with
  | .int x :: t => k x t
  | _ => none
def pJ {α : Type} (st : List Value) (k : Int64 → List Value → Option α) : Option α := match st with
  | .long x :: t => k x t
  | _ => none
def pR {α : Type} (st : List Value) (k : Nat → List Value → Option α) : Option α := match st with
  | .ref x :: t => k x t
  | _ => none
def pV {α : Type} (st : List Value) (k : Value → List Value → Option α) : Option α := match st with
  | x :: t => k x t
  | _ => none
def gO {α : Type} (c : Option AC) (k : Nat → List Value → Option α) : Option α := match c with
  | some (.inr (ci, fs)) => k ci fs
  | _ => none
def gI {α : Type} (c : Option AC) (k : FieldType → Nat → (Nat → Int32) → Option α) : Option α := match c with
  | some (.inl (ty, n, .inl f)) => k ty n f
  | _ => none
def gJ {α : Type} (c : Option AC) (k : FieldType → Nat → (Nat → Int64) → Option α) : Option α := match c with
  | some (.inl (ty, n, .inr (.inl f))) => k ty n f
  | _ => none
def gR {α : Type} (c : Option AC) (k : FieldType → Nat → (Nat → Option Nat) → Option α) : Option α := match c with
  | some (.inl (ty, n, .inr (.inr (.inr (.inr f))))) => k ty n f
  | _ => none
def gL {α : Type} (c : Option AC) (k : Nat → Option α) : Option α := match c with
  | some (.inl (_, n, _)) => k n
  | _ => none
def gT {α : Type} (b : Prop) [Decidable b] (k : Option α) : Option α := if b then k else none
def gX {α : Type} (i : Int32) (n : Nat) (k : Option α) : Option α := if i < 0 ∨ n ≤ i.toNatClampNeg then none else k
def ld : LV → Nat → Option Value
  | [], _ => none
  | x :: _, 0 => x
  | _ :: t, k + 1 => ld t k
def killL (x : Option Value) : Option Value := match x with
  | some (.long _) => none
  | y => y
def ss1 : LV → Nat → Value → LV
  | [], _, _ => []
  | _ :: t, 0, v => some v :: t
  | x :: _ :: t, 1, v => killL x :: some v :: t
  | x :: t, n + 1, v => x :: ss1 t n v
def ss2 : LV → Nat → Value → LV
  | _ :: _ :: t, 0, v => some v :: none :: t
  | x :: _ :: _ :: t, 1, v => killL x :: some v :: none :: t
  | x :: t, n + 1, v => x :: ss2 t n v
  | _, _, _ => []
def trimB : List Bool → LV → LV
  | true :: bs, x :: xs => x :: trimB bs xs
  | false :: bs, _ :: xs => none :: trimB bs xs
  | _, _ => []
def trimO (o : Option (List Bool)) (lv : LV) : LV := match o with
  | none => lv
  | some bs => trimB bs lv
def popN : Nat → List Value → List Value → Option (List Value × List Value)
  | 0, st, acc => some (acc, st)
  | n + 1, v :: st, acc => popN n st (v :: acc)
  | _ + 1, [], _ => none
def layA : List Value → LV
  | [] => []
  | .long x :: t => some (.long x) :: none :: layA t
  | v :: t => some v :: layA t
def padL : Nat → LV → LV
  | 0, lv => lv
  | n + 1, [] => none :: padL n []
  | n + 1, x :: t => x :: padL n t
def cmpB (c : Jvm.ClassFile.Cond) (x y : Int32) : Bool := match c with
  | .eq => decide (x = y)
  | .ne => decide (¬ x = y)
  | .lt => decide (x < y)
  | .ge => decide (y ≤ x)
  | .gt => decide (y < x)
  | .le => decide (x ≤ y)
def jmpT (pc : Nat) (off : Int) : Nat := ((pc : Int) + off).toNat
def swT (pc : Nat) (dflt lo hi : Int) (offs : Array Int) (x : Int32) : Option Nat :=
  if x.toInt < lo ∨ hi < x.toInt then (if 0 ≤ (pc : Int) + dflt then some (jmpT pc dflt) else none)
  else (offs[(x.toInt - lo).toNat]?).bind (fun off => if 0 ≤ (pc : Int) + off then some (jmpT pc off) else none)
def cl (i : Int32) : Nat := i.toNatClampNeg
def updZ (f : Nat → Int32) (i : Nat) (x : Int32) : Nat → Int32 := upd f i (vp_nar .boolean x)
/-- may a value of kind t (0 int, 1 long, 2 boolean, 3 reference) be put -/
def putOk (t : Nat) (v : Value) : Bool := match t, v with
  | 0, .int _ => true
  | 1, .long _ => true
  | 2, .int x => decide (x = 0 ∨ x = 1)
  | 3, .ref _ => true
  | 3, .null => true
  | _, _ => false
/-- RoundMapsLaw.row: what it answers, as a next state: the exception is one new cell -/
def rowB (h : AH) (st : List Value) (k : List Value → AH → Option AT) : Option AT :=
  pR st fun o st => pI st fun i st => pR st fun x st => gO (ag h x) fun (ci : Nat) (fs : List Value) => match (fs[7]? : Option Value) with
    | some (.ref t) => gO (ag h t) fun (ct : Nat) (ts : List Value) => match (ts : List Value) with
      | [.ref nm, .int tot] => gI (ag h nm) fun ty n f => gJ (ag h o) fun tyo no g =>
        gT (ci = 11 ∧ ct = 8 ∧ ty = .int ∧ tyo = .long ∧ n = 128 ∧ no = 1) <|
        if 0 ≤ i ∧ i < tot ∧ i < 128 then k (.int 0 :: st) (au h o (cJ 1 (vp_updL g 0 (f (cl i)).toInt64)))
        else k (.int 1 :: st) (an h 16 (cO 13 []))
      | _ => none
    | _ => none
def lI {α : Type} (o : Option Value) (k : Int32 → Option α) : Option α := match o with
  | some (.int x) => k x
  | _ => none
def lJ {α : Type} (o : Option Value) (k : Int64 → Option α) : Option α := match o with
  | some (.long x) => k x
  | _ => none
def lR {α : Type} (o : Option Value) (k : Value → Option α) : Option α := match o with
  | some (.ref x) => k (.ref x)
  | some .null => k .null
  | _ => none
def vI {α : Type} (v : Value) (k : Int32 → Option α) : Option α := match v with
  | .int x => k x
  | _ => none
def vT {α : Type} (v : Value) (k : Nat → Option α) : Option α := match v with
  | .retAddr x => k x
  | _ => none
def isR (v : Value) : Bool := match v with
  | .ref _ => true
  | .null => true
  | _ => false
def nx (m pc : Nat) (lv : LV) (st : List Value) (h : AH) : Option AT := some (.inl (m, pc, lv, st, h))
def br (b : Bool) (m p1 p2 : Nat) (lv : LV) (st : List Value) (h : AH) : Option AT := some (.inr (.inl (b, (m, p1, lv, st, h), (m, p2, lv, st, h))))
def rt (v : Option Value) (h : AH) : Option AT := some (.inr (.inr (.inr (v, h))))
def cpyB (h : AH) (st : List Value) (k : List Value → AH → Option AT) : Option AT :=
  pI st fun n st => pI st fun dp st => pR st fun d st => pI st fun sp st => pR st fun s st =>
    gT (¬ sp < 0 ∧ ¬ dp < 0 ∧ ¬ n < 0) <| match ag h s, ag h d with
    | some (.inl (.int, n0, .inl f)), some (.inl (.int, n1, .inl g)) => gT (cl sp + cl n ≤ n0 ∧ cl dp + cl n ≤ n1) (k st (au h d (cI n1 (va_cpy f g (cl sp) (cl dp) (cl n)))))
    | some (.inl (.long, n0, .inr (.inl f))), some (.inl (.long, n1, .inr (.inl g))) => gT (cl sp + cl n ≤ n0 ∧ cl dp + cl n ≤ n1) (k st (au h d (cJ n1 (va_cpy f g (cl sp) (cl dp) (cl n)))))
    | _, _ => none
def callA (m pc a b : Nat) (lv : LV) (st : List Value) (h : AH) (chk : List Value → Bool) : Option AT :=
  (popN b st []).bind fun q => gT (chk q.1 = true ∧ q.2.length ≤ 12) (some (.inr (.inr (.inl (a, q.1, (m, pc, lv, q.2, h))))))
def isO (h : AH) (c : Nat) (as : List Value) : Bool := match as with
  | .ref r :: _ => (match ag h r with
    | some (.inr (ci, _)) => ci == c
    | _ => false)
  | _ => false
/-- one instruction: the next state, a branch, a call, or the end -/
def aI (m pc : Nat) (lv : LV) (st : List Value) (h : AH) : EN → Option AT
  | (i, len, a, b, v, _) => match i with
    | .aconst_null => nx m (pc + len) lv (.null :: st) h
    | .iconst _ => nx m (pc + len) lv (v :: st) h
    | .bipush _ => nx m (pc + len) lv (v :: st) h
    | .sipush _ => nx m (pc + len) lv (v :: st) h
    | .lconst _ => nx m (pc + len) lv (v :: st) h
    | .ldc _ => nx m (pc + len) lv (v :: st) h
    | .ldc_w _ => nx m (pc + len) lv (v :: st) h
    | .ldc2_w _ => nx m (pc + len) lv (v :: st) h
    | .getstatic _ => nx m (pc + len) lv (v :: st) h
    | .iload k => lI (ld lv k) fun x => nx m (pc + len) lv (.int x :: st) h
    | .iload_n k => lI (ld lv k.val) fun x => nx m (pc + len) lv (.int x :: st) h
    | .lload k => lJ (ld lv k) fun x => nx m (pc + len) lv (.long x :: st) h
    | .lload_n k => lJ (ld lv k.val) fun x => nx m (pc + len) lv (.long x :: st) h
    | .aload k => lR (ld lv k) fun x => nx m (pc + len) lv (x :: st) h
    | .aload_n k => lR (ld lv k.val) fun x => nx m (pc + len) lv (x :: st) h
    | .istore k => pI st fun x st => nx m (pc + len) (ss1 lv k (.int x)) st h
    | .istore_n k => pI st fun x st => nx m (pc + len) (ss1 lv k.val (.int x)) st h
    | .lstore k => pJ st fun x st => nx m (pc + len) (ss2 lv k (.long x)) st h
    | .lstore_n k => pJ st fun x st => nx m (pc + len) (ss2 lv k.val (.long x)) st h
    | .astore k => pV st fun x st => gT (isR x = true) <| nx m (pc + len) (ss1 lv k x) st h
    | .astore_n k => pV st fun x st => gT (isR x = true) <| nx m (pc + len) (ss1 lv k.val x) st h
    | .iinc k _ => lI (ld lv k) fun x => vI v fun d => nx m (pc + len) (ss1 lv k (.int (x + d))) st h
    | .iadd => pI st fun y st => pI st fun x st => nx m (pc + len) lv (.int (x + y) :: st) h
    | .isub => pI st fun y st => pI st fun x st => nx m (pc + len) lv (.int (x - y) :: st) h
    | .imul => pI st fun y st => pI st fun x st => nx m (pc + len) lv (.int (x * y) :: st) h
    | .idiv => pI st fun y st => pI st fun x st => gT (¬ y = 0) <| nx m (pc + len) lv (.int (x / y) :: st) h
    | .irem => pI st fun y st => pI st fun x st => gT (¬ y = 0) <| nx m (pc + len) lv (.int (x - x / y * y) :: st) h
    | .iand => pI st fun y st => pI st fun x st => nx m (pc + len) lv (.int (x &&& y) :: st) h
    | .ior => pI st fun y st => pI st fun x st => nx m (pc + len) lv (.int (x ||| y) :: st) h
    | .ineg => pI st fun x st => nx m (pc + len) lv (.int (-x) :: st) h
    | .ishl => pI st fun y st => pI st fun x st => nx m (pc + len) lv (.int (x <<< (y &&& 31)) :: st) h
    | .ishr => pI st fun y st => pI st fun x st => nx m (pc + len) lv (.int (x >>> (y &&& 31)) :: st) h
    | .iushr => pI st fun y st => pI st fun x st => nx m (pc + len) lv (.int ((x.toUInt32 >>> (y.toUInt32 &&& Int32.toUInt32 31)).toInt32) :: st) h
    | .i2l => pI st fun x st => nx m (pc + len) lv (.long x.toInt64 :: st) h
    | .l2i => pJ st fun x st => nx m (pc + len) lv (.int x.toInt32 :: st) h
    | .i2b => pI st fun x st => nx m (pc + len) lv (.int x.toInt8.toInt32 :: st) h
    | .i2s => pI st fun x st => nx m (pc + len) lv (.int x.toInt16.toInt32 :: st) h
    | .i2c => pI st fun x st => nx m (pc + len) lv (.int (x.toUInt32 % 65536).toInt32 :: st) h
    | .ladd => pJ st fun y st => pJ st fun x st => nx m (pc + len) lv (.long (x + y) :: st) h
    | .lsub => pJ st fun y st => pJ st fun x st => nx m (pc + len) lv (.long (x - y) :: st) h
    | .lmul => pJ st fun y st => pJ st fun x st => nx m (pc + len) lv (.long (x * y) :: st) h
    | .ldiv => pJ st fun y st => pJ st fun x st => gT (¬ y = 0) <| nx m (pc + len) lv (.long (x / y) :: st) h
    | .land => pJ st fun y st => pJ st fun x st => nx m (pc + len) lv (.long (x &&& y) :: st) h
    | .lor => pJ st fun y st => pJ st fun x st => nx m (pc + len) lv (.long (x ||| y) :: st) h
    | .lxor => pJ st fun y st => pJ st fun x st => nx m (pc + len) lv (.long (x ^^^ y) :: st) h
    | .lneg => pJ st fun x st => nx m (pc + len) lv (.long (-x) :: st) h
    | .lshl => pI st fun y st => pJ st fun x st => nx m (pc + len) lv (.long (x <<< (y.toInt64 &&& 63)) :: st) h
    | .lushr => pI st fun y st => pJ st fun x st => nx m (pc + len) lv (.long ((x.toUInt64 >>> (y.toInt64.toUInt64 &&& Int64.toUInt64 63)).toInt64) :: st) h
    | .lcmp => pJ st fun y st => pJ st fun x st => nx m (pc + len) lv (.int (lg_cmp x y) :: st) h
    | .dup => pV st fun x st => gT (x.category = 1) <| nx m (pc + len) lv (x :: x :: st) h
    | .pop => pV st fun x st => gT (x.category = 1) <| nx m (pc + len) lv st h
    | .dup2 => pV st fun x st => pV st fun y st => gT (x.category = 1 ∧ y.category = 1) <| nx m (pc + len) lv (x :: y :: x :: y :: st) h
    | .goto _ => nx m a lv st h
    | .ifCond c _ => pI st fun x st => br (cmpB c x 0) m a (pc + len) lv st h
    | .if_icmp c _ => pI st fun y st => pI st fun x st => br (cmpB c x y) m a (pc + len) lv st h
    | .ifnull _ => pV st fun x st => gT (isR x = true) <| nx m (match x with
      | .null => a
      | _ => pc + len) lv st h
    | .ifnonnull _ => pV st fun x st => gT (isR x = true) <| nx m (match x with
      | .null => pc + len
      | _ => a) lv st h
    | .tableswitch dflt lo hi offs => pI st fun x st => (swT pc dflt lo hi offs x).bind fun t => nx m t lv st h
    | .getfield _ => pR st fun r st => gO (ag h r) fun ci fs => gT (ci = a) <| (fs[b]?).bind fun w => nx m (pc + len) lv (w :: st) h
    | .putfield _ => pV st fun w st => pR st fun r st => gO (ag h r) fun ci fs => vT v fun t => gT (ci = a ∧ putOk t w = true ∧ b < fs.length) <| nx m (pc + len) lv st (au h r (cO ci (fs.set b w)))
    | .arraylength => pR st fun r st => gL (ag h r) fun n => nx m (pc + len) lv (.int (nI n) :: st) h
    | .iaload => pI st fun i st => pR st fun r st => gI (ag h r) fun ty n f => gT (ty = .int ∨ ty = .char) <| gX i n <| nx m (pc + len) lv (.int (f (cl i)) :: st) h
    | .baload => pI st fun i st => pR st fun r st => gI (ag h r) fun ty n f => gT (ty = .boolean ∨ ty = .byte) <| gX i n <| nx m (pc + len) lv (.int (f (cl i)) :: st) h
    | .laload => pI st fun i st => pR st fun r st => gJ (ag h r) fun ty n f => gT (ty = .long) <| gX i n <| nx m (pc + len) lv (.long (f (cl i)) :: st) h
    | .aaload => pI st fun i st => pR st fun r st => gR (ag h r) fun _ n f => gX i n <| nx m (pc + len) lv (va_rf (f (cl i)) :: st) h
    | .iastore => pI st fun x st => pI st fun i st => pR st fun r st => gI (ag h r) fun ty n f => gT (ty = .int) <| gX i n <| nx m (pc + len) lv st (au h r (cI n (upd f (cl i) x)))
    | .bastore => pI st fun x st => pI st fun i st => pR st fun r st => gI (ag h r) fun ty n f => gT (ty = .boolean) <| gX i n <| nx m (pc + len) lv st (au h r (cZ n (updZ f (cl i) x)))
    | .lastore => pJ st fun x st => pI st fun i st => pR st fun r st => gJ (ag h r) fun ty n f => gT (ty = .long) <| gX i n <| nx m (pc + len) lv st (au h r (cJ n (vp_updL f (cl i) x)))
    | .aastore => pR st fun x st => pI st fun i st => pR st fun r st => gR (ag h r) fun ty n f => gO (ag h x) fun ci _ => match ty with
      | .object C => gT ((CL.getD ci ("", TX13, 0)).1 = C ∧ ci < 13) <| gX i n <| nx m (pc + len) lv st (au h r (cR C n (va_up f (cl i) (some x))))
      | _ => none
    | .new _ => gT (h.1 < 700000) <| nx m (pc + len) lv (.ref h.1 :: st) (an h b (cO a (DFT.getD a [])))
    | .newarray t => pI st fun n st => gT (h.1 < 700000 ∧ ¬ n < 0 ∧ cl n ≤ 20000) <| (match t with
      | .int => some (cI (cl n) (fun _ => 0))
      | .boolean => some (cZ (cl n) (fun _ => 0))
      | .long => some (cJ (cl n) (fun _ => 0))
      | _ => none).bind fun c => nx m (pc + len) lv (.ref h.1 :: st) (an h (cl n) c)
    | .anewarray _ => pI st fun n st => gT (h.1 < 700000 ∧ ¬ n < 0 ∧ cl n ≤ 20000) <| nx m (pc + len) lv (.ref h.1 :: st) (an h (cl n) (cR (CL.getD a ("", TX13, 0)).1 (cl n) (fun _ => none)))
    | .checkcast _ => pR st fun r st => gI (ag h r) fun ty _ _ => gT (ty = .int) <| nx m (pc + len) lv (.ref r :: st) h
    | .invokespecial _ => if a = 9000 then pR st fun _ st => gT (st.length ≤ 12) <| nx m (pc + len) lv st h
      else callA m (pc + len) a b lv st h (fun as => match as with
        | .ref _ :: _ => true
        | _ => false)
    | .invokevirtual _ => if a = 9003 then pR st fun r st => gI (ag h r) fun ty n f => gT (ty = .int ∧ h.1 < 700000 ∧ st.length ≤ 12) <| nx m (pc + len) lv (.ref h.1 :: st) (an h n (cI n f))
      else vT v fun c => callA m (pc + len) a b lv st h (isO h c)
    | .invokestatic _ => if a = 9001 then cpyB h st fun st h => gT (st.length ≤ 12) <| nx m (pc + len) lv st h
      else if a = 9002 then rowB h st fun st h => nx m (pc + len) lv st h
      else callA m (pc + len) a b lv st h (fun _ => true)
    | .ireturn => match st with
      | [.int x] => gT ((a = 1 → x = 0 ∨ x = 1) ∧ (a = 2 → x.toInt8.toInt32 = x)) <| rt (some (.int x)) h
      | _ => none
    | .lreturn => match st with
      | [.long x] => rt (some (.long x)) h
      | _ => none
    | .areturn => match st with
      | [x] => gT (isR x = true) <| rt (some x) h
      | _ => none
    | .return_ => match st with
      | [] => rt none h
      | _ => none
    | _ => none
def aS (m pc : Nat) (lv : LV) (st : List Value) (h : AH) : Option AT := (KM m pc).bind fun e => aI m pc (trimO e.2.2.2.2.2 lv) st h e
def MX (m : Nat) : Nat := (MT.getD m (0, ⟨"", "", ""⟩, .mk #[], 0, none, 0, false, 0, 0, 0, 0)).2.2.2.1
def psh (o : OU) (st : List Value) : List Value := match o.1 with
  | some v => v :: st
  | none => st
/-- the run, with fuel f, d calls deep at most -/
def aX : Nat → Nat → CF → Option OU
  | 0, _, _ => none
  | f + 1, d, (m, pc, lv, st, h) => match aS m pc lv st h with
    | none => none
    | some (.inl c) => aX f d c
    | some (.inr (.inl (b, c1, c2))) => if b = true then aX f d c1 else aX f d c2
    | some (.inr (.inr (.inl (y, as, (m2, pc2, lv2, st2, h2))))) => match d with
      | 0 => none
      | d + 1 => (aX f d (y, 0, padL (MX y) (layA as), [], h2)).bind fun o => aX f (d + 1) (m2, pc2, lv2, psh o st2, o.2)
    | some (.inr (.inr (.inr o))) => some o
theorem aX_mono : ∀ (f d : Nat) (c : CF) (o : OU), aX f d c = some o → aX (f + 1) d c = some o := by
  intro f
  induction f with
  | zero => intro d c o h; cases h
  | succ f ih =>
    intro d c o h
    obtain ⟨m, pc, lv, st, hp⟩ := c
    rw [aX] at h ⊢
    split at h
    · cases h
    · exact ih _ _ _ h
    · split at h
      · rename_i hb; rw [if_pos hb]; exact ih _ _ _ h
      · rename_i hb; rw [if_neg hb]; exact ih _ _ _ h
    · rename_i y as m2 pc2 lv2 st2 h2 hs
      cases d with
      | zero => cases h
      | succ d =>
        dsimp only at h ⊢
        cases hc : aX f d (y, 0, padL (MX y) (layA as), [], h2) with
        | none => rw [hc] at h; cases h
        | some o1 => rw [hc] at h; rw [ih _ _ _ hc]; exact ih _ _ _ h
    · exact h
theorem aX_le {f g d : Nat} {c : CF} {o : OU} (h : aX f d c = some o) (hg : f ≤ g) : aX g d c = some o := by
  induction hg with
  | refl => exact h
  | step _ ih => exact aX_mono _ _ _ _ ih
noncomputable def aAt (d m pc : Nat) (lv : LV) (st : List Value) (h : AH) : Option OU :=
  @dite _ (∃ (f : Nat) (o : OU), aX f d (m, pc, lv, st, h) = some o) (Classical.propDecidable _) (fun H => some (Classical.choose (Classical.choose_spec H))) (fun _ => none)
theorem aAt_iff {d m pc : Nat} {lv : LV} {st : List Value} {h : AH} {o : OU} : aAt d m pc lv st h = some o ↔ ∃ f, aX f d (m, pc, lv, st, h) = some o := by
  unfold aAt
  constructor
  · intro H
    split at H
    · rename_i hx
      cases H
      exact ⟨_, Classical.choose_spec (Classical.choose_spec hx)⟩
    · cases H
  · rintro ⟨f, hf⟩
    have H : ∃ (f : Nat) (o : OU), aX f d (m, pc, lv, st, h) = some o := ⟨f, o, hf⟩
    rw [dif_pos H]
    have h1 := Classical.choose_spec (Classical.choose_spec H)
    have h2 := aX_le h1 (Nat.le_max_left _ f)
    have h3 := aX_le hf (Nat.le_max_right (Classical.choose H) f)
    rw [h2] at h3
    exact h3
noncomputable def aAtC (d : Nat) (c : CF) : Option OU := aAt d c.1 c.2.1 c.2.2.1 c.2.2.2.1 c.2.2.2.2
noncomputable def aCall (d y : Nat) (as : List Value) (h : AH) : Option OU := match d with
  | 0 => none
  | d + 1 => aAt d y 0 (padL (MX y) (layA as)) [] h
noncomputable def aR (go : CF → Option OU) (d : Nat) (a : Option AT) : Option OU := match a with
  | none => none
  | some (.inl c) => go c
  | some (.inr (.inl (b, c1, c2))) => if b = true then go c1 else go c2
  | some (.inr (.inr (.inl (y, as, (m2, pc2, lv2, st2, h2))))) => (aCall d y as h2).bind fun o => go (m2, pc2, lv2, psh o st2, o.2)
  | some (.inr (.inr (.inr o))) => some o
theorem aAtC_iff {d : Nat} {c : CF} {o : OU} : aAtC d c = some o ↔ ∃ f, aX f d c = some o := aAt_iff
theorem opt_ext {α : Type} {a b : Option α} (h : ∀ o, a = some o ↔ b = some o) : a = b := by
  cases a with
  | none =>
    cases b with
    | none => rfl
    | some b => exact absurd ((h b).mpr rfl) (by simp)
  | some a => exact ((h a).mp rfl).symm
theorem aAt_step (d m pc : Nat) (lv : LV) (st : List Value) (h : AH) : aAt d m pc lv st h = aR (aAtC d) d (aS m pc lv st h) := by
  apply opt_ext
  intro o
  rw [aAt_iff]
  constructor
  · rintro ⟨f, hf⟩
    cases f with
    | zero => cases hf
    | succ f =>
      rw [aX] at hf
      unfold aR
      split at hf
      · cases hf
      · rename_i c hs; exact aAtC_iff.mpr ⟨_, hf⟩
      · split at hf
        · rename_i hb; rw [if_pos hb]; exact aAtC_iff.mpr ⟨_, hf⟩
        · rename_i hb; rw [if_neg hb]; exact aAtC_iff.mpr ⟨_, hf⟩
      · rename_i y as m2 pc2 lv2 st2 h2 hs
        cases d with
        | zero => cases hf
        | succ d =>
          dsimp only at hf
          cases hc : aX f d (y, 0, padL (MX y) (layA as), [], h2) with
          | none => rw [hc] at hf; cases hf
          | some o1 =>
            rw [hc] at hf
            have h1 : aCall (d + 1) y as h2 = some o1 := aAt_iff.mpr ⟨_, hc⟩
            rw [h1]
            exact aAtC_iff.mpr ⟨_, hf⟩
      · exact hf
  · intro hf
    unfold aR at hf
    split at hf
    · cases hf
    · rename_i c hs
      obtain ⟨f, hf⟩ := aAtC_iff.mp hf
      exact ⟨f + 1, by rw [aX, hs]; exact hf⟩
    · rename_i b c1 c2 hs
      split at hf
      · rename_i hb
        obtain ⟨f, hf⟩ := aAtC_iff.mp hf
        exact ⟨f + 1, by rw [aX, hs]; dsimp only; rw [if_pos hb]; exact hf⟩
      · rename_i hb
        obtain ⟨f, hf⟩ := aAtC_iff.mp hf
        exact ⟨f + 1, by rw [aX, hs]; dsimp only; rw [if_neg hb]; exact hf⟩
    · rename_i y as m2 pc2 lv2 st2 h2 hs
      cases d with
      | zero => cases hf
      | succ d =>
        cases hc : aCall (d + 1) y as h2 with
        | none => rw [hc] at hf; cases hf
        | some o1 =>
          rw [hc] at hf
          obtain ⟨f1, h1⟩ := aAt_iff.mp (show aAt d y 0 (padL (MX y) (layA as)) [] h2 = some o1 from hc)
          obtain ⟨f2, h2'⟩ := aAtC_iff.mp hf
          refine ⟨max f1 f2 + 1, ?_⟩
          rw [aX, hs]
          dsimp only
          rw [aX_le h1 (Nat.le_max_left f1 f2)]
          exact aX_le h2' (Nat.le_max_right f1 f2)
    · rename_i o' hs
      exact ⟨1, by rw [aX, hs]; exact hf⟩
/-- evaluation by simp: n steps at most, stops at labels -/
noncomputable def aGo : Nat → Nat → CF → Option OU
  | 0, d, c => aAtC d c
  | n + 1, d, (m, pc, lv, st, h) => (KM m pc).bind fun e => match e.2.2.2.2.2 with
    | some bs => aAt d m pc (trimB bs lv) st h
    | none => aR (aGo n d) d (aI m pc lv st h e)
noncomputable def aG1 (n d m pc : Nat) (lv : LV) (st : List Value) (h : AH) : Option OU := (KM m pc).bind fun e => aR (aGo n d) d (aI m pc (trimO e.2.2.2.2.2 lv) st h e)
theorem trimB_idem : ∀ (bs : List Bool) (lv : LV), trimB bs (trimB bs lv) = trimB bs lv
  | [], lv => rfl
  | true :: bs, [] => rfl
  | false :: bs, [] => rfl
  | true :: bs, x :: lv => by rw [trimB, trimB, trimB_idem bs lv]
  | false :: bs, x :: lv => by rw [trimB, trimB, trimB_idem bs lv]
theorem aGo_eq : ∀ (n d : Nat) (c : CF), aGo n d c = aAtC d c := by
  intro n
  induction n with
  | zero => intro d c; rfl
  | succ n ih =>
    intro d c
    obtain ⟨m, pc, lv, st, h⟩ := c
    show _ = aAt d m pc lv st h
    rw [aAt_step, aGo, show aGo n d = aAtC d from funext (ih d)]
    unfold aS
    cases hk : KM m pc with
    | none => rfl
    | some e =>
      obtain ⟨i, len, a, b, v, lab⟩ := e
      cases lab with
      | none => rfl
      | some bs =>
        show aAt d m pc (trimB bs lv) st h = _
        rw [aAt_step]
        unfold aS
        rw [hk]
        simp only [Option.bind_some, trimO, trimB_idem]
theorem aG1_eq (n d m pc : Nat) (lv : LV) (st : List Value) (h : AH) : aAt d m pc lv st h = aG1 n d m pc lv st h := by
  rw [aAt_step]
  unfold aG1 aS
  rw [show aGo n d = aAtC d from funext (aGo_eq n d)]
  cases KM m pc with
  | none => rfl
  | some e => rfl
theorem aCall_eq (n d y : Nat) (as : List Value) (h : AH) : aCall (d + 1) y as h = aG1 n d y 0 (padL (MX y) (layA as)) [] h := aG1_eq _ _ _ _ _ _ _
-- rows for simp
theorem e_nx {go : CF → Option OU} {d m pc : Nat} {lv : LV} {st : List Value} {h : AH} : aR go d (nx m pc lv st h) = go (m, pc, lv, st, h) := rfl
theorem e_br {go : CF → Option OU} {d : Nat} {b : Bool} {m p1 p2 : Nat} {lv : LV} {st : List Value} {h : AH} : aR go d (br b m p1 p2 lv st h) = if b = true then go (m, p1, lv, st, h) else go (m, p2, lv, st, h) := rfl
theorem e_rt {go : CF → Option OU} {d : Nat} {v : Option Value} {h : AH} : aR go d (rt v h) = some (v, h) := rfl
theorem e_no {go : CF → Option OU} {d : Nat} : aR go d none = none := rfl
theorem e_cl {go : CF → Option OU} {d y : Nat} {as : List Value} {m2 pc2 : Nat} {lv2 : LV} {st2 : List Value} {h2 : AH} : aR go d (some (.inr (.inr (.inl (y, as, (m2, pc2, lv2, st2, h2)))))) = (aCall d y as h2).bind fun o => go (m2, pc2, lv2, psh o st2, o.2) := rfl
theorem e_go {n d m pc : Nat} {lv : LV} {st : List Value} {h : AH} : aGo (n + 1) d (m, pc, lv, st, h) = (KM m pc).bind fun e => match e.2.2.2.2.2 with
    | some bs => aAt d m pc (trimB bs lv) st h
    | none => aR (aGo n d) d (aI m pc lv st h e) := rfl
theorem e_pI {α : Type} {x : Int32} {t : List Value} {k : Int32 → List Value → Option α} : pI (.int x :: t) k = k x t := rfl
theorem e_pJ {α : Type} {x : Int64} {t : List Value} {k : Int64 → List Value → Option α} : pJ (.long x :: t) k = k x t := rfl
theorem e_pR {α : Type} {x : Nat} {t : List Value} {k : Nat → List Value → Option α} : pR (.ref x :: t) k = k x t := rfl
theorem e_pV {α : Type} {x : Value} {t : List Value} {k : Value → List Value → Option α} : pV (x :: t) k = k x t := rfl
theorem e_gO {α : Type} {ci : Nat} {fs : List Value} {k : Nat → List Value → Option α} : gO (some (.inr (ci, fs))) k = k ci fs := rfl
theorem e_gI {α : Type} {ty : FieldType} {n : Nat} {f : Nat → Int32} {k : FieldType → Nat → (Nat → Int32) → Option α} : gI (some (.inl (ty, n, .inl f))) k = k ty n f := rfl
theorem e_gJ {α : Type} {ty : FieldType} {n : Nat} {f : Nat → Int64} {k : FieldType → Nat → (Nat → Int64) → Option α} : gJ (some (.inl (ty, n, .inr (.inl f)))) k = k ty n f := rfl
theorem e_gR {α : Type} {ty : FieldType} {n : Nat} {f : Nat → Option Nat} {k : FieldType → Nat → (Nat → Option Nat) → Option α} : gR (some (.inl (ty, n, .inr (.inr (.inr (.inr f)))))) k = k ty n f := rfl
theorem e_gL {α : Type} {ty : FieldType} {x : vp_A} {k : Nat → Option α} : gL (some (.inl (ty, x))) k = k x.1 := rfl
theorem e_lI {α : Type} {x : Int32} {k : Int32 → Option α} : lI (some (.int x)) k = k x := rfl
theorem e_lJ {α : Type} {x : Int64} {k : Int64 → Option α} : lJ (some (.long x)) k = k x := rfl
theorem e_lR {α : Type} {x : Nat} {k : Value → Option α} : lR (some (.ref x)) k = k (.ref x) := rfl
theorem e_lN {α : Type} {k : Value → Option α} : lR (some .null) k = k .null := rfl
theorem e_vI {α : Type} {x : Int32} {k : Int32 → Option α} : vI (.int x) k = k x := rfl
theorem e_vT {α : Type} {x : Nat} {k : Nat → Option α} : vT (.retAddr x) k = k x := rfl
theorem e_gT {α : Type} {b : Prop} [Decidable b] {k : Option α} (h : b) : gT b k = k := if_pos h
theorem e_gX {α : Type} {j n : Nat} {k : Option α} (h : j < n) (hn : n < 2 ^ 31) : gX (nI j) n k = k := if_neg (nI_in h hn)
theorem e_ag {h : AH} {a b : Nat} {c : AC} : ag (au h a c) b = if b = a then some c else ag h b := rfl
theorem e_agn {h : AH} {n b : Nat} {c : AC} : ag (an h n c) b = if b = h.1 then some c else ag h b := rfl
theorem e_bnd {α β : Type} {x : α} {k : α → Option β} : (some x).bind k = k x := rfl
theorem e_ps {v : Value} {h : AH} {st : List Value} : psh (some v, h) st = v :: st := rfl
theorem e_pn {h : AH} {st : List Value} : psh (none, h) st = st := rfl
def bi (b : Bool) : Int32 := if b then 1 else 0
theorem bi_01 (b : Bool) : bi b = 0 ∨ bi b = 1 := by cases b <;> simp [bi]
