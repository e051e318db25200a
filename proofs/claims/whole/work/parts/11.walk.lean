/-! EACH INSTRUCTION OF THE ABSTRACT MACHINE IS THE MACHINE'S -/
def CtxR (G : GG) (r : MR) (E : Prop) (d : Nat) (p : Program) (l : Launch) (R : Room) (s : State) (m : MethodId) (args : Array Value) (meth : Method) (c : Code) : Prop :=
  p.tables.exec = Jvm.exec ∧ c.code = r.2.2.1 ∧ c.maxLocals = r.2.2.2.1 ∧ s.vm.findClass (ownN r.1) = some m.cls ∧ meth.sig.returnType = r.2.2.2.2.1 ∧ (r.2.1.name = "<init>" → meth.name = "<init>") ∧ (∀ w ∈ TBg, w.before args s = true) ∧ (∀ w ∈ NWL, va_Nw w s) ∧ l.flags = flags0 ∧ va_K G.2.1 CV (tysG G) s ∧ SR G s ∧ ZS G s s.heap ∧ d + 1 ≤ R.frames ∧ 120 * d + 100 ≤ R.locals ∧ XT G s s.heap ∧ G.1 ≤ s.heap.size ∧ c.maxLocals ≤ 60 ∧ E
def Ctx (G : GG) (mt d : Nat) (p : Program) (l : Launch) (R : Room) (s : State) (m : MethodId) (args : Array Value) (meth : Method) (c : Code) : Prop := CtxR G (mrow mt) (mt = 310 → 10 ≤ d) d p l R s m args meth c
def Cur (G : GG) (h : AH) (s : State) (H : Heap) (locs : List Loc) (k n hc hs : Nat) : Prop := va_P G.2.1 CV (wsOf G h) H ∧ va_S (regA G) s.heap H locs ∧ EX G h ∧ WFH h ∧ h.1 = hc + k ∧ h.2.1 = hs + n ∧ s.heap.size = G.1 + hc
def Bud (R : Room) (hc hs : Nat) (o : OU) : Prop := o.2.1 ≤ hc + R.cells ∧ o.2.2.1 ≤ hs + R.slots
def okRet (i : Instr) (rt : Option FieldType) (v : Option Value) : Prop := match i, v with
  | .ireturn, some (.int x) => rt = some .int ∨ (rt = some .boolean ∧ (x = 0 ∨ x = 1)) ∨ (rt = some .byte ∧ x.toInt8.toInt32 = x)
  | .lreturn, some (.long _) => rt = some .long
  | .areturn, some w => isR w = true ∧ ((∃ n, rt = some (.object n)) ∨ ∃ t, rt = some (.array t))
  | .return_, none => rt = none
  | _, _ => False
def RetK (G : GG) (mt : Nat) (p : Program) (l : Launch) (e : Env) (R : Room) (s : State) (m : MethodId) (args : Array Value) (below : List Frame) (meth : Method) (c : Code) (hc hs : Nat) (Q : State → Prop) (o : OU) : Prop :=
  ∀ (pc : Nat) (i : Instr) (ls : Array Slot) (H : Heap) (locs : List Loc), decode (mrow mt).2.2.1 pc = .ok (i, 1) → okRet i (mrow mt).2.2.2.2.1 o.1 → va_P G.2.1 CV (wsOf G o.2) H → va_S (regA G) s.heap H locs → WFH o.2 → EX G o.2 → W p l e R s m args below meth c H locs (o.2.1 - hc) (o.2.2.1 - hs) Q (F0 m pc ls (o.1.toList.map (cv G)))
/-- from here the machine comes to o -/
def WS (d mt pc : Nat) (lv : LV) (st : List Value) (h : AH) (o : OU) : Prop := (h.1 ≤ o.2.1 ∧ h.2.1 ≤ o.2.2.1) ∧
  ∀ (G : GG) (p : Program) (l : Launch) (e : Env) (R : Room) (s : State) (m : MethodId) (args : Array Value) (below : List Frame) (meth : Method) (c : Code) (H : Heap) (locs : List Loc) (ls : Array Slot) (k n hc hs : Nat) (Q : State → Prop),
    Ctx G mt d p l R s m args meth c → Cur G h s H locs k n hc hs → lv_has ls (mrow mt).2.2.2.1 (prs G 0 lv) → Bud R hc hs o → RetK G mt p l e R s m args below meth c hc hs Q o → W p l e R s m args below meth c H locs k n Q (F0 m pc ls (st.map (cv G)))
def GoOn (d : Nat) (o : OU) (r : AT) : Prop := match r with
  | .inl (m, pc, lv, st, h) => WS d m pc lv st h o
  | .inr (.inl (b, (m1, p1, l1, s1, h1), (m2, p2, l2, s2, h2))) => if b = true then WS d m1 p1 l1 s1 h1 o else WS d m2 p2 l2 s2 h2 o
  | .inr (.inr (.inl (y, as, (m2, pc2, lv2, st2, h2)))) => ∃ (d' : Nat) (o1 : OU), d = d' + 1 ∧ (y < 310 → (layA as).length ≤ MX y → MetA d' y as h2 o1 ∧ (h2.1 ≤ o1.2.1 ∧ h2.2.1 ≤ o1.2.2.1)) ∧ WS d m2 pc2 lv2 (psh o1 st2) o1.2 o
  | .inr (.inr (.inr o')) => o' = o
theorem pI_some {α : Type} {st : List Value} {k : Int32 → List Value → Option α} {r : α} (h : pI st k = some r) : ∃ x t, st = .int x :: t ∧ k x t = some r := by
  unfold pI at h
  split at h
  · exact ⟨_, _, rfl, h⟩
  · cases h
theorem pJ_some {α : Type} {st : List Value} {k : Int64 → List Value → Option α} {r : α} (h : pJ st k = some r) : ∃ x t, st = .long x :: t ∧ k x t = some r := by
  unfold pJ at h
  split at h
  · exact ⟨_, _, rfl, h⟩
  · cases h
theorem pR_some {α : Type} {st : List Value} {k : Nat → List Value → Option α} {r : α} (h : pR st k = some r) : ∃ x t, st = .ref x :: t ∧ k x t = some r := by
  unfold pR at h
  split at h
  · exact ⟨_, _, rfl, h⟩
  · cases h
theorem pV_some {α : Type} {st : List Value} {k : Value → List Value → Option α} {r : α} (h : pV st k = some r) : ∃ x t, st = x :: t ∧ k x t = some r := by
  unfold pV at h
  split at h
  · exact ⟨_, _, rfl, h⟩
  · cases h
theorem ob_some {α β : Type} {c : Option α} {k : α → Option β} {r : β} (h : ob c k = some r) : ∃ x, c = some x ∧ k x = some r := by
  unfold ob at h
  split at h
  · exact ⟨_, rfl, h⟩
  · cases h
theorem gT_some {α : Type} {b : Prop} [Decidable b] {k : Option α} {r : α} (h : gT b k = some r) : b ∧ k = some r := by
  unfold gT at h
  split at h
  · rename_i hb; exact ⟨hb, h⟩
  · cases h
theorem gX_some {α : Type} {i : Int32} {n : Nat} {k : Option α} {r : α} (h : gX i n k = some r) : vp_in i n ∧ k = some r := by
  unfold gX at h
  split at h
  · cases h
  · rename_i hb; exact ⟨hb, h⟩
theorem gC_some {α : Type} {t : FieldType} {k : String → Option α} {r : α} (h : gC t k = some r) : ∃ C, t = .object C ∧ k C = some r := by
  unfold gC at h
  split at h
  · exact ⟨_, rfl, h⟩
  · cases h
theorem lI_some {α : Type} {c : Option Value} {k : Int32 → Option α} {r : α} (h : lI c k = some r) : ∃ x, c = some (.int x) ∧ k x = some r := by
  unfold lI at h
  split at h
  · exact ⟨_, rfl, h⟩
  · cases h
theorem lJ_some {α : Type} {c : Option Value} {k : Int64 → Option α} {r : α} (h : lJ c k = some r) : ∃ x, c = some (.long x) ∧ k x = some r := by
  unfold lJ at h
  split at h
  · exact ⟨_, rfl, h⟩
  · cases h
theorem lR_some {α : Type} {c : Option Value} {k : Value → Option α} {r : α} (h : lR c k = some r) : ((∃ x, c = some (.ref x) ∧ k (.ref x) = some r) ∨ (c = some .null ∧ k .null = some r)) := by
  unfold lR at h
  split at h
  · exact Or.inl ⟨_, rfl, h⟩
  · exact Or.inr ⟨rfl, h⟩
  · cases h
theorem gO_some {α : Type} {c : Option AC} {k : Nat → List Value → Option α} {r : α} (h : gO c k = some r) : ∃ ci fs, c = some (.inr (ci, fs)) ∧ k ci fs = some r := by
  unfold gO at h
  split at h
  · exact ⟨_, _, rfl, h⟩
  · cases h
theorem gI_some {α : Type} {c : Option AC} {k : FieldType → Nat → (Nat → Int32) → Option α} {r : α} (h : gI c k = some r) : ∃ ty n f, c = some (.inl (ty, n, .inl f)) ∧ k ty n f = some r := by
  unfold gI at h
  split at h
  · exact ⟨_, _, _, rfl, h⟩
  · cases h
theorem gJ_some {α : Type} {c : Option AC} {k : FieldType → Nat → (Nat → Int64) → Option α} {r : α} (h : gJ c k = some r) : ∃ ty n f, c = some (.inl (ty, n, .inr (.inl f))) ∧ k ty n f = some r := by
  unfold gJ at h
  split at h
  · exact ⟨_, _, _, rfl, h⟩
  · cases h
theorem gR_some {α : Type} {c : Option AC} {k : FieldType → Nat → (Nat → Option Nat) → Option α} {r : α} (h : gR c k = some r) : ∃ ty n f, c = some (.inl (ty, n, .inr (.inr (.inr (.inr f))))) ∧ k ty n f = some r := by
  unfold gR at h
  split at h
  · exact ⟨_, _, _, rfl, h⟩
  · cases h
theorem gL_some {α : Type} {c : Option AC} {k : Nat → Option α} {r : α} (h : gL c k = some r) : ∃ ty x, c = some (.inl (ty, x)) ∧ k x.1 = some r := by
  unfold gL at h
  split at h
  · rename_i ty n x; exact ⟨ty, (n, x), rfl, h⟩
  · cases h
theorem vT_some {α : Type} {v : Value} {k : Nat → Option α} {r : α} (h : vT v k = some r) : ∃ x, v = .retAddr x ∧ k x = some r := by
  unfold vT at h
  split at h
  · exact ⟨_, rfl, h⟩
  · cases h
theorem vI_some {α : Type} {v : Value} {k : Int32 → Option α} {r : α} (h : vI v k = some r) : ∃ x, v = .int x ∧ k x = some r := by
  unfold vI at h
  split at h
  · exact ⟨_, rfl, h⟩
  · cases h
theorem hs1 {G : GG} {ls : Array Slot} {nL i : Nat} {lv : LV} {v : Value} (h : lv_has ls nL ((i, cv G v) :: (prs G 0 lv).filter (fun q => !(q.1 == i) && !(q.1 + 1 == i && q.2.category == 2)))) : lv_has ls nL (prs G 0 (ss1 lv i v)) := by
  refine ⟨h.1, h.2.1, fun q hq => h.2.2 q ?_⟩
  rcases prs_ss1 lv i 0 v q hq with rfl | ⟨h1, h2, h3⟩
  · rw [Nat.zero_add]; exact List.mem_cons_self
  · rw [Nat.zero_add] at h2 h3
    refine List.mem_cons_of_mem _ (List.mem_filter.mpr ⟨h1, ?_⟩)
    simp only [Bool.and_eq_true, Bool.not_eq_true', beq_eq_false_iff_ne, Bool.and_eq_false_iff]
    refine ⟨h2, ?_⟩
    by_cases e : q.1 + 1 = i
    · exact Or.inr (fun hc => h3 ⟨e, hc⟩)
    · exact Or.inl e
theorem hs2 {G : GG} {ls : Array Slot} {nL i : Nat} {lv : LV} {v : Value} (h : lv_has ls nL ((i, cv G v) :: (prs G 0 lv).filter (fun q => !(q.1 == i) && (!(q.1 == i + 1) && !(q.1 + 1 == i && q.2.category == 2))))) : lv_has ls nL (prs G 0 (ss2 lv i v)) := by
  refine ⟨h.1, h.2.1, fun q hq => h.2.2 q ?_⟩
  rcases prs_ss2 lv i 0 v q hq with rfl | ⟨h1, h2, h2b, h3⟩
  · rw [Nat.zero_add]; exact List.mem_cons_self
  · rw [Nat.zero_add] at h2 h2b h3
    refine List.mem_cons_of_mem _ (List.mem_filter.mpr ⟨h1, ?_⟩)
    simp only [Bool.and_eq_true, Bool.not_eq_true', beq_eq_false_iff_ne, Bool.and_eq_false_iff]
    refine ⟨h2, h2b, ?_⟩
    by_cases e : q.1 + 1 = i
    · exact Or.inr (fun hc => h3 ⟨e, hc⟩)
    · exact Or.inl e
theorem lvAt {G : GG} {ls : Array Slot} {nL i : Nat} {lv : LV} {v : Value} (h : lv_has ls nL (prs G 0 lv)) (hv : ld lv i = some v) : ls[i]? = some (.val (cv G v)) := by
  have := h.2.2 _ (prs_ld lv 0 i v hv)
  rw [Nat.zero_add] at this
  exact this
section WI
variable {d mt pc a b : Nat} {lv : LV} {st : List Value} {h : AH} {v : Value} {lab : Option (List Bool)} {o : OU} {r : AT}
theorem w_iadd (hd : decode (mrow mt).2.2.1 pc = .ok (.iadd, 1)) (ha : aI mt pc lv st h (.iadd, 1, a, b, v, lab) = some r) (hgo : GoOn d o r) : WS d mt pc lv st h o := by
  obtain ⟨x0, t0, rfl, ha⟩ := pI_some (show pI st _ = some r from ha)
  obtain ⟨x1, t1, rfl, ha⟩ := pI_some ha
  cases ha
  refine ⟨hgo.1, fun G p l e R s m args below meth c H locs ls k n hc hs Q C U L B K => ?_⟩
  exact lv_iadd C.1 C.2.1 hd (hgo.2 G p l e R s m args below meth c H locs ls k n hc hs Q C U L B K)
theorem w_isub (hd : decode (mrow mt).2.2.1 pc = .ok (.isub, 1)) (ha : aI mt pc lv st h (.isub, 1, a, b, v, lab) = some r) (hgo : GoOn d o r) : WS d mt pc lv st h o := by
  obtain ⟨x0, t0, rfl, ha⟩ := pI_some (show pI st _ = some r from ha)
  obtain ⟨x1, t1, rfl, ha⟩ := pI_some ha
  cases ha
  refine ⟨hgo.1, fun G p l e R s m args below meth c H locs ls k n hc hs Q C U L B K => ?_⟩
  exact lv_isub C.1 C.2.1 hd (hgo.2 G p l e R s m args below meth c H locs ls k n hc hs Q C U L B K)
theorem w_imul (hd : decode (mrow mt).2.2.1 pc = .ok (.imul, 1)) (ha : aI mt pc lv st h (.imul, 1, a, b, v, lab) = some r) (hgo : GoOn d o r) : WS d mt pc lv st h o := by
  obtain ⟨x0, t0, rfl, ha⟩ := pI_some (show pI st _ = some r from ha)
  obtain ⟨x1, t1, rfl, ha⟩ := pI_some ha
  cases ha
  refine ⟨hgo.1, fun G p l e R s m args below meth c H locs ls k n hc hs Q C U L B K => ?_⟩
  exact lv_imul C.1 C.2.1 hd (hgo.2 G p l e R s m args below meth c H locs ls k n hc hs Q C U L B K)
theorem w_iand (hd : decode (mrow mt).2.2.1 pc = .ok (.iand, 1)) (ha : aI mt pc lv st h (.iand, 1, a, b, v, lab) = some r) (hgo : GoOn d o r) : WS d mt pc lv st h o := by
  obtain ⟨x0, t0, rfl, ha⟩ := pI_some (show pI st _ = some r from ha)
  obtain ⟨x1, t1, rfl, ha⟩ := pI_some ha
  cases ha
  refine ⟨hgo.1, fun G p l e R s m args below meth c H locs ls k n hc hs Q C U L B K => ?_⟩
  exact lv_iand C.1 C.2.1 hd (hgo.2 G p l e R s m args below meth c H locs ls k n hc hs Q C U L B K)
theorem w_ior (hd : decode (mrow mt).2.2.1 pc = .ok (.ior, 1)) (ha : aI mt pc lv st h (.ior, 1, a, b, v, lab) = some r) (hgo : GoOn d o r) : WS d mt pc lv st h o := by
  obtain ⟨x0, t0, rfl, ha⟩ := pI_some (show pI st _ = some r from ha)
  obtain ⟨x1, t1, rfl, ha⟩ := pI_some ha
  cases ha
  refine ⟨hgo.1, fun G p l e R s m args below meth c H locs ls k n hc hs Q C U L B K => ?_⟩
  exact lv_ior C.1 C.2.1 hd (hgo.2 G p l e R s m args below meth c H locs ls k n hc hs Q C U L B K)
theorem w_ishl (hd : decode (mrow mt).2.2.1 pc = .ok (.ishl, 1)) (ha : aI mt pc lv st h (.ishl, 1, a, b, v, lab) = some r) (hgo : GoOn d o r) : WS d mt pc lv st h o := by
  obtain ⟨x0, t0, rfl, ha⟩ := pI_some (show pI st _ = some r from ha)
  obtain ⟨x1, t1, rfl, ha⟩ := pI_some ha
  cases ha
  refine ⟨hgo.1, fun G p l e R s m args below meth c H locs ls k n hc hs Q C U L B K => ?_⟩
  exact lv_ishl C.1 C.2.1 hd (hgo.2 G p l e R s m args below meth c H locs ls k n hc hs Q C U L B K)
theorem w_ishr (hd : decode (mrow mt).2.2.1 pc = .ok (.ishr, 1)) (ha : aI mt pc lv st h (.ishr, 1, a, b, v, lab) = some r) (hgo : GoOn d o r) : WS d mt pc lv st h o := by
  obtain ⟨x0, t0, rfl, ha⟩ := pI_some (show pI st _ = some r from ha)
  obtain ⟨x1, t1, rfl, ha⟩ := pI_some ha
  cases ha
  refine ⟨hgo.1, fun G p l e R s m args below meth c H locs ls k n hc hs Q C U L B K => ?_⟩
  exact lv_ishr C.1 C.2.1 hd (hgo.2 G p l e R s m args below meth c H locs ls k n hc hs Q C U L B K)
theorem w_iushr (hd : decode (mrow mt).2.2.1 pc = .ok (.iushr, 1)) (ha : aI mt pc lv st h (.iushr, 1, a, b, v, lab) = some r) (hgo : GoOn d o r) : WS d mt pc lv st h o := by
  obtain ⟨x0, t0, rfl, ha⟩ := pI_some (show pI st _ = some r from ha)
  obtain ⟨x1, t1, rfl, ha⟩ := pI_some ha
  cases ha
  refine ⟨hgo.1, fun G p l e R s m args below meth c H locs ls k n hc hs Q C U L B K => ?_⟩
  exact lv_iushr C.1 C.2.1 hd rfl (hgo.2 G p l e R s m args below meth c H locs ls k n hc hs Q C U L B K)
theorem w_idiv (hd : decode (mrow mt).2.2.1 pc = .ok (.idiv, 1)) (ha : aI mt pc lv st h (.idiv, 1, a, b, v, lab) = some r) (hgo : GoOn d o r) : WS d mt pc lv st h o := by
  obtain ⟨x0, t0, rfl, ha⟩ := pI_some (show pI st _ = some r from ha)
  obtain ⟨x1, t1, rfl, ha⟩ := pI_some ha
  obtain ⟨hne, ha⟩ := gT_some ha
  cases ha
  refine ⟨hgo.1, fun G p l e R s m args below meth c H locs ls k n hc hs Q C U L B K => ?_⟩
  exact lv_idiv C.1 C.2.1 hd hne (hgo.2 G p l e R s m args below meth c H locs ls k n hc hs Q C U L B K)
theorem w_irem (hd : decode (mrow mt).2.2.1 pc = .ok (.irem, 1)) (ha : aI mt pc lv st h (.irem, 1, a, b, v, lab) = some r) (hgo : GoOn d o r) : WS d mt pc lv st h o := by
  obtain ⟨x0, t0, rfl, ha⟩ := pI_some (show pI st _ = some r from ha)
  obtain ⟨x1, t1, rfl, ha⟩ := pI_some ha
  obtain ⟨hne, ha⟩ := gT_some ha
  cases ha
  refine ⟨hgo.1, fun G p l e R s m args below meth c H locs ls k n hc hs Q C U L B K => ?_⟩
  exact lv_irem C.1 C.2.1 hd hne (hgo.2 G p l e R s m args below meth c H locs ls k n hc hs Q C U L B K)
theorem w_ladd (hd : decode (mrow mt).2.2.1 pc = .ok (.ladd, 1)) (ha : aI mt pc lv st h (.ladd, 1, a, b, v, lab) = some r) (hgo : GoOn d o r) : WS d mt pc lv st h o := by
  obtain ⟨x0, t0, rfl, ha⟩ := pJ_some (show pJ st _ = some r from ha)
  obtain ⟨x1, t1, rfl, ha⟩ := pJ_some ha
  cases ha
  refine ⟨hgo.1, fun G p l e R s m args below meth c H locs ls k n hc hs Q C U L B K => ?_⟩
  exact lv_ladd C.1 C.2.1 hd (hgo.2 G p l e R s m args below meth c H locs ls k n hc hs Q C U L B K)
theorem w_lsub (hd : decode (mrow mt).2.2.1 pc = .ok (.lsub, 1)) (ha : aI mt pc lv st h (.lsub, 1, a, b, v, lab) = some r) (hgo : GoOn d o r) : WS d mt pc lv st h o := by
  obtain ⟨x0, t0, rfl, ha⟩ := pJ_some (show pJ st _ = some r from ha)
  obtain ⟨x1, t1, rfl, ha⟩ := pJ_some ha
  cases ha
  refine ⟨hgo.1, fun G p l e R s m args below meth c H locs ls k n hc hs Q C U L B K => ?_⟩
  exact lv_lsub C.1 C.2.1 hd (hgo.2 G p l e R s m args below meth c H locs ls k n hc hs Q C U L B K)
theorem w_lmul (hd : decode (mrow mt).2.2.1 pc = .ok (.lmul, 1)) (ha : aI mt pc lv st h (.lmul, 1, a, b, v, lab) = some r) (hgo : GoOn d o r) : WS d mt pc lv st h o := by
  obtain ⟨x0, t0, rfl, ha⟩ := pJ_some (show pJ st _ = some r from ha)
  obtain ⟨x1, t1, rfl, ha⟩ := pJ_some ha
  cases ha
  refine ⟨hgo.1, fun G p l e R s m args below meth c H locs ls k n hc hs Q C U L B K => ?_⟩
  exact lv_lmul C.1 C.2.1 hd (hgo.2 G p l e R s m args below meth c H locs ls k n hc hs Q C U L B K)
theorem w_land (hd : decode (mrow mt).2.2.1 pc = .ok (.land, 1)) (ha : aI mt pc lv st h (.land, 1, a, b, v, lab) = some r) (hgo : GoOn d o r) : WS d mt pc lv st h o := by
  obtain ⟨x0, t0, rfl, ha⟩ := pJ_some (show pJ st _ = some r from ha)
  obtain ⟨x1, t1, rfl, ha⟩ := pJ_some ha
  cases ha
  refine ⟨hgo.1, fun G p l e R s m args below meth c H locs ls k n hc hs Q C U L B K => ?_⟩
  exact lv_land C.1 C.2.1 hd (hgo.2 G p l e R s m args below meth c H locs ls k n hc hs Q C U L B K)
theorem w_lor (hd : decode (mrow mt).2.2.1 pc = .ok (.lor, 1)) (ha : aI mt pc lv st h (.lor, 1, a, b, v, lab) = some r) (hgo : GoOn d o r) : WS d mt pc lv st h o := by
  obtain ⟨x0, t0, rfl, ha⟩ := pJ_some (show pJ st _ = some r from ha)
  obtain ⟨x1, t1, rfl, ha⟩ := pJ_some ha
  cases ha
  refine ⟨hgo.1, fun G p l e R s m args below meth c H locs ls k n hc hs Q C U L B K => ?_⟩
  exact lv_lor C.1 C.2.1 hd (hgo.2 G p l e R s m args below meth c H locs ls k n hc hs Q C U L B K)
theorem w_lxor (hd : decode (mrow mt).2.2.1 pc = .ok (.lxor, 1)) (ha : aI mt pc lv st h (.lxor, 1, a, b, v, lab) = some r) (hgo : GoOn d o r) : WS d mt pc lv st h o := by
  obtain ⟨x0, t0, rfl, ha⟩ := pJ_some (show pJ st _ = some r from ha)
  obtain ⟨x1, t1, rfl, ha⟩ := pJ_some ha
  cases ha
  refine ⟨hgo.1, fun G p l e R s m args below meth c H locs ls k n hc hs Q C U L B K => ?_⟩
  exact lv_lxor C.1 C.2.1 hd (hgo.2 G p l e R s m args below meth c H locs ls k n hc hs Q C U L B K)
theorem w_ldiv (hd : decode (mrow mt).2.2.1 pc = .ok (.ldiv, 1)) (ha : aI mt pc lv st h (.ldiv, 1, a, b, v, lab) = some r) (hgo : GoOn d o r) : WS d mt pc lv st h o := by
  obtain ⟨x0, t0, rfl, ha⟩ := pJ_some (show pJ st _ = some r from ha)
  obtain ⟨x1, t1, rfl, ha⟩ := pJ_some ha
  obtain ⟨hne, ha⟩ := gT_some ha
  cases ha
  refine ⟨hgo.1, fun G p l e R s m args below meth c H locs ls k n hc hs Q C U L B K => ?_⟩
  exact lv_ldiv C.1 C.2.1 hd hne (hgo.2 G p l e R s m args below meth c H locs ls k n hc hs Q C U L B K)
theorem w_ineg (hd : decode (mrow mt).2.2.1 pc = .ok (.ineg, 1)) (ha : aI mt pc lv st h (.ineg, 1, a, b, v, lab) = some r) (hgo : GoOn d o r) : WS d mt pc lv st h o := by
  obtain ⟨x0, t0, rfl, ha⟩ := pI_some (show pI st _ = some r from ha)
  cases ha
  refine ⟨hgo.1, fun G p l e R s m args below meth c H locs ls k n hc hs Q C U L B K => ?_⟩
  exact lv_ineg C.1 C.2.1 hd (hgo.2 G p l e R s m args below meth c H locs ls k n hc hs Q C U L B K)
theorem w_lneg (hd : decode (mrow mt).2.2.1 pc = .ok (.lneg, 1)) (ha : aI mt pc lv st h (.lneg, 1, a, b, v, lab) = some r) (hgo : GoOn d o r) : WS d mt pc lv st h o := by
  obtain ⟨x0, t0, rfl, ha⟩ := pJ_some (show pJ st _ = some r from ha)
  cases ha
  refine ⟨hgo.1, fun G p l e R s m args below meth c H locs ls k n hc hs Q C U L B K => ?_⟩
  exact lv_lneg C.1 C.2.1 hd (hgo.2 G p l e R s m args below meth c H locs ls k n hc hs Q C U L B K)
theorem w_i2l (hd : decode (mrow mt).2.2.1 pc = .ok (.i2l, 1)) (ha : aI mt pc lv st h (.i2l, 1, a, b, v, lab) = some r) (hgo : GoOn d o r) : WS d mt pc lv st h o := by
  obtain ⟨x0, t0, rfl, ha⟩ := pI_some (show pI st _ = some r from ha)
  cases ha
  refine ⟨hgo.1, fun G p l e R s m args below meth c H locs ls k n hc hs Q C U L B K => ?_⟩
  exact lv_i2l C.1 C.2.1 hd rfl (hgo.2 G p l e R s m args below meth c H locs ls k n hc hs Q C U L B K)
theorem w_l2i (hd : decode (mrow mt).2.2.1 pc = .ok (.l2i, 1)) (ha : aI mt pc lv st h (.l2i, 1, a, b, v, lab) = some r) (hgo : GoOn d o r) : WS d mt pc lv st h o := by
  obtain ⟨x0, t0, rfl, ha⟩ := pJ_some (show pJ st _ = some r from ha)
  cases ha
  refine ⟨hgo.1, fun G p l e R s m args below meth c H locs ls k n hc hs Q C U L B K => ?_⟩
  exact lv_l2i C.1 C.2.1 hd rfl (hgo.2 G p l e R s m args below meth c H locs ls k n hc hs Q C U L B K)
theorem w_i2b (hd : decode (mrow mt).2.2.1 pc = .ok (.i2b, 1)) (ha : aI mt pc lv st h (.i2b, 1, a, b, v, lab) = some r) (hgo : GoOn d o r) : WS d mt pc lv st h o := by
  obtain ⟨x0, t0, rfl, ha⟩ := pI_some (show pI st _ = some r from ha)
  cases ha
  refine ⟨hgo.1, fun G p l e R s m args below meth c H locs ls k n hc hs Q C U L B K => ?_⟩
  exact lv_i2b C.1 C.2.1 hd rfl (hgo.2 G p l e R s m args below meth c H locs ls k n hc hs Q C U L B K)
theorem w_i2s (hd : decode (mrow mt).2.2.1 pc = .ok (.i2s, 1)) (ha : aI mt pc lv st h (.i2s, 1, a, b, v, lab) = some r) (hgo : GoOn d o r) : WS d mt pc lv st h o := by
  obtain ⟨x0, t0, rfl, ha⟩ := pI_some (show pI st _ = some r from ha)
  cases ha
  refine ⟨hgo.1, fun G p l e R s m args below meth c H locs ls k n hc hs Q C U L B K => ?_⟩
  exact lv_i2s C.1 C.2.1 hd rfl (hgo.2 G p l e R s m args below meth c H locs ls k n hc hs Q C U L B K)
theorem w_i2c (hd : decode (mrow mt).2.2.1 pc = .ok (.i2c, 1)) (ha : aI mt pc lv st h (.i2c, 1, a, b, v, lab) = some r) (hgo : GoOn d o r) : WS d mt pc lv st h o := by
  obtain ⟨x0, t0, rfl, ha⟩ := pI_some (show pI st _ = some r from ha)
  cases ha
  refine ⟨hgo.1, fun G p l e R s m args below meth c H locs ls k n hc hs Q C U L B K => ?_⟩
  exact lv_i2c C.1 C.2.1 hd rfl (hgo.2 G p l e R s m args below meth c H locs ls k n hc hs Q C U L B K)
theorem w_lshl (hd : decode (mrow mt).2.2.1 pc = .ok (.lshl, 1)) (ha : aI mt pc lv st h (.lshl, 1, a, b, v, lab) = some r) (hgo : GoOn d o r) : WS d mt pc lv st h o := by
  obtain ⟨x0, t0, rfl, ha⟩ := pI_some (show pI st _ = some r from ha)
  obtain ⟨x1, t1, rfl, ha⟩ := pJ_some ha
  cases ha
  refine ⟨hgo.1, fun G p l e R s m args below meth c H locs ls k n hc hs Q C U L B K => ?_⟩
  exact lv_lshl C.1 C.2.1 hd rfl (hgo.2 G p l e R s m args below meth c H locs ls k n hc hs Q C U L B K)
theorem w_lushr (hd : decode (mrow mt).2.2.1 pc = .ok (.lushr, 1)) (ha : aI mt pc lv st h (.lushr, 1, a, b, v, lab) = some r) (hgo : GoOn d o r) : WS d mt pc lv st h o := by
  obtain ⟨x0, t0, rfl, ha⟩ := pI_some (show pI st _ = some r from ha)
  obtain ⟨x1, t1, rfl, ha⟩ := pJ_some ha
  cases ha
  refine ⟨hgo.1, fun G p l e R s m args below meth c H locs ls k n hc hs Q C U L B K => ?_⟩
  exact lv_lushr C.1 C.2.1 hd rfl (hgo.2 G p l e R s m args below meth c H locs ls k n hc hs Q C U L B K)
theorem w_lcmp (hd : decode (mrow mt).2.2.1 pc = .ok (.lcmp, 1)) (ha : aI mt pc lv st h (.lcmp, 1, a, b, v, lab) = some r) (hgo : GoOn d o r) : WS d mt pc lv st h o := by
  obtain ⟨x0, t0, rfl, ha⟩ := pJ_some (show pJ st _ = some r from ha)
  obtain ⟨x1, t1, rfl, ha⟩ := pJ_some ha
  cases ha
  refine ⟨hgo.1, fun G p l e R s m args below meth c H locs ls k n hc hs Q C U L B K => ?_⟩
  exact W.lcmp C.1 C.2.1 hd (hgo.2 G p l e R s m args below meth c H locs ls k n hc hs Q C U L B K)
theorem w_aconst_null (hd : decode (mrow mt).2.2.1 pc = .ok (.aconst_null, 1)) (ha : aI mt pc lv st h (.aconst_null, 1, a, b, v, lab) = some r) (hgo : GoOn d o r) : WS d mt pc lv st h o := by
  cases ha
  refine ⟨hgo.1, fun G p l e R s m args below meth c H locs ls k n hc hs Q C U L B K => ?_⟩
  exact lv_null C.1 C.2.1 hd (hgo.2 G p l e R s m args below meth c H locs ls k n hc hs Q C U L B K)
theorem w_iconst {j : Int} (hd : decode (mrow mt).2.2.1 pc = .ok (.iconst j, 1)) (ha : aI mt pc lv st h (.iconst j, 1, a, b, .int (Int32.ofInt j), lab) = some r) (hgo : GoOn d o r) : WS d mt pc lv st h o := by
  cases ha
  refine ⟨hgo.1, fun G p l e R s m args below meth c H locs ls k n hc hs Q C U L B K => ?_⟩
  exact lv_iconst C.1 C.2.1 hd rfl (hgo.2 G p l e R s m args below meth c H locs ls k n hc hs Q C U L B K)
theorem w_bipush {j : Int} (hd : decode (mrow mt).2.2.1 pc = .ok (.bipush j, 2)) (ha : aI mt pc lv st h (.bipush j, 2, a, b, .int ((Int8.ofInt j).toInt32), lab) = some r) (hgo : GoOn d o r) : WS d mt pc lv st h o := by
  cases ha
  refine ⟨hgo.1, fun G p l e R s m args below meth c H locs ls k n hc hs Q C U L B K => ?_⟩
  exact lv_bipush C.1 C.2.1 hd rfl (hgo.2 G p l e R s m args below meth c H locs ls k n hc hs Q C U L B K)
theorem w_sipush {j : Int} (hd : decode (mrow mt).2.2.1 pc = .ok (.sipush j, 3)) (ha : aI mt pc lv st h (.sipush j, 3, a, b, .int ((Int16.ofInt j).toInt32), lab) = some r) (hgo : GoOn d o r) : WS d mt pc lv st h o := by
  cases ha
  refine ⟨hgo.1, fun G p l e R s m args below meth c H locs ls k n hc hs Q C U L B K => ?_⟩
  exact lv_sipush C.1 C.2.1 hd rfl (hgo.2 G p l e R s m args below meth c H locs ls k n hc hs Q C U L B K)
theorem w_lconst {j : Fin 2} (hd : decode (mrow mt).2.2.1 pc = .ok (.lconst j, 1)) (ha : aI mt pc lv st h (.lconst j, 1, a, b, .long (Int64.ofNat j.val), lab) = some r) (hgo : GoOn d o r) : WS d mt pc lv st h o := by
  cases ha
  refine ⟨hgo.1, fun G p l e R s m args below meth c H locs ls k n hc hs Q C U L B K => ?_⟩
  exact lv_lconst C.1 C.2.1 hd rfl (hgo.2 G p l e R s m args below meth c H locs ls k n hc hs Q C U L B K)
theorem w_ldcI {j : Nat} {z : Int32} (hd : decode (mrow mt).2.2.1 pc = .ok (.ldc j, 2)) (hw : Cond.constant (ownN (mrow mt).1) j z ∈ TBg) (ha : aI mt pc lv st h (.ldc j, 2, a, b, .int z, lab) = some r) (hgo : GoOn d o r) : WS d mt pc lv st h o := by
  cases ha
  refine ⟨hgo.1, fun G p l e R s m args below meth c H locs ls k n hc hs Q C U L B K => ?_⟩
  exact lv_ldc C.1 C.2.1 C.2.2.2.1 (C.2.2.2.2.2.2.1 _ hw) hd (hgo.2 G p l e R s m args below meth c H locs ls k n hc hs Q C U L B K)
theorem w_ldc_w {j : Nat} {z : Int32} (hd : decode (mrow mt).2.2.1 pc = .ok (.ldc_w j, 3)) (hw : Cond.constant (ownN (mrow mt).1) j z ∈ TBg) (ha : aI mt pc lv st h (.ldc_w j, 3, a, b, .int z, lab) = some r) (hgo : GoOn d o r) : WS d mt pc lv st h o := by
  cases ha
  refine ⟨hgo.1, fun G p l e R s m args below meth c H locs ls k n hc hs Q C U L B K => ?_⟩
  exact lv_ldcw C.1 C.2.1 C.2.2.2.1 (C.2.2.2.2.2.2.1 _ hw) hd (hgo.2 G p l e R s m args below meth c H locs ls k n hc hs Q C U L B K)
theorem w_ldc2 {j : Nat} {z : Int64} (hd : decode (mrow mt).2.2.1 pc = .ok (.ldc2_w j, 3)) (hw : Cond.constantLong (ownN (mrow mt).1) j z ∈ TBg) (ha : aI mt pc lv st h (.ldc2_w j, 3, a, b, .long z, lab) = some r) (hgo : GoOn d o r) : WS d mt pc lv st h o := by
  cases ha
  refine ⟨hgo.1, fun G p l e R s m args below meth c H locs ls k n hc hs Q C U L B K => ?_⟩
  exact lv_ldc2 C.1 C.2.1 C.2.2.2.1 (C.2.2.2.2.2.2.1 _ hw) hd (hgo.2 G p l e R s m args below meth c H locs ls k n hc hs Q C U L B K)
theorem w_ldcS {j z zz : Nat} (hd : decode (mrow mt).2.2.1 pc = .ok (.ldc j, 2)) (hw : ∃ pl, ((mrow mt).1, j, z, pl) ∈ SL) (hz : zz = 1048577 + z) (ha : aI mt pc lv st h (.ldc j, 2, a, b, .ref zz, lab) = some r) (hgo : GoOn d o r) : WS d mt pc lv st h o := by
  cases ha
  obtain ⟨pl, hw⟩ := hw
  refine ⟨hgo.1, fun G p l e R s m args below meth c H locs ls k n hc hs Q C U L B K => ?_⟩
  have hR := C.2.2.2.2.2.2.2.2.2.2.1 _ hw
  dsimp only at hR
  rw [← hz] at hR
  exact va_ldcS C.1 C.2.1 C.2.2.2.1 hR hd (hgo.2 G p l e R s m args below meth c H locs ls k n hc hs Q C U L B K)
theorem w_getstatic {j : Nat} (hd : decode (mrow mt).2.2.1 pc = .ok (.getstatic j, 3)) (hw : Cond.fieldLink (ownN (mrow mt).1) j "java/lang/String" "COMPACT_STRINGS" "Z" ∈ TBg) (ha : aI mt pc lv st h (.getstatic j, 3, a, b, .int 1, lab) = some r) (hgo : GoOn d o r) : WS d mt pc lv st h o := by
  cases ha
  refine ⟨hgo.1, fun G p l e R s m args below meth c H locs ls k n hc hs Q C U L B K => ?_⟩
  exact va_gets C.1 C.2.1 C.2.2.2.2.2.2.2.2.2.2.2.1.1 U.2.1 C.2.2.2.1 (C.2.2.2.2.2.2.1 _ hw) (fun _ hx => hx) hd (hgo.2 G p l e R s m args below meth c H locs ls k n hc hs Q C U L B K)
theorem w_iload {j : Nat} (hd : decode (mrow mt).2.2.1 pc = .ok (.iload j, 2)) (ha : aI mt pc lv st h (.iload j, 2, a, b, v, lab) = some r) (hgo : GoOn d o r) : WS d mt pc lv st h o := by
  obtain ⟨x, hx, ha⟩ := lI_some (show lI (ld lv j) _ = some r from ha)
  cases ha
  refine ⟨hgo.1, fun G p l e R s m args below meth c H locs ls k n hc hs Q C U L B K => ?_⟩
  exact lv_iload C.1 C.2.1 hd (lvAt L hx) (hgo.2 G p l e R s m args below meth c H locs ls k n hc hs Q C U L B K)
theorem w_iload_n {j : Fin 4} (hd : decode (mrow mt).2.2.1 pc = .ok (.iload_n j, 1)) (ha : aI mt pc lv st h (.iload_n j, 1, a, b, v, lab) = some r) (hgo : GoOn d o r) : WS d mt pc lv st h o := by
  obtain ⟨x, hx, ha⟩ := lI_some (show lI (ld lv j.val) _ = some r from ha)
  cases ha
  refine ⟨hgo.1, fun G p l e R s m args below meth c H locs ls k n hc hs Q C U L B K => ?_⟩
  exact lv_iload_n C.1 C.2.1 hd rfl (lvAt L hx) (hgo.2 G p l e R s m args below meth c H locs ls k n hc hs Q C U L B K)
theorem w_lload {j : Nat} (hd : decode (mrow mt).2.2.1 pc = .ok (.lload j, 2)) (ha : aI mt pc lv st h (.lload j, 2, a, b, v, lab) = some r) (hgo : GoOn d o r) : WS d mt pc lv st h o := by
  obtain ⟨x, hx, ha⟩ := lJ_some (show lJ (ld lv j) _ = some r from ha)
  cases ha
  refine ⟨hgo.1, fun G p l e R s m args below meth c H locs ls k n hc hs Q C U L B K => ?_⟩
  exact lv_lload C.1 C.2.1 hd (lvAt L hx) (hgo.2 G p l e R s m args below meth c H locs ls k n hc hs Q C U L B K)
theorem w_lload_n {j : Fin 4} (hd : decode (mrow mt).2.2.1 pc = .ok (.lload_n j, 1)) (ha : aI mt pc lv st h (.lload_n j, 1, a, b, v, lab) = some r) (hgo : GoOn d o r) : WS d mt pc lv st h o := by
  obtain ⟨x, hx, ha⟩ := lJ_some (show lJ (ld lv j.val) _ = some r from ha)
  cases ha
  refine ⟨hgo.1, fun G p l e R s m args below meth c H locs ls k n hc hs Q C U L B K => ?_⟩
  exact lv_lload_n C.1 C.2.1 hd rfl (lvAt L hx) (hgo.2 G p l e R s m args below meth c H locs ls k n hc hs Q C U L B K)
theorem w_aload {j : Nat} (hd : decode (mrow mt).2.2.1 pc = .ok (.aload j, 2)) (ha : aI mt pc lv st h (.aload j, 2, a, b, v, lab) = some r) (hgo : GoOn d o r) : WS d mt pc lv st h o := by
  rcases lR_some (show lR (ld lv j) (fun x => nx mt (pc + 2) lv (x :: st) h) = some r from ha) with ⟨x, hx, ha⟩ | ⟨hx, ha⟩
  · cases ha
    refine ⟨hgo.1, fun G p l e R s m args below meth c H locs ls k n hc hs Q C U L B K => ?_⟩
    exact lv_aload C.1 C.2.1 hd (lvAt L hx) (hgo.2 G p l e R s m args below meth c H locs ls k n hc hs Q C U L B K)
  · cases ha
    refine ⟨hgo.1, fun G p l e R s m args below meth c H locs ls k n hc hs Q C U L B K => ?_⟩
    exact lv_aloadN C.1 C.2.1 hd (lvAt L hx) (hgo.2 G p l e R s m args below meth c H locs ls k n hc hs Q C U L B K)
theorem w_aload_n {j : Fin 4} (hd : decode (mrow mt).2.2.1 pc = .ok (.aload_n j, 1)) (ha : aI mt pc lv st h (.aload_n j, 1, a, b, v, lab) = some r) (hgo : GoOn d o r) : WS d mt pc lv st h o := by
  rcases lR_some (show lR (ld lv j.val) (fun x => nx mt (pc + 1) lv (x :: st) h) = some r from ha) with ⟨x, hx, ha⟩ | ⟨hx, ha⟩
  · cases ha
    refine ⟨hgo.1, fun G p l e R s m args below meth c H locs ls k n hc hs Q C U L B K => ?_⟩
    exact lv_aload_n C.1 C.2.1 hd rfl (lvAt L hx) (hgo.2 G p l e R s m args below meth c H locs ls k n hc hs Q C U L B K)
  · cases ha
    refine ⟨hgo.1, fun G p l e R s m args below meth c H locs ls k n hc hs Q C U L B K => ?_⟩
    exact lv_aload_nN C.1 C.2.1 hd rfl (lvAt L hx) (hgo.2 G p l e R s m args below meth c H locs ls k n hc hs Q C U L B K)
theorem w_istore {j : Nat} (hd : decode (mrow mt).2.2.1 pc = .ok (.istore j, 2)) (hj : j < (mrow mt).2.2.2.1) (ha : aI mt pc lv st h (.istore j, 2, a, b, v, lab) = some r) (hgo : GoOn d o r) : WS d mt pc lv st h o := by
  obtain ⟨x, t, rfl, ha⟩ := pI_some (show pI st _ = some r from ha)
  cases ha
  refine ⟨hgo.1, fun G p l e R s m args below meth c H locs ls k n hc hs Q C U L B K => ?_⟩
  exact lv_istore C.1 C.2.1 hd L hj rfl (fun ls' hl' => hgo.2 G p l e R s m args below meth c H locs ls' k n hc hs Q C U (hs1 hl') B K)
theorem w_istore_n {j : Fin 4} (hd : decode (mrow mt).2.2.1 pc = .ok (.istore_n j, 1)) (hj : j.val < (mrow mt).2.2.2.1) (ha : aI mt pc lv st h (.istore_n j, 1, a, b, v, lab) = some r) (hgo : GoOn d o r) : WS d mt pc lv st h o := by
  obtain ⟨x, t, rfl, ha⟩ := pI_some (show pI st _ = some r from ha)
  cases ha
  refine ⟨hgo.1, fun G p l e R s m args below meth c H locs ls k n hc hs Q C U L B K => ?_⟩
  exact lv_istore_n C.1 C.2.1 hd rfl L hj rfl (fun ls' hl' => hgo.2 G p l e R s m args below meth c H locs ls' k n hc hs Q C U (hs1 hl') B K)
theorem w_lstore {j : Nat} (hd : decode (mrow mt).2.2.1 pc = .ok (.lstore j, 2)) (hj : j + 1 < (mrow mt).2.2.2.1) (ha : aI mt pc lv st h (.lstore j, 2, a, b, v, lab) = some r) (hgo : GoOn d o r) : WS d mt pc lv st h o := by
  obtain ⟨x, t, rfl, ha⟩ := pJ_some (show pJ st _ = some r from ha)
  cases ha
  refine ⟨hgo.1, fun G p l e R s m args below meth c H locs ls k n hc hs Q C U L B K => ?_⟩
  exact lv_lstore C.1 C.2.1 hd L hj rfl (fun ls' hl' => hgo.2 G p l e R s m args below meth c H locs ls' k n hc hs Q C U (hs2 hl') B K)
theorem w_lstore_n {j : Fin 4} (hd : decode (mrow mt).2.2.1 pc = .ok (.lstore_n j, 1)) (hj : j.val + 1 < (mrow mt).2.2.2.1) (ha : aI mt pc lv st h (.lstore_n j, 1, a, b, v, lab) = some r) (hgo : GoOn d o r) : WS d mt pc lv st h o := by
  obtain ⟨x, t, rfl, ha⟩ := pJ_some (show pJ st _ = some r from ha)
  cases ha
  refine ⟨hgo.1, fun G p l e R s m args below meth c H locs ls k n hc hs Q C U L B K => ?_⟩
  exact lv_lstore_n C.1 C.2.1 hd rfl L hj rfl (fun ls' hl' => hgo.2 G p l e R s m args below meth c H locs ls' k n hc hs Q C U (hs2 hl') B K)
theorem w_astore {j : Nat} (hd : decode (mrow mt).2.2.1 pc = .ok (.astore j, 2)) (hj : j < (mrow mt).2.2.2.1) (ha : aI mt pc lv st h (.astore j, 2, a, b, v, lab) = some r) (hgo : GoOn d o r) : WS d mt pc lv st h o := by
  obtain ⟨x, t, rfl, ha⟩ := pV_some (show pV st _ = some r from ha)
  obtain ⟨hx, ha⟩ := gT_some ha
  cases ha
  refine ⟨hgo.1, fun G p l e R s m args below meth c H locs ls k n hc hs Q C U L B K => ?_⟩
  cases x with
  | ref x => exact lv_astore C.1 C.2.1 hd L hj rfl (fun ls' hl' => hgo.2 G p l e R s m args below meth c H locs ls' k n hc hs Q C U (hs1 hl') B K)
  | null => exact lv_astoreN C.1 C.2.1 hd L hj rfl (fun ls' hl' => hgo.2 G p l e R s m args below meth c H locs ls' k n hc hs Q C U (hs1 hl') B K)
  | int x => cases hx
  | long x => cases hx
  | float x => cases hx
  | double x => cases hx
  | retAddr x => cases hx
theorem w_astore_n {j : Fin 4} (hd : decode (mrow mt).2.2.1 pc = .ok (.astore_n j, 1)) (hj : j.val < (mrow mt).2.2.2.1) (ha : aI mt pc lv st h (.astore_n j, 1, a, b, v, lab) = some r) (hgo : GoOn d o r) : WS d mt pc lv st h o := by
  obtain ⟨x, t, rfl, ha⟩ := pV_some (show pV st _ = some r from ha)
  obtain ⟨hx, ha⟩ := gT_some ha
  cases ha
  refine ⟨hgo.1, fun G p l e R s m args below meth c H locs ls k n hc hs Q C U L B K => ?_⟩
  cases x with
  | ref x => exact lv_astore_n C.1 C.2.1 hd rfl L hj rfl (fun ls' hl' => hgo.2 G p l e R s m args below meth c H locs ls' k n hc hs Q C U (hs1 hl') B K)
  | null => exact lv_astore_nN C.1 C.2.1 hd rfl L hj rfl (fun ls' hl' => hgo.2 G p l e R s m args below meth c H locs ls' k n hc hs Q C U (hs1 hl') B K)
  | int x => cases hx
  | long x => cases hx
  | float x => cases hx
  | double x => cases hx
  | retAddr x => cases hx
theorem w_iinc {j : Nat} {z : Int} (hd : decode (mrow mt).2.2.1 pc = .ok (.iinc j z, 3)) (hj : j < (mrow mt).2.2.2.1) (ha : aI mt pc lv st h (.iinc j z, 3, a, b, .int (Int32.ofInt z), lab) = some r) (hgo : GoOn d o r) : WS d mt pc lv st h o := by
  obtain ⟨x, hx, ha⟩ := lI_some (show lI (ld lv j) _ = some r from ha)
  cases ha
  refine ⟨hgo.1, fun G p l e R s m args below meth c H locs ls k n hc hs Q C U L B K => ?_⟩
  obtain ⟨i, hi⟩ := List.getElem?_of_mem (prs_ld (G := G) lv 0 j _ hx)
  rw [Nat.zero_add] at hi
  exact lv_iinc C.1 C.2.1 hd L hi rfl hj rfl (fun ls' hl' => hgo.2 G p l e R s m args below meth c H locs ls' k n hc hs Q C U (hs1 hl') B K)
theorem w_dup (hd : decode (mrow mt).2.2.1 pc = .ok (.dup, 1)) (ha : aI mt pc lv st h (.dup, 1, a, b, v, lab) = some r) (hgo : GoOn d o r) : WS d mt pc lv st h o := by
  obtain ⟨x, t, rfl, ha⟩ := pV_some (show pV st _ = some r from ha)
  obtain ⟨hx, ha⟩ := gT_some ha
  cases ha
  refine ⟨hgo.1, fun G p l e R s m args below meth c H locs ls k n hc hs Q C U L B K => ?_⟩
  exact lv_dup C.1 C.2.1 hd (by rw [cv_cat]; exact hx) (hgo.2 G p l e R s m args below meth c H locs ls k n hc hs Q C U L B K)
theorem w_pop (hd : decode (mrow mt).2.2.1 pc = .ok (.pop, 1)) (ha : aI mt pc lv st h (.pop, 1, a, b, v, lab) = some r) (hgo : GoOn d o r) : WS d mt pc lv st h o := by
  obtain ⟨x, t, rfl, ha⟩ := pV_some (show pV st _ = some r from ha)
  obtain ⟨hx, ha⟩ := gT_some ha
  cases ha
  refine ⟨hgo.1, fun G p l e R s m args below meth c H locs ls k n hc hs Q C U L B K => ?_⟩
  exact lv_pop C.1 C.2.1 hd (by rw [cv_cat]; exact hx) (hgo.2 G p l e R s m args below meth c H locs ls k n hc hs Q C U L B K)
theorem w_dup2 (hd : decode (mrow mt).2.2.1 pc = .ok (.dup2, 1)) (ha : aI mt pc lv st h (.dup2, 1, a, b, v, lab) = some r) (hgo : GoOn d o r) : WS d mt pc lv st h o := by
  obtain ⟨x, t, rfl, ha⟩ := pV_some (show pV st _ = some r from ha)
  obtain ⟨y, t, rfl, ha⟩ := pV_some ha
  obtain ⟨hx, ha⟩ := gT_some ha
  cases ha
  refine ⟨hgo.1, fun G p l e R s m args below meth c H locs ls k n hc hs Q C U L B K => ?_⟩
  exact lv_dup2_11 C.1 C.2.1 hd (by rw [cv_cat]; exact hx.1) (by rw [cv_cat]; exact hx.2) (hgo.2 G p l e R s m args below meth c H locs ls k n hc hs Q C U L B K)
theorem w_goto {z : Int} (hd : decode (mrow mt).2.2.1 pc = .ok (.goto z, 3)) (hj : (pc : Int) + z = (a : Int)) (ha : aI mt pc lv st h (.goto z, 3, a, b, v, lab) = some r) (hgo : GoOn d o r) : WS d mt pc lv st h o := by
  cases ha
  refine ⟨hgo.1, fun G p l e R s m args below meth c H locs ls k n hc hs Q C U L B K => ?_⟩
  exact lv_goto C.1 C.2.1 hd hj (hgo.2 G p l e R s m args below meth c H locs ls k n hc hs Q C U L B K)
theorem w_if_eq {z : Int} (hd : decode (mrow mt).2.2.1 pc = .ok (.ifCond .eq z, 3)) (hj : (pc : Int) + z = (a : Int)) (ha : aI mt pc lv st h (.ifCond .eq z, 3, a, b, v, lab) = some r) (hgo : GoOn d o r) : WS d mt pc lv st h o := by
  obtain ⟨x0, t0, rfl, ha⟩ := pI_some (show pI st _ = some r from ha)
  cases ha
  unfold GoOn at hgo
  dsimp only at hgo
  simp only [cmpB, decide_eq_true_eq] at hgo
  refine ⟨by split at hgo <;> exact hgo.1, fun G p l e R s m args below meth c H locs ls k n hc hs Q C U L B K => ?_⟩
  refine lv_if_eq C.1 C.2.1 hd hj (fun hq => ?_) (fun hq => ?_)
  · rw [if_pos hq] at hgo; exact (hgo.2 G p l e R s m args below meth c H locs ls k n hc hs Q C U L B K)
  · rw [if_neg hq] at hgo; exact (hgo.2 G p l e R s m args below meth c H locs ls k n hc hs Q C U L B K)
theorem w_icmp_eq {z : Int} (hd : decode (mrow mt).2.2.1 pc = .ok (.if_icmp .eq z, 3)) (hj : (pc : Int) + z = (a : Int)) (ha : aI mt pc lv st h (.if_icmp .eq z, 3, a, b, v, lab) = some r) (hgo : GoOn d o r) : WS d mt pc lv st h o := by
  obtain ⟨x0, t0, rfl, ha⟩ := pI_some (show pI st _ = some r from ha)
  obtain ⟨x1, t1, rfl, ha⟩ := pI_some ha
  cases ha
  unfold GoOn at hgo
  dsimp only at hgo
  simp only [cmpB, decide_eq_true_eq] at hgo
  refine ⟨by split at hgo <;> exact hgo.1, fun G p l e R s m args below meth c H locs ls k n hc hs Q C U L B K => ?_⟩
  refine lv_icmp_eq C.1 C.2.1 hd hj (fun hq => ?_) (fun hq => ?_)
  · rw [if_pos hq] at hgo; exact (hgo.2 G p l e R s m args below meth c H locs ls k n hc hs Q C U L B K)
  · rw [if_neg hq] at hgo; exact (hgo.2 G p l e R s m args below meth c H locs ls k n hc hs Q C U L B K)
theorem w_if_ne {z : Int} (hd : decode (mrow mt).2.2.1 pc = .ok (.ifCond .ne z, 3)) (hj : (pc : Int) + z = (a : Int)) (ha : aI mt pc lv st h (.ifCond .ne z, 3, a, b, v, lab) = some r) (hgo : GoOn d o r) : WS d mt pc lv st h o := by
  obtain ⟨x0, t0, rfl, ha⟩ := pI_some (show pI st _ = some r from ha)
  cases ha
  unfold GoOn at hgo
  dsimp only at hgo
  simp only [cmpB, decide_eq_true_eq] at hgo
  refine ⟨by split at hgo <;> exact hgo.1, fun G p l e R s m args below meth c H locs ls k n hc hs Q C U L B K => ?_⟩
  refine lv_if_ne C.1 C.2.1 hd hj (fun hq => ?_) (fun hq => ?_)
  · rw [if_pos hq] at hgo; exact (hgo.2 G p l e R s m args below meth c H locs ls k n hc hs Q C U L B K)
  · rw [if_neg (fun z => z hq)] at hgo; exact (hgo.2 G p l e R s m args below meth c H locs ls k n hc hs Q C U L B K)
theorem w_icmp_ne {z : Int} (hd : decode (mrow mt).2.2.1 pc = .ok (.if_icmp .ne z, 3)) (hj : (pc : Int) + z = (a : Int)) (ha : aI mt pc lv st h (.if_icmp .ne z, 3, a, b, v, lab) = some r) (hgo : GoOn d o r) : WS d mt pc lv st h o := by
  obtain ⟨x0, t0, rfl, ha⟩ := pI_some (show pI st _ = some r from ha)
  obtain ⟨x1, t1, rfl, ha⟩ := pI_some ha
  cases ha
  unfold GoOn at hgo
  dsimp only at hgo
  simp only [cmpB, decide_eq_true_eq] at hgo
  refine ⟨by split at hgo <;> exact hgo.1, fun G p l e R s m args below meth c H locs ls k n hc hs Q C U L B K => ?_⟩
  refine lv_icmp_ne C.1 C.2.1 hd hj (fun hq => ?_) (fun hq => ?_)
  · rw [if_pos hq] at hgo; exact (hgo.2 G p l e R s m args below meth c H locs ls k n hc hs Q C U L B K)
  · rw [if_neg (fun z => z hq)] at hgo; exact (hgo.2 G p l e R s m args below meth c H locs ls k n hc hs Q C U L B K)
theorem w_if_lt {z : Int} (hd : decode (mrow mt).2.2.1 pc = .ok (.ifCond .lt z, 3)) (hj : (pc : Int) + z = (a : Int)) (ha : aI mt pc lv st h (.ifCond .lt z, 3, a, b, v, lab) = some r) (hgo : GoOn d o r) : WS d mt pc lv st h o := by
  obtain ⟨x0, t0, rfl, ha⟩ := pI_some (show pI st _ = some r from ha)
  cases ha
  unfold GoOn at hgo
  dsimp only at hgo
  simp only [cmpB, decide_eq_true_eq] at hgo
  refine ⟨by split at hgo <;> exact hgo.1, fun G p l e R s m args below meth c H locs ls k n hc hs Q C U L B K => ?_⟩
  refine lv_if_lt C.1 C.2.1 hd hj (fun hq => ?_) (fun hq => ?_)
  · rw [if_pos hq] at hgo; exact (hgo.2 G p l e R s m args below meth c H locs ls k n hc hs Q C U L B K)
  · rw [if_neg hq] at hgo; exact (hgo.2 G p l e R s m args below meth c H locs ls k n hc hs Q C U L B K)
theorem w_icmp_lt {z : Int} (hd : decode (mrow mt).2.2.1 pc = .ok (.if_icmp .lt z, 3)) (hj : (pc : Int) + z = (a : Int)) (ha : aI mt pc lv st h (.if_icmp .lt z, 3, a, b, v, lab) = some r) (hgo : GoOn d o r) : WS d mt pc lv st h o := by
  obtain ⟨x0, t0, rfl, ha⟩ := pI_some (show pI st _ = some r from ha)
  obtain ⟨x1, t1, rfl, ha⟩ := pI_some ha
  cases ha
  unfold GoOn at hgo
  dsimp only at hgo
  simp only [cmpB, decide_eq_true_eq] at hgo
  refine ⟨by split at hgo <;> exact hgo.1, fun G p l e R s m args below meth c H locs ls k n hc hs Q C U L B K => ?_⟩
  refine lv_icmp_lt C.1 C.2.1 hd hj (fun hq => ?_) (fun hq => ?_)
  · rw [if_pos hq] at hgo; exact (hgo.2 G p l e R s m args below meth c H locs ls k n hc hs Q C U L B K)
  · rw [if_neg hq] at hgo; exact (hgo.2 G p l e R s m args below meth c H locs ls k n hc hs Q C U L B K)
theorem w_if_ge {z : Int} (hd : decode (mrow mt).2.2.1 pc = .ok (.ifCond .ge z, 3)) (hj : (pc : Int) + z = (a : Int)) (ha : aI mt pc lv st h (.ifCond .ge z, 3, a, b, v, lab) = some r) (hgo : GoOn d o r) : WS d mt pc lv st h o := by
  obtain ⟨x0, t0, rfl, ha⟩ := pI_some (show pI st _ = some r from ha)
  cases ha
  unfold GoOn at hgo
  dsimp only at hgo
  simp only [cmpB, decide_eq_true_eq] at hgo
  refine ⟨by split at hgo <;> exact hgo.1, fun G p l e R s m args below meth c H locs ls k n hc hs Q C U L B K => ?_⟩
  refine lv_if_ge C.1 C.2.1 hd hj (fun hq => ?_) (fun hq => ?_)
  · rw [if_pos hq] at hgo; exact (hgo.2 G p l e R s m args below meth c H locs ls k n hc hs Q C U L B K)
  · rw [if_neg hq] at hgo; exact (hgo.2 G p l e R s m args below meth c H locs ls k n hc hs Q C U L B K)
theorem w_icmp_ge {z : Int} (hd : decode (mrow mt).2.2.1 pc = .ok (.if_icmp .ge z, 3)) (hj : (pc : Int) + z = (a : Int)) (ha : aI mt pc lv st h (.if_icmp .ge z, 3, a, b, v, lab) = some r) (hgo : GoOn d o r) : WS d mt pc lv st h o := by
  obtain ⟨x0, t0, rfl, ha⟩ := pI_some (show pI st _ = some r from ha)
  obtain ⟨x1, t1, rfl, ha⟩ := pI_some ha
  cases ha
  unfold GoOn at hgo
  dsimp only at hgo
  simp only [cmpB, decide_eq_true_eq] at hgo
  refine ⟨by split at hgo <;> exact hgo.1, fun G p l e R s m args below meth c H locs ls k n hc hs Q C U L B K => ?_⟩
  refine lv_icmp_ge C.1 C.2.1 hd hj (fun hq => ?_) (fun hq => ?_)
  · rw [if_pos hq] at hgo; exact (hgo.2 G p l e R s m args below meth c H locs ls k n hc hs Q C U L B K)
  · rw [if_neg hq] at hgo; exact (hgo.2 G p l e R s m args below meth c H locs ls k n hc hs Q C U L B K)
theorem w_if_gt {z : Int} (hd : decode (mrow mt).2.2.1 pc = .ok (.ifCond .gt z, 3)) (hj : (pc : Int) + z = (a : Int)) (ha : aI mt pc lv st h (.ifCond .gt z, 3, a, b, v, lab) = some r) (hgo : GoOn d o r) : WS d mt pc lv st h o := by
  obtain ⟨x0, t0, rfl, ha⟩ := pI_some (show pI st _ = some r from ha)
  cases ha
  unfold GoOn at hgo
  dsimp only at hgo
  simp only [cmpB, decide_eq_true_eq] at hgo
  refine ⟨by split at hgo <;> exact hgo.1, fun G p l e R s m args below meth c H locs ls k n hc hs Q C U L B K => ?_⟩
  refine lv_if_gt C.1 C.2.1 hd hj (fun hq => ?_) (fun hq => ?_)
  · rw [if_pos hq] at hgo; exact (hgo.2 G p l e R s m args below meth c H locs ls k n hc hs Q C U L B K)
  · rw [if_neg hq] at hgo; exact (hgo.2 G p l e R s m args below meth c H locs ls k n hc hs Q C U L B K)
theorem w_icmp_gt {z : Int} (hd : decode (mrow mt).2.2.1 pc = .ok (.if_icmp .gt z, 3)) (hj : (pc : Int) + z = (a : Int)) (ha : aI mt pc lv st h (.if_icmp .gt z, 3, a, b, v, lab) = some r) (hgo : GoOn d o r) : WS d mt pc lv st h o := by
  obtain ⟨x0, t0, rfl, ha⟩ := pI_some (show pI st _ = some r from ha)
  obtain ⟨x1, t1, rfl, ha⟩ := pI_some ha
  cases ha
  unfold GoOn at hgo
  dsimp only at hgo
  simp only [cmpB, decide_eq_true_eq] at hgo
  refine ⟨by split at hgo <;> exact hgo.1, fun G p l e R s m args below meth c H locs ls k n hc hs Q C U L B K => ?_⟩
  refine lv_icmp_gt C.1 C.2.1 hd hj (fun hq => ?_) (fun hq => ?_)
  · rw [if_pos hq] at hgo; exact (hgo.2 G p l e R s m args below meth c H locs ls k n hc hs Q C U L B K)
  · rw [if_neg hq] at hgo; exact (hgo.2 G p l e R s m args below meth c H locs ls k n hc hs Q C U L B K)
theorem w_if_le {z : Int} (hd : decode (mrow mt).2.2.1 pc = .ok (.ifCond .le z, 3)) (hj : (pc : Int) + z = (a : Int)) (ha : aI mt pc lv st h (.ifCond .le z, 3, a, b, v, lab) = some r) (hgo : GoOn d o r) : WS d mt pc lv st h o := by
  obtain ⟨x0, t0, rfl, ha⟩ := pI_some (show pI st _ = some r from ha)
  cases ha
  unfold GoOn at hgo
  dsimp only at hgo
  simp only [cmpB, decide_eq_true_eq] at hgo
  refine ⟨by split at hgo <;> exact hgo.1, fun G p l e R s m args below meth c H locs ls k n hc hs Q C U L B K => ?_⟩
  refine lv_if_le C.1 C.2.1 hd hj (fun hq => ?_) (fun hq => ?_)
  · rw [if_pos hq] at hgo; exact (hgo.2 G p l e R s m args below meth c H locs ls k n hc hs Q C U L B K)
  · rw [if_neg hq] at hgo; exact (hgo.2 G p l e R s m args below meth c H locs ls k n hc hs Q C U L B K)
theorem w_icmp_le {z : Int} (hd : decode (mrow mt).2.2.1 pc = .ok (.if_icmp .le z, 3)) (hj : (pc : Int) + z = (a : Int)) (ha : aI mt pc lv st h (.if_icmp .le z, 3, a, b, v, lab) = some r) (hgo : GoOn d o r) : WS d mt pc lv st h o := by
  obtain ⟨x0, t0, rfl, ha⟩ := pI_some (show pI st _ = some r from ha)
  obtain ⟨x1, t1, rfl, ha⟩ := pI_some ha
  cases ha
  unfold GoOn at hgo
  dsimp only at hgo
  simp only [cmpB, decide_eq_true_eq] at hgo
  refine ⟨by split at hgo <;> exact hgo.1, fun G p l e R s m args below meth c H locs ls k n hc hs Q C U L B K => ?_⟩
  refine lv_icmp_le C.1 C.2.1 hd hj (fun hq => ?_) (fun hq => ?_)
  · rw [if_pos hq] at hgo; exact (hgo.2 G p l e R s m args below meth c H locs ls k n hc hs Q C U L B K)
  · rw [if_neg hq] at hgo; exact (hgo.2 G p l e R s m args below meth c H locs ls k n hc hs Q C U L B K)
theorem w_ifnull {z : Int} (hd : decode (mrow mt).2.2.1 pc = .ok (.ifnull z, 3)) (hj : (pc : Int) + z = (a : Int)) (ha : aI mt pc lv st h (.ifnull z, 3, a, b, v, lab) = some r) (hgo : GoOn d o r) : WS d mt pc lv st h o := by
  obtain ⟨x, t, rfl, ha⟩ := pV_some (show pV st _ = some r from ha)
  obtain ⟨hx, ha⟩ := gT_some ha
  cases ha
  refine ⟨hgo.1, fun G p l e R s m args below meth c H locs ls k n hc hs Q C U L B K => ?_⟩
  cases x with
  | ref x => exact lv_ifnull C.1 C.2.1 hd (hgo.2 G p l e R s m args below meth c H locs ls k n hc hs Q C U L B K)
  | null => exact lv_ifnullN C.1 C.2.1 hd hj (hgo.2 G p l e R s m args below meth c H locs ls k n hc hs Q C U L B K)
  | int x => cases hx
  | long x => cases hx
  | float x => cases hx
  | double x => cases hx
  | retAddr x => cases hx
theorem w_ifnonnull {z : Int} (hd : decode (mrow mt).2.2.1 pc = .ok (.ifnonnull z, 3)) (hj : (pc : Int) + z = (a : Int)) (ha : aI mt pc lv st h (.ifnonnull z, 3, a, b, v, lab) = some r) (hgo : GoOn d o r) : WS d mt pc lv st h o := by
  obtain ⟨x, t, rfl, ha⟩ := pV_some (show pV st _ = some r from ha)
  obtain ⟨hx, ha⟩ := gT_some ha
  cases ha
  refine ⟨hgo.1, fun G p l e R s m args below meth c H locs ls k n hc hs Q C U L B K => ?_⟩
  cases x with
  | ref x => exact lv_ifnonnull C.1 C.2.1 hd hj (hgo.2 G p l e R s m args below meth c H locs ls k n hc hs Q C U L B K)
  | null => exact lv_ifnonnullN C.1 C.2.1 hd (hgo.2 G p l e R s m args below meth c H locs ls k n hc hs Q C U L B K)
  | int x => cases hx
  | long x => cases hx
  | float x => cases hx
  | double x => cases hx
  | retAddr x => cases hx
theorem w_return_ (hd : decode (mrow mt).2.2.1 pc = .ok (.return_, 1)) (hr : (mrow mt).2.2.2.2.1 = none) (ha : aI mt pc lv st h (.return_, 1, a, b, v, lab) = some r) (hgo : GoOn d o r) : WS d mt pc lv st h o := by
  simp only [aI] at ha
  split at ha
  · cases ha
    have hgo : (none, h) = o := hgo
    subst hgo
    refine ⟨⟨Nat.le_refl _, Nat.le_refl _⟩, fun G p l e R s m args below meth c H locs ls k n hc hs Q C U L B K => ?_⟩
    have := K pc .return_ ls H locs hd hr U.1 U.2.1 U.2.2.2.1 U.2.2.1
    rw [show h.1 - hc = k by have := U.2.2.2.2.1; omega, show h.2.1 - hs = n by have := U.2.2.2.2.2.1; omega] at this
    exact this
  · cases ha
theorem w_lreturn (hd : decode (mrow mt).2.2.1 pc = .ok (.lreturn, 1)) (hr : (mrow mt).2.2.2.2.1 = some .long) (ha : aI mt pc lv st h (.lreturn, 1, a, b, v, lab) = some r) (hgo : GoOn d o r) : WS d mt pc lv st h o := by
  simp only [aI] at ha
  split at ha
  · cases ha
    rename_i x
    have hgo : (some (.long x), h) = o := hgo
    subst hgo
    refine ⟨⟨Nat.le_refl _, Nat.le_refl _⟩, fun G p l e R s m args below meth c H locs ls k n hc hs Q C U L B K => ?_⟩
    have := K pc .lreturn ls H locs hd hr U.1 U.2.1 U.2.2.2.1 U.2.2.1
    rw [show h.1 - hc = k by have := U.2.2.2.2.1; omega, show h.2.1 - hs = n by have := U.2.2.2.2.2.1; omega] at this
    exact this
  · cases ha
theorem w_areturn (hd : decode (mrow mt).2.2.1 pc = .ok (.areturn, 1)) (hr : (∃ n, (mrow mt).2.2.2.2.1 = some (.object n)) ∨ ∃ t, (mrow mt).2.2.2.2.1 = some (.array t)) (ha : aI mt pc lv st h (.areturn, 1, a, b, v, lab) = some r) (hgo : GoOn d o r) : WS d mt pc lv st h o := by
  simp only [aI] at ha
  split at ha
  · obtain ⟨hx, ha⟩ := gT_some ha
    cases ha
    rename_i _ x
    have hgo : (some x, h) = o := hgo
    subst hgo
    refine ⟨⟨Nat.le_refl _, Nat.le_refl _⟩, fun G p l e R s m args below meth c H locs ls k n hc hs Q C U L B K => ?_⟩
    have := K pc .areturn ls H locs hd ⟨hx, hr⟩ U.1 U.2.1 U.2.2.2.1 U.2.2.1
    rw [show h.1 - hc = k by have := U.2.2.2.2.1; omega, show h.2.1 - hs = n by have := U.2.2.2.2.2.1; omega] at this
    exact this
  · cases ha
theorem w_ireturn (hd : decode (mrow mt).2.2.1 pc = .ok (.ireturn, 1)) (hr : (a = 0 ∧ (mrow mt).2.2.2.2.1 = some .int) ∨ (a = 1 ∧ (mrow mt).2.2.2.2.1 = some .boolean) ∨ (a = 2 ∧ (mrow mt).2.2.2.2.1 = some .byte)) (ha : aI mt pc lv st h (.ireturn, 1, a, b, v, lab) = some r) (hgo : GoOn d o r) : WS d mt pc lv st h o := by
  simp only [aI] at ha
  split at ha
  · obtain ⟨hx, ha⟩ := gT_some ha
    cases ha
    rename_i _ x
    have hgo : (some (.int x), h) = o := hgo
    subst hgo
    refine ⟨⟨Nat.le_refl _, Nat.le_refl _⟩, fun G p l e R s m args below meth c H locs ls k n hc hs Q C U L B K => ?_⟩
    have hr2 : okRet .ireturn (mrow mt).2.2.2.2.1 (some (.int x)) := by
      rcases hr with ⟨_, h2⟩ | ⟨h1, h2⟩ | ⟨h1, h2⟩
      · exact Or.inl h2
      · exact Or.inr (Or.inl ⟨h2, hx.1 h1⟩)
      · exact Or.inr (Or.inr ⟨h2, hx.2 h1⟩)
    have := K pc .ireturn ls H locs hd hr2 U.1 U.2.1 U.2.2.2.1 U.2.2.1
    rw [show h.1 - hc = k by have := U.2.2.2.2.1; omega, show h.2.1 - hs = n by have := U.2.2.2.2.2.1; omega] at this
    exact this
  · cases ha
end WI
