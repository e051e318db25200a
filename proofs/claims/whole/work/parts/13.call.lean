/-! CALLS -/
theorem okR_f {r : MR} (h : okR r = true) : ownN r.1 = r.2.1.cls ∧ Cond.initialized r.2.1.cls ∈ TBg ∧ plainFor r.2.1 = true ∧ (r.2.1.cls ≠ "java/lang/invoke/MethodHandle" ∧ r.2.1.cls ≠ "java/lang/invoke/VarHandle") ∧ r.2.2.2.1 ≤ 60 ∧
    ((r.2.2.2.2.2.2.1 = true ∧ Cond.static r.2.1 ∈ TBg ∧ (parseMethodDescriptor r.2.1.desc).map (fun d => d.parameters.length) = some r.2.2.2.2.2.1) ∨
     (r.2.2.2.2.2.2.1 = false ∧ Cond.instanceMethod r.2.1 ∈ TBg ∧ (parseMethodDescriptor r.2.1.desc).map (fun d => d.parameters.length) = some (r.2.2.2.2.2.1 - 1) ∧ 1 ≤ r.2.2.2.2.2.1 ∧ (r.2.1.name = "<init>" ∨ Cond.selects r.2.1.cls r.2.1 r.2.1 ∈ TBg))) := by
  obtain ⟨o, y, cc, mx, rt, np, st, pc, pk, ps, pn⟩ := r
  unfold okR at h
  dsimp only at h ⊢
  rw [Bool.and_eq_true, Bool.and_eq_true, Bool.and_eq_true, Bool.and_eq_true, Bool.and_eq_true, decide_eq_true_eq, decide_eq_true_eq, decide_eq_true_eq] at h
  obtain ⟨h1, h2, h3, h4, h5, h6⟩ := h
  refine ⟨h1, atW_good h2 rfl, h3, h4, h5, ?_⟩
  cases st with
  | true =>
    rw [if_pos rfl, Bool.and_eq_true, decide_eq_true_eq] at h6
    exact Or.inl ⟨rfl, atW_good h6.1 rfl, h6.2⟩
  | false =>
    rw [if_neg (by decide), Bool.and_eq_true, Bool.and_eq_true, Bool.and_eq_true, decide_eq_true_eq, decide_eq_true_eq, Bool.or_eq_true, decide_eq_true_eq] at h6
    exact Or.inr ⟨rfl, atW_good h6.1 rfl, h6.2.1, h6.2.2.1, h6.2.2.2.imp id (fun z => atW_good z rfl)⟩
theorem cd_in {L : List MR} {f : MR → Nat} (h : L.map wC = (L.map f).filterMap (fun i => lw_tbl[i]?)) {r : MR} (hr : r ∈ L) : wC r ∈ lw_tbl := by
  have h1 : wC r ∈ L.map wC := List.mem_map_of_mem hr
  rw [h] at h1
  obtain ⟨i, -, hi⟩ := List.mem_filterMap.mp h1
  exact List.mem_of_getElem? hi
set_option maxRecDepth 100000 in
theorem MT_take : MT.take 310 = MT0 ++ (MT1 ++ (MT2 ++ (MT3 ++ (MT4 ++ (MT5 ++ (MT6 ++ MT7.dropLast)))))) := rfl
set_option maxRecDepth 100000 in
theorem MT_len : MT.length = 311 := rfl
theorem mt_ok {y : Nat} (hy : y < 310) : okR (mrow y) = true ∧ wC (mrow y) ∈ TBg := by
  have hl := MT_len
  have h1 : (MT.take 310)[y]? = some (mrow y) := by
    unfold mrow
    rw [List.getElem?_take_of_lt hy, List.getElem?_eq_getElem (by omega), List.getD_eq_getElem?_getD, List.getElem?_eq_getElem (by omega)]
    rfl
  have h2 := List.mem_of_getElem? h1
  rw [MT_take] at h2
  simp only [List.mem_append] at h2
  have key : okR (mrow y) = true ∧ wC (mrow y) ∈ lw_tbl := by
    rcases h2 with h | h | h | h | h | h | h | h
    · exact ⟨List.all_eq_true.mp MT0_ok _ h, cd_in MT0_cd h⟩
    · exact ⟨List.all_eq_true.mp MT1_ok _ h, cd_in MT1_cd h⟩
    · exact ⟨List.all_eq_true.mp MT2_ok _ h, cd_in MT2_cd h⟩
    · exact ⟨List.all_eq_true.mp MT3_ok _ h, cd_in MT3_cd h⟩
    · exact ⟨List.all_eq_true.mp MT4_ok _ h, cd_in MT4_cd h⟩
    · exact ⟨List.all_eq_true.mp MT5_ok _ h, cd_in MT5_cd h⟩
    · exact ⟨List.all_eq_true.mp MT6_ok _ h, cd_in MT6_cd h⟩
    · exact ⟨List.all_eq_true.mp MT7_ok _ h, cd_in MT7_cd h⟩
  exact ⟨key.1, List.mem_filter.mpr ⟨key.2, rfl⟩⟩
theorem init_none : (MT.all fun r => !decide (r.2.1.name = "<init>") || decide (r.2.2.2.2.1 = none)) = true := by decide +kernel
theorem init_ret {y : Nat} (hy : y < 310) (h : (mrow y).2.1.name = "<init>") : (mrow y).2.2.2.2.1 = none := by
  have hl := MT_len
  have hm : mrow y ∈ MT := by
    unfold mrow
    rw [List.getD_eq_getElem?_getD, List.getElem?_eq_getElem (by omega)]
    exact List.getElem_mem _
  have := List.all_eq_true.mp init_none _ hm
  simpa [h] using this
theorem ML_sp : ML.all (fun q => decide (q.2.2.1 < 9000) || decide (q.2.2.2.2 = "")) = true := by decide +kernel
theorem ML_at0 {o ix a : Nat} (h : inM o ix a = true) (h9 : 9000 ≤ a) : Cond.methodLink (ownN o) ix (mnam a) ∈ TBg := by
  obtain ⟨q, hq, hb⟩ := List.any_eq_true.mp h
  simp only [Bool.and_eq_true, beq_iff_eq] at hb
  obtain ⟨rfl, rfl, rfl⟩ := hb
  have h1 := List.all_eq_true.mp ML_ok q hq
  have h2 := List.all_eq_true.mp ML_sp q hq
  obtain ⟨o, ix, y, pl, host⟩ := q
  simp only [Bool.or_eq_true, decide_eq_true_eq] at h2
  have h2 : host = "" := h2.resolve_left (by dsimp only at h9 ⊢; omega)
  unfold wM at h1
  dsimp only at h1 ⊢
  rw [if_pos h2] at h1
  exact atW_good h1 rfl
theorem ML_at {o ix a : Nat} (h : inM o ix a = true) : Cond.methodLink (ownN o) ix (mnam a) ∈ TBg ∨ ∃ host, Cond.methodLinkNest (ownN o) ix (mnam a) host ∈ NWL := by
  obtain ⟨q, hq, hb⟩ := List.any_eq_true.mp h
  simp only [Bool.and_eq_true, beq_iff_eq] at hb
  obtain ⟨rfl, rfl, rfl⟩ := hb
  have h1 := List.all_eq_true.mp ML_ok q hq
  obtain ⟨o, ix, y, pl, host⟩ := q
  unfold wM at h1
  dsimp only at h1 ⊢
  split at h1
  · exact Or.inl (atW_good h1 rfl)
  · exact Or.inr ⟨host, atW_nw h1 rfl⟩
theorem mnam_lt {a : Nat} (h : a < 310) : mnam a = (mrow a).2.1 := by
  unfold mnam
  rw [if_neg (by omega), if_neg (by omega), if_neg (by omega), if_neg (by omega)]
theorem NW_warm {s U : State} (hW : s.WarmedH U.vm) {w : Cond} (hw : w ∈ NWL) (h : va_Nw w s) : va_Nw w U := by
  have h1 := (List.mem_filter.mp hw).2
  unfold isNW at h1
  split at h1
  · exact va_Nw.warmF hW h
  · exact va_Nw.warmM hW h
  · exact va_Nw.warmC hW h
  · exact va_AO.moved hW.alike h
  · cases h1
theorem NW_same {s U : State} (hv : U.vm = s.vm) {w : Cond} (hw : w ∈ NWL) (h : va_Nw w s) : va_Nw w U := by
  have h1 := (List.mem_filter.mp hw).2
  unfold isNW at h1
  split at h1
  · exact va_Nw.same rfl hv.symm h
  · exact va_Nw.same rfl hv.symm h
  · exact va_Nw.same rfl hv.symm h
  · exact va_AO.moved (by rw [hv]; exact Vm.Alike.refl _) h
  · cases h1
theorem PcA_blind (G : GG) (h : AH) (as : List Value) : FrameBlind (PcA G h as) := by
  intro a U g mk ⟨h0, h1, h2, h3, h4, h5, h6, h7, h8, h9⟩
  have hvm : (U.calling g mk a).vm = U.vm := rfl
  have hal : U.vm.Alike (U.calling g mk a).vm := by rw [hvm]; exact Vm.Alike.refl _
  exact ⟨h0, h1, h2, h3.moved hal, h4.moved hal, fun q hq => (h5 q hq).same hvm, h6.moved hal, h7, h8, fun w hw => NW_same hvm hw (h9 w hw)⟩
theorem popN_spec : ∀ (n : Nat) (st acc : List Value) (q : List Value × List Value), popN n st acc = some q → ∃ l, st = l ++ q.2 ∧ l.length = n ∧ q.1 = l.reverse ++ acc
  | 0, st, acc, q, h => by cases h; exact ⟨[], rfl, rfl, rfl⟩
  | n + 1, [], acc, q, h => by cases h
  | n + 1, v :: st, acc, q, h => by
    obtain ⟨l, h1, h2, h3⟩ := popN_spec n st (v :: acc) q h
    exact ⟨v :: l, by rw [h1]; rfl, by simp [h2], by rw [h3]; simp⟩
theorem cat_sum (l : List Value) : (l.map fun v => v.category).sum ≤ 2 * l.length := by
  induction l with
  | nil => simp
  | cons v t ih =>
    have : v.category ≤ 2 := by cases v <;> simp [Value.category]
    simp only [List.map_cons, List.sum_cons, List.length_cons]
    omega
section CALL
variable {G : GG} {mt d' : Nat} {p : Program} {l : Launch} {e : Env} {R : Room} {s : State} {m : MethodId} {args : Array Value} {below : List Frame} {meth : Method} {c : Code}
theorem back_A {d : Nat} {r0 : MR} {E : Prop} (C : CtxR G r0 E d p l R s m args meth c) (hd : d = d' + 1) {y : Nat} (hy : y < 310) {as : List Value} {h : AH} {o1 : OU} (hM : MetA d' y as h o1) : Back l R p e below s args (mrow y).2.1 3 24 (PreOf R (o1.2.1 - h.1) (o1.2.2.1 - h.2.1) (PcA G h as)) (PostOf (QcA G o1) (o1.2.1 - h.1) (o1.2.2.1 - h.2.1) (regA G)) := by
  obtain ⟨hok, hcode⟩ := mt_ok hy
  obtain ⟨-, hini, -, -, hmx, -⟩ := okR_f hok
  have hfr := C.2.2.2.2.2.2.2.2.2.2.2.2.1
  have hlo := C.2.2.2.2.2.2.2.2.2.2.2.2.2.1
  have hT := C.2.2.2.2.2.2.1
  have hg : ∀ w ∈ TBg, ∀ a' U, s.WarmedH U.vm → w.before a' U = true := fun w hw a' U hW => word_at hW (good_of_word (List.mem_filter.mp hw).2) (hT w hw)
  refine back_of (bytes := (mrow y).2.2.1) (maxL := (mrow y).2.2.2.1) (ret := (mrow y).2.2.2.2.1) (hM l G C.2.2.2.2.2.2.2.2.1) (PcA_blind G h as) rfl rfl (by show d' + 1 + 1 ≤ _; omega) (by show 24 + (_ + 11) + (120 * d' + 100) ≤ _; omega) ?_ List.mem_cons_self (fun a' U hW => hg _ hini a' U hW)
  intro w hw
  rcases List.mem_cons.mp hw with rfl | hw
  · exact hg _ hcode
  · exact hg w hw
theorem StOk_of {d : Nat} {r0 : MR} {E : Prop} {h : AH} {H : Heap} {locs : List Loc} {k n hc hs : Nat} (C : CtxR G r0 E d p l R s m args meth c) (U : Cur G h s H locs k n hc hs) (hz : H.size = G.1 + h.1) {V : State} (hV : V.heap = H) (hW : s.WarmedH V.vm) : StOk G h V := by
  have hX := C.2.2.2.2.2.2.2.2.2.2.2.2.2.2.1
  have hg := C.2.2.2.2.2.2.2.2.2.2.2.2.2.2.2.1
  refine ⟨by rw [hV]; exact U.1, by rw [hV]; exact hz, C.2.2.2.2.2.2.2.2.2.1.moved hW.alike, ?_, fun q hq => (C.2.2.2.2.2.2.2.2.2.2.1 q hq).warm hW, ?_, U.2.2.2.1, U.2.2.1, fun w hw => NW_warm hW hw (C.2.2.2.2.2.2.2.1 w hw)⟩
  · rw [hV]; exact (hX.moved hW.alike).kept hg U.2.1.2.1
  · rw [show ZS G V V.heap = ZS G V H by rw [hV]]
    exact ZS.kept (ZS.moved hW.alike C.2.2.2.2.2.2.2.2.2.2.2.1) U.2.1.2.1
def CallRes (G : GG) (p : Program) (l : Launch) (e : Env) (R : Room) (s : State) (m : MethodId) (args : Array Value) (below : List Frame) (meth : Method) (c : Code) (T : State) (locs : List Loc) (cells slots : Nat) (as : List Value) (h : AH) (o1 : OU) (g : JFrame) (rest : List Value) : Prop :=
  ∃ (v : Option Value) (vm₁ : Vm) (B : Pt), s.WarmedH vm₁ ∧ Stand p l e R s m args below meth c B.U B.locs B.cells B.slots ∧ PostOf (QcA G o1) (o1.2.1 - h.1) (o1.2.2.1 - h.2.1) (regA G) ⟨T.setVm vm₁, locs, cells, slots⟩ (as.map (cv G)).toArray v B ∧
      ∀ target, Steps p.tables e below (B.U.setTop { g with pc := g.pc + 3, stack := v.toList ++ rest }) target → Steps p.tables e below (T.setTop g) target
theorem W_res {h : AH} {H : Heap} {locs : List Loc} {k n hc hs pc : Nat} {Q : State → Prop} {as st : List Value} {o1 : OU} {ls : Array Slot} {rest : List Value} (U : Cur G h s H locs k n hc hs) (hle : h.1 ≤ o1.2.1 ∧ h.2.1 ≤ o1.2.2.1)
    (hr : ∀ T : State, T.heap = H → Stand p l e R s m args below meth c T locs k n → CallRes G p l e R s m args below meth c T locs k n as h o1 (F0 m pc ls st) rest)
    (kk : ∀ (H1 : Heap) (locs1 : List Loc), Cur G o1.2 s H1 locs1 (k + (o1.2.1 - h.1)) (n + (o1.2.2.1 - h.2.1)) hc hs → W p l e R s m args below meth c H1 locs1 (k + (o1.2.1 - h.1)) (n + (o1.2.2.1 - h.2.1)) Q (F0 m (pc + 3) ls ((o1.1.map (cv G)).toList ++ rest))) : W p l e R s m args below meth c H locs k n Q (F0 m pc ls st) := by
  intro T hT X
  obtain ⟨v, vm₁, B, hW, X', ⟨g, mk, t, L, e1, e2, ⟨q1, q2, q3, q4, q5⟩, e3, hL, e4, e5⟩, hst⟩ := hr T hT X
  cases q1
  have hF1 : H.size ≤ t.heap.size := by rw [← hT]; exact q3.1
  have hF2 : ∀ q : Nat, q < H.size → ¬ regA G q → t.heap[q]? = H[q]? := by
    intro q h1 h2
    rw [← hT] at h1 ⊢
    exact q3.2 q h1 h2
  have hS := U.2.1
  have hS1 : va_S (regA G) s.heap t.heap (locs ++ L) := by
    refine ⟨Nat.le_trans hS.1 hF1, fun q h1 h2 => by rw [hF2 q (Nat.lt_of_lt_of_le h1 hS.1) h2]; exact hS.2.1 q h1 h2, fun q hq => ?_⟩
    rcases List.mem_append.mp hq with h | h
    · exact hS.2.2 q h
    · exact hL q h
  have hu1 := U.2.2.2.2.1
  have hu2 := U.2.2.2.2.2.1
  dsimp only [Pt.U, Pt.locs, Pt.cells, Pt.slots] at e3 e4 e5 X'
  rw [e3, e4, e5] at X'
  obtain ⟨t2, a1, b1⟩ := kk t.heap (locs ++ L) ⟨q2, hS1, q5, q4, by omega, by omega, U.2.2.2.2.2.2⟩ B.U e1 X'
  exact ⟨t2, hst t2 a1, b1⟩
end CALL
section WC
variable {d mt pc a b : Nat} {lv : LV} {st : List Value} {h : AH} {v : Value} {lab : Option (List Bool)} {o : OU} {r : AT}
theorem psh_map (G : GG) (o : OU) (st : List Value) : (psh o st).map (cv G) = (o.1.map (cv G)).toList ++ st.map (cv G) := by
  unfold psh
  cases o.1 <;> rfl
theorem W_call {G : GG} {p : Program} {l : Launch} {e : Env} {R : Room} {s : State} {m : MethodId} {args : Array Value} {below : List Frame} {meth : Method} {c : Code} {H : Heap} {locs : List Loc} {ls : Array Slot} {k n hc hs : Nat} {Q : State → Prop} {as rest : List Value} {o1 : OU}
    (C : Ctx G mt d p l R s m args meth c) (U : Cur G h s H locs k n hc hs) (L : lv_has ls (mrow mt).2.2.2.1 (prs G 0 lv)) (B : Bud R hc hs o) (K : RetK G mt p l e R s m args below meth c hc hs Q o) (hle : h.1 ≤ o1.2.1 ∧ h.2.1 ≤ o1.2.2.1) (hgo : WS d mt (pc + 3) lv (psh o1 rest) o1.2 o)
    (hr : H.size = G.1 + h.1 → k + (o1.2.1 - h.1) ≤ R.cells → n + (o1.2.2.1 - h.2.1) ≤ R.slots → ∀ T : State, T.heap = H → Stand p l e R s m args below meth c T locs k n → CallRes G p l e R s m args below meth c T locs k n as h o1 (F0 m pc ls (st.map (cv G))) (rest.map (cv G))) :
    W p l e R s m args below meth c H locs k n Q (F0 m pc ls (st.map (cv G))) := by
  refine W_sz fun hz => ?_
  have hu1 := U.2.2.2.2.1
  have hu2 := U.2.2.2.2.2.1
  have hu3 := U.2.2.2.2.2.2
  have hge := sz_ge U
  have hb1 := B.1
  have hb2 := B.2
  have hg1 := hgo.1
  refine W_res U hle (hr (by omega) (by omega) (by omega)) (fun H1 locs1 U1 => ?_)
  have := hgo.2 G p l e R s m args below meth c H1 locs1 ls _ _ hc hs Q C U1 L B K
  rw [psh_map] at this
  exact this
theorem pre_A {G : GG} {p : Program} {l : Launch} {R : Room} {s : State} {m : MethodId} {args : Array Value} {meth : Method} {c : Code} {H : Heap} {locs : List Loc} {k n hc hs mc ms : Nat} {as : List Value} {T : State}
    {r0 : MR} {E : Prop} (C : CtxR G r0 E d p l R s m args meth c) (U : Cur G h s H locs k n hc hs) (hz : H.size = G.1 + h.1) (hT : T.heap = H) (h1 : k + mc ≤ R.cells) (h2 : n + ms ≤ R.slots) : ∀ vm₁, s.WarmedH vm₁ → PreOf R mc ms (PcA G h as) ⟨T.setVm vm₁, locs, k, n⟩ (as.map (cv G)).toArray :=
  fun vm₁ hW => ⟨h1, h2, rfl, StOk_of C U hz (V := T.setVm vm₁) hT hW⟩
theorem hlen_A {y n : Nat} (h : (parseMethodDescriptor (mrow y).2.1.desc).map (fun d => d.parameters.length) = some n) {as : List Value} (G : GG) (ha : as.length = n) : ∀ sig, parseMethodDescriptor (mrow y).2.1.desc = some sig → (as.map (cv G)).length = sig.parameters.length := by
  intro sig hs
  rw [hs] at h
  rw [List.length_map, ha]
  exact (Option.some.inj h).symm
theorem st_map (G : GG) {l rest : List Value} : (l ++ rest).map (cv G) = (l.reverse.map (cv G)).reverse ++ rest.map (cv G) := by simp
theorem hW_A (G : GG) {m : MethodId} {pc : Nat} {ls : Array Slot} {st rest : List Value} (h : rest.length ≤ 12) : 2 * (F0 m pc ls st).monitorRoom + ((rest.map (cv G)).map fun v => v.category).sum ≤ 24 := by
  have h1 := cat_sum (rest.map (cv G))
  rw [List.length_map] at h1
  have h2 : (F0 m pc ls st).monitorRoom = 0 := rfl
  omega
theorem w_invokestatic {j : Nat} (hd : decode (mrow mt).2.2.1 pc = .ok (.invokestatic j, 3)) (hm : inM (mrow mt).1 j a = true) (hy : a < 310) (hb : b = (mrow a).2.2.2.2.2.1) (hst : (mrow a).2.2.2.2.2.2.1 = true) (ha : aI mt pc lv st h (.invokestatic j, 3, a, b, v, lab) = some r) (hgo : GoOn d o r) : WS d mt pc lv st h o := by
  have ha : callA mt (pc + 3) a b lv st h (fun _ => true) = some r := by
    have : aI mt pc lv st h (.invokestatic j, 3, a, b, v, lab) = callA mt (pc + 3) a b lv st h (fun _ => true) := by
      show (if a = 9001 then _ else if a = 9002 then _ else _) = _
      rw [if_neg (by omega), if_neg (by omega)]
    rw [← this]; exact ha
  obtain ⟨q, hq, ha⟩ := ob_some ha
  obtain ⟨⟨-, hq2, hq3⟩, ha⟩ := gT_some ha
  cases ha
  obtain ⟨d', o1, hdd, hM, hgo⟩ := hgo
  obtain ⟨hM, hle⟩ := hM hy hq3
  obtain ⟨l0, rfl, hl0, hq1⟩ := popN_spec _ _ _ _ hq
  rw [List.append_nil] at hq1
  obtain ⟨hok, hcode⟩ := mt_ok hy
  obtain ⟨hcls, hini, hpl, hne, hmx, hkind⟩ := okR_f hok
  rcases hkind with ⟨-, hstat, hpar⟩ | ⟨hf, -⟩
  · refine ⟨⟨Nat.le_trans hle.1 hgo.1.1, Nat.le_trans hle.2 hgo.1.2⟩, fun G p l e R s m args below meth c H locs ls k n hc hs Q C U L B K => ?_⟩
    refine W_call (as := q.1) C U L B K hle hgo (fun hz hB1 hB2 T hT X => ?_)
    have hK := back_A (e := e) (below := below) C hdd hy hM
    rw [hq1] at hK ⊢
    have hT0 := C.2.2.2.2.2.2.1
    have hlen := hlen_A hpar G (as := l0.reverse) (by rw [List.length_reverse, hl0, hb])
    have hsz : (F0 m pc ls ((l0 ++ q.2).map (cv G))).locals.size = c.maxLocals := L.1.trans C.2.2.1.symm
    rcases ML_at hm with hml | ⟨host, hml⟩
    · rw [mnam_lt hy] at hml
      exact callS X C.1 C.2.2.2.1 (hT0 _ hml) (hT0 _ hstat) (hT0 _ hini) (hT0 _ hcode) hne hK rfl hsz hlen (st_map G) (hW_A G hq2) (by rw [C.2.1]; exact hd) (pre_A C U hz hT hB1 hB2)
    · rw [mnam_lt hy] at hml
      exact va_callSN X C.1 C.2.2.2.1 (va_Nw.use rfl (C.2.2.2.2.2.2.2.1 _ hml)) (hT0 _ hstat) (hT0 _ hini) (hT0 _ hcode) hne hK rfl hsz hlen (st_map G) (hW_A G hq2) (by rw [C.2.1]; exact hd) (pre_A C U hz hT hB1 hB2)
  · rw [hst] at hf; cases hf
theorem w_invokespecial {j : Nat} (hd : decode (mrow mt).2.2.1 pc = .ok (.invokespecial j, 3)) (hm : inM (mrow mt).1 j a = true) (hy : a < 310) (hb : b = (mrow a).2.2.2.2.2.1) (hst : (mrow a).2.2.2.2.2.2.1 = false) (hnm : (mrow a).2.1.name = "<init>") (ha : aI mt pc lv st h (.invokespecial j, 3, a, b, v, lab) = some r) (hgo : GoOn d o r) : WS d mt pc lv st h o := by
  have ha : callA mt (pc + 3) a b lv st h isRf = some r := by
    have : aI mt pc lv st h (.invokespecial j, 3, a, b, v, lab) = callA mt (pc + 3) a b lv st h isRf := by
      show (if a = 9000 then _ else _) = _
      rw [if_neg (by omega)]
    rw [← this]; exact ha
  obtain ⟨q, hq, ha⟩ := ob_some ha
  obtain ⟨⟨hrf, hq2, hq3⟩, ha⟩ := gT_some ha
  cases ha
  obtain ⟨d', o1, hdd, hM, hgo⟩ := hgo
  obtain ⟨hM, hle⟩ := hM hy hq3
  obtain ⟨l0, rfl, hl0, hq1⟩ := popN_spec _ _ _ _ hq
  rw [List.append_nil] at hq1
  obtain ⟨hok, hcode⟩ := mt_ok hy
  obtain ⟨hcls, hini, hpl, hne, hmx, hkind⟩ := okR_f hok
  rcases hkind with ⟨hf, -⟩ | ⟨-, hinst, hpar, hnp, -⟩
  · rw [hst] at hf; cases hf
  · refine ⟨⟨Nat.le_trans hle.1 hgo.1.1, Nat.le_trans hle.2 hgo.1.2⟩, fun G p l e R s m args below meth c H locs ls k n hc hs Q C U L B K => ?_⟩
    refine W_call (as := q.1) C U L B K hle hgo (fun hz hB1 hB2 T hT X => ?_)
    have hK := back_A (e := e) (below := below) C hdd hy hM
    have hT0 := C.2.2.2.2.2.2.1
    unfold isRf at hrf
    split at hrf
    · rename_i x as' he
      have hl1 : l0 = as'.reverse ++ [.ref x] := by rw [← List.reverse_reverse l0, ← hq1, he]; simp
      rw [he] at hK ⊢
      have hlen := hlen_A hpar G (as := as') (by rw [hl1] at hl0; simp at hl0; omega)
      have hsz : (F0 m pc ls ((l0 ++ q.2).map (cv G))).locals.size = c.maxLocals := L.1.trans C.2.2.1.symm
      have hstk : (l0 ++ q.2).map (cv G) = (as'.map (cv G)).reverse ++ .ref (cvA G x) :: q.2.map (cv G) := by rw [hl1]; simp [cv]
      have hcode2 := hT0 _ hcode
      unfold wC at hcode2
      rw [init_ret hy hnm] at hcode2
      rcases ML_at hm with hml | ⟨host, hml⟩
      · rw [mnam_lt hy] at hml
        exact callI X C.1 C.2.2.2.1 hnm (hT0 _ hml) (hT0 _ hinst) hcode2 hne hK rfl hsz hlen hstk (hW_A G hq2) (by rw [C.2.1]; exact hd) (pre_A C U hz hT hB1 hB2 (as := .ref x :: as'))
      · rw [mnam_lt hy] at hml
        exact va_callIN X C.1 C.2.2.2.1 hnm (va_Nw.use rfl (C.2.2.2.2.2.2.2.1 _ hml)) (hT0 _ hinst) hcode2 hne hK rfl hsz hlen hstk (hW_A G hq2) (by rw [C.2.1]; exact hd) (pre_A C U hz hT hB1 hB2 (as := .ref x :: as'))
    · cases hrf
theorem w_invokevirtual {j c0 : Nat} (hd : decode (mrow mt).2.2.1 pc = .ok (.invokevirtual j, 3)) (hm : inM (mrow mt).1 j a = true) (hy : a < 310) (hb : b = (mrow a).2.2.2.2.2.1) (hst : (mrow a).2.2.2.2.2.2.1 = false) (hnm : ¬ (mrow a).2.1.name = "<init>") (hc0 : (clsT c0).1 = (mrow a).2.1.cls ∧ c0 < 15) (ha : aI mt pc lv st h (.invokevirtual j, 3, a, b, .retAddr c0, lab) = some r) (hgo : GoOn d o r) : WS d mt pc lv st h o := by
  have ha : callA mt (pc + 3) a b lv st h (isO h c0) = some r := by
    have : aI mt pc lv st h (.invokevirtual j, 3, a, b, .retAddr c0, lab) = callA mt (pc + 3) a b lv st h (isO h c0) := by
      show (if a = 9003 then _ else _) = _
      rw [if_neg (by omega)]
      rfl
    rw [← this]; exact ha
  obtain ⟨q, hq, ha⟩ := ob_some ha
  obtain ⟨⟨hrf, hq2, hq3⟩, ha⟩ := gT_some ha
  cases ha
  obtain ⟨d', o1, hdd, hM, hgo⟩ := hgo
  obtain ⟨hM, hle⟩ := hM hy hq3
  obtain ⟨l0, rfl, hl0, hq1⟩ := popN_spec _ _ _ _ hq
  rw [List.append_nil] at hq1
  obtain ⟨hok, hcode⟩ := mt_ok hy
  obtain ⟨hcls, hini, hpl, hne, hmx, hkind⟩ := okR_f hok
  rcases hkind with ⟨hf, -⟩ | ⟨-, hinst, hpar, hnp, hsel⟩
  · rw [hst] at hf; cases hf
  · refine ⟨⟨Nat.le_trans hle.1 hgo.1.1, Nat.le_trans hle.2 hgo.1.2⟩, fun G p l e R s m args below meth c H locs ls k n hc hs Q C U L B K => ?_⟩
    refine W_call (as := q.1) C U L B K hle hgo (fun hz hB1 hB2 T hT X => ?_)
    have hK := back_A (e := e) (below := below) C hdd hy hM
    have hT0 := C.2.2.2.2.2.2.1
    have hsel := hT0 _ (hsel.resolve_left hnm)
    unfold isO at hrf
    split at hrf
    · rename_i x as' he
      split at hrf
      · rename_i ci fs hcx
        have hci : ci = c0 := by simpa using hrf
        subst hci
        have hrecv : ∃ cell : Cell, T.heap[cvA G x]? = some cell ∧ cell.vm.isStatics = false ∧ s.vm.findClass (mrow a).2.1.cls = some cell.cls := by
          rw [hT, ← hc0.1]
          by_cases hr : x < 1048576
          · obtain ⟨g1, g2, g3⟩ := inW (G := G) U.2.2.2.1 hcx hr
            exact va_recv C.2.2.2.2.2.2.2.2.2.1 U.1 (CV_at g3) g1
          · have hx := C.2.2.2.2.2.2.2.2.2.2.2.2.2.2.1 x _ (Nat.le_of_not_lt hr) ((U.2.2.1 x (Nat.le_of_not_lt hr)).symm.trans hcx)
            obtain ⟨rfl, h1, -⟩ := XTc_obj hx
            obtain ⟨cell, q1, q2, q3, -⟩ := h1.kept U.2.1.2.1
            exact ⟨cell, q1, q2, q3⟩
        obtain ⟨cell, r1, r2, r3⟩ := hrecv
        have hl1 : l0 = as'.reverse ++ [.ref x] := by rw [← List.reverse_reverse l0, ← hq1, he]; simp
        rw [he] at hK ⊢
        have hlen := hlen_A hpar G (as := as') (by rw [hl1] at hl0; simp at hl0; omega)
        have hsz : (F0 m pc ls ((l0 ++ q.2).map (cv G))).locals.size = c.maxLocals := L.1.trans C.2.2.1.symm
        have hstk : (l0 ++ q.2).map (cv G) = (as'.map (cv G)).reverse ++ .ref (cvA G x) :: q.2.map (cv G) := by rw [hl1]; simp [cv]
        rcases ML_at hm with hml | ⟨host, hml⟩
        · rw [mnam_lt hy] at hml
          exact callV X C.1 C.2.2.2.1 (hT0 _ hml) (hT0 _ hinst) hsel (hT0 _ hcode) hne hK r1 r2 r3 rfl hsz hlen hstk (hW_A G hq2) (by rw [C.2.1]; exact hd) (pre_A C U hz hT hB1 hB2 (as := .ref x :: as'))
        · rw [mnam_lt hy] at hml
          exact va_callVN X C.1 C.2.2.2.1 (va_Nw.use rfl (C.2.2.2.2.2.2.2.1 _ hml)) (hT0 _ hinst) hsel (hT0 _ hcode) hne hK r1 r2 r3 rfl hsz hlen hstk (hW_A G hq2) (by rw [C.2.1]; exact hd) (pre_A C U hz hT hB1 hB2 (as := .ref x :: as'))
      · cases hrf
    · cases hrf
end WC
