/-! RoundMaps.row AND RoundMapsLaw.row: what is thrown, and caught -/
def NSE : String := "java/util/NoSuchElementException"
def yRow : MethodName := ⟨"RoundMaps", "row", "(I)I"⟩
def rRow : MR := (11, yRow, prog_1_method_50_code, 2, some .int, 2, false, 0, 0, 0, 0)
def rLaw : MR := (13, rowN, method_3_code, 4, some .int, 3, true, 0, 0, 0, 0)
set_option maxRecDepth 100000 in
theorem wRow : Cond.code yRow prog_1_method_50_code 2 (some .int) ∈ TBg := List.mem_filter.mpr ⟨List.mem_of_getElem? (i := 1482) rfl, rfl⟩
set_option maxRecDepth 100000 in
theorem wLaw : Cond.codeWith rowN method_3_code 4 (some .int) [(0, 9, 12, 13)] ∈ TBg := List.mem_filter.mpr ⟨List.mem_of_getElem? (i := 1477) rfl, rfl⟩
theorem dR0 : decode prog_1_method_50_code 0 = .ok (.aload_n 0, 1) := by decide +kernel
theorem dR1 : decode prog_1_method_50_code 1 = .ok (.getfield 46, 3) := by decide +kernel
theorem dR4 : decode prog_1_method_50_code 4 = .ok (.iload_n 1, 1) := by decide +kernel
theorem dR5 : decode prog_1_method_50_code 5 = .ok (.invokevirtual 436, 3) := by decide +kernel
theorem dR8 : decode prog_1_method_50_code 8 = .ok (.ifCond .ne 11, 3) := by decide +kernel
theorem dR11 : decode prog_1_method_50_code 11 = .ok (.new 439, 3) := by decide +kernel
theorem dR14 : decode prog_1_method_50_code 14 = .ok (.dup, 1) := by decide +kernel
theorem dR15 : decode prog_1_method_50_code 15 = .ok (.invokespecial 441, 3) := by decide +kernel
theorem dR18 : decode prog_1_method_50_code 18 = .ok (.athrow, 1) := by decide +kernel
theorem dR19 : decode prog_1_method_50_code 19 = .ok (.aload_n 0, 1) := by decide +kernel
theorem dR20 : decode prog_1_method_50_code 20 = .ok (.getfield 46, 3) := by decide +kernel
theorem dR23 : decode prog_1_method_50_code 23 = .ok (.getfield 442, 3) := by decide +kernel
theorem dR26 : decode prog_1_method_50_code 26 = .ok (.iload_n 1, 1) := by decide +kernel
theorem dR27 : decode prog_1_method_50_code 27 = .ok (.iaload, 1) := by decide +kernel
theorem dR28 : decode prog_1_method_50_code 28 = .ok (.ireturn, 1) := by decide +kernel
theorem dL0 : decode method_3_code 0 = .ok (.aload_n 2, 1) := by decide +kernel
theorem dL1 : decode method_3_code 1 = .ok (.iconst 0, 1) := by decide +kernel
theorem dL2 : decode method_3_code 2 = .ok (.aload_n 0, 1) := by decide +kernel
theorem dL3 : decode method_3_code 3 = .ok (.iload_n 1, 1) := by decide +kernel
theorem dL4 : decode method_3_code 4 = .ok (.invokevirtual 7, 3) := by decide +kernel
theorem dL7 : decode method_3_code 7 = .ok (.i2l, 1) := by decide +kernel
theorem dL8 : decode method_3_code 8 = .ok (.lastore, 1) := by decide +kernel
theorem dL9 : decode method_3_code 9 = .ok (.goto 6, 3) := by decide +kernel
theorem dL12 : decode method_3_code 12 = .ok (.astore_n 3, 1) := by decide +kernel
theorem dL13 : decode method_3_code 13 = .ok (.iconst 1, 1) := by decide +kernel
theorem dL14 : decode method_3_code 14 = .ok (.ireturn, 1) := by decide +kernel
theorem dL15 : decode method_3_code 15 = .ok (.iconst 0, 1) := by decide +kernel
theorem dL16 : decode method_3_code 16 = .ok (.ireturn, 1) := by decide +kernel
theorem wk46 : Cond.fieldLink "RoundMaps" 46 "RoundMaps" "told" "LRoundMaps$Row;" ∈ TBg := atW_good (p := 543) (by decide +kernel) rfl
theorem wk442 : Cond.fieldLinkNest "RoundMaps" 442 "RoundMaps$Row" "numbers" "[I" "RoundMaps" ∈ NWL := atW_nw (p := 325) (by decide +kernel) rfl
theorem wk436 : Cond.methodLinkNest "RoundMaps" 436 ⟨"RoundMaps$Row", "isTold", "(I)Z"⟩ "RoundMaps" ∈ NWL := atW_nw (p := 1483) (by decide +kernel) rfl
theorem wk439 : Cond.classLink "RoundMaps" 439 NSE ∈ TBg := atW_good (p := 1487) (by decide +kernel) rfl
theorem wkNI : Cond.initialized NSE ∈ TBg := atW_good (p := 191) (by decide +kernel) rfl
theorem wk13 : Cond.classLink "RoundMapsLaw" 13 NSE ∈ TBg := atW_good (p := 1478) (by decide +kernel) rfl
theorem wk7 : Cond.methodLink "RoundMapsLaw" 7 yRow ∈ TBg := atW_good (p := 1479) (by decide +kernel) rfl
theorem wkRI : Cond.instanceMethod yRow ∈ TBg := atW_good (p := 1480) (by decide +kernel) rfl
theorem wkRS : Cond.selects "RoundMaps" yRow yRow ∈ TBg := atW_good (p := 1481) (by decide +kernel) rfl
theorem wkRM : Cond.initialized "RoundMaps" ∈ TBg := atW_good (p := 166) (by decide +kernel) rfl
theorem wkNN : Cond.castable NSE NSE ∈ NWL := atW_nw (p := 1489) (by decide +kernel) rfl
def nseAt : List Cond := vx_at0 "RoundMaps" 441 NSE ["java/lang/RuntimeException", "java/lang/Exception"]
theorem nse_in : (nseAt.all fun w => (goodWord w && decide (w ∈ lw_tbl)) || decide (w = .castable NSE NSE) || decide (w ∈ DCL)) = true := by decide +kernel
theorem nse_ot : ∀ w ∈ Cond.classLink "RoundMaps" 439 NSE :: Cond.initialized NSE :: nseAt, vx_ot w = true := by decide +kernel
theorem ctx_of {r : MR} {G : GG} {h : AH} {p : Program} {l : Launch} {e : Env} {s : State} {m : MethodId} {args : Array Value} {below : List Frame} {meth : Method} {c : Code} {s₁ : State} {w0 : Cond} {d k n : Nat} (hfl : l.flags = flags0)
    (B : BodyLoose p l r.2.1 (headSpec (w0 :: TBg) (roomA d k n)) r.2.2.1 r.2.2.2.1 r.2.2.2.2.1 e s m args below meth c s₁) (hml : c.maxLocals = r.2.2.2.1) (hcls : ownN r.1 = r.2.1.cls) (hmx : r.2.2.2.1 ≤ 60) (hn : r.2.1.name ≠ "<init>") (hS : StOk G h s) :
    CtxR G r True d p l (roomA d k n) s m args meth c ∧ Cur G h s s.heap [] 0 0 h.1 h.2.1 := by
  obtain ⟨hP, hz, hK, hX, hS, hZ, hW, hE, hN⟩ := hS
  have hts := atoms_spec (ws := w0 :: TBg) B.pre
  exact ⟨⟨B.exec, B.bytes, hml, by rw [hcls]; exact findClass_of_methodNamed B.named, B.returns, fun hin => absurd hin hn, fun w hw => hts w (List.mem_cons_of_mem _ hw), hN, hfl, hK, hS, hZ, Nat.le_refl _, Nat.le_refl _, hX, by omega, by rw [hml]; exact hmx, trivial⟩, hP, va_S.rf, hE, hW, by omega, by omega, hz⟩
/-- to the test in RoundMaps.row -/
theorem row_head {G : GG} {h : AH} {p : Program} {l : Launch} {e : Env} {R : Room} {s : State} {m : MethodId} {args : Array Value} {below : List Frame} {meth : Method} {c : Code} {Q : State → Prop} {ls : Array Slot} {x t nm : Nat} {i tot : Int32} {fs : List Value} {f : Nat → Int32} {b : Bool}
    (C : CtxR G rRow True 6 p l R s m args meth c) (U : Cur G h s s.heap [] 0 0 h.1 h.2.1) (hl : lv_has ls 2 [(0, .ref (cvA G x)), (1, .int i)]) (hx : ag h x = some (cO 11 fs)) (hxl : x < 1048576) (hf : fs[7]? = some (.ref t)) (htl : t < 1048576) (ht : ag h t = some (cO 8 [.ref nm, .int tot]))
    (hM : MetA 5 104 [.ref t, .int i] h (some (.int (bi b)), h))
    (kk : ∀ (H1 : Heap) (locs1 : List Loc), Cur G h s H1 locs1 0 0 h.1 h.2.1 → W p l e R s m args below meth c H1 locs1 0 0 Q (F0 m 8 ls [.int (bi b)])) :
    W p l e R s m args below meth c s.heap [] 0 0 Q (F0 m 0 ls []) := by
  obtain ⟨h1, -, -⟩ := inW (G := G) U.2.2.2.1 hx hxl
  obtain ⟨g1, -, -⟩ := inW (G := G) U.2.2.2.1 ht htl
  have hT := C.2.2.2.2.2.2.1
  refine lv_aload_n C.1 C.2.1 dR0 rfl (lv_at hl 0 rfl) ?_
  refine va_get (T := (clsT 11).2.1) (N := (clsT 11).2.2) (C := (clsT 11).1) (v := .ref (cvA G t)) C.1 C.2.1 hT (lay_in (by decide)) C.2.2.2.1 C.2.2.2.2.2.2.2.2.2.1 U.1 x h1 (CV_at (by decide)) 7 (by decide) (hT _ wk46) (fun _ z => z) (by rw [List.getElem?_map, hf]; rfl) dR1 ?_
  refine lv_iload_n C.1 C.2.1 dR4 rfl (lv_at hl 1 rfl) ?_
  refine W_sz fun hz => ?_
  have hge := sz_ge U
  have hu := U.2.2.2.2.2.2
  have hz0 : s.heap.size = G.1 + h.1 := by omega
  obtain ⟨hok, hcode⟩ := mt_ok (y := 104) (by decide)
  obtain ⟨hcls, hini, hpl, hne, hmx, hkind⟩ := okR_f hok
  rcases hkind with ⟨hf', -⟩ | ⟨-, hinst, hpar, hnp, hsel⟩
  · exact absurd hf' (by decide +kernel)
  · have hsel := hT _ (hsel.resolve_left (by decide +kernel))
    refine W_res U (as := [.ref t, .int i]) (o1 := (some (.int (bi b)), h)) (rest := []) ⟨Nat.le_refl _, Nat.le_refl _⟩ (fun T hTh X => ?_) (fun H1 locs1 U1 => ?_)
    · have hK := back_A (e := e) (below := below) C rfl (by decide) hM
      obtain ⟨cell, r1, r2, r3⟩ := va_recv C.2.2.2.2.2.2.2.2.2.1 U.1 (CV_at (by decide : 8 < 14)) g1
      exact va_callVN X C.1 C.2.2.2.1 (y := (mrow 104).2.1) (argsL := [.int i]) (va_Nw.use rfl (C.2.2.2.2.2.2.2.1 _ wk436)) (hT _ hinst) hsel (hT _ hcode) hne hK (by rw [hTh]; exact r1) r2 r3 rfl (hl.1.trans C.2.2.1.symm) (hlen_A hpar G (as := [.int i]) rfl) rfl (hW_A G (rest := []) (by decide)) (by rw [C.2.1]; exact dR5) (pre_A C U hz0 hTh (by show 0 + (h.1 - h.1) ≤ _; omega) (by show 0 + (h.2.1 - h.2.1) ≤ _; omega) (as := [.ref t, .int i]))
    · have e1 : 0 + (h.1 - h.1) = 0 := by omega
      have e2 : 0 + (h.2.1 - h.2.1) = 0 := by omega
      rw [e1, e2] at U1 ⊢
      exact kk H1 locs1 U1
def cRowX (G : GG) (h : AH) : String → State → State → Prop := fun E st t => E = NSE ∧ va_P G.2.1 CV (wsOf G (an h 16 (cO 13 []))) t.heap ∧ va_F (regA G) st t
theorem row_ret {G : GG} {h : AH} {l : Launch} {x t nm : Nat} {i tot : Int32} {fs : List Value} {f : Nat → Int32} (hfl : l.flags = flags0) (hx : ag h x = some (cO 11 fs)) (hxl : x < 1048576) (hf : fs[7]? = some (.ref t)) (htl : t < 1048576) (ht : ag h t = some (cO 8 [.ref nm, .int tot])) (hnl : nm < 1048576) (hn : ag h nm = some (cI 128 f)) (hi : 0 ≤ i ∧ i < tot ∧ i < 128)
    (hM : MetA 5 104 [.ref t, .int i] h (some (.int (bi true)), h)) :
    vx_Met l yRow (wC rRow :: TBg) (roomA 6 0 0) (PcA G h [.ref x, .int i]) (QcA G (some (.int (f (cl i))), h)) (fun _ _ _ => False) 0 0 (regA G) := by
  refine vx_ofW (cc := prog_1_method_50_code) (maxL := 2) (ret := some .int) (by decide) rfl ?_
  intro p e s m args below meth c s₁ B hml htab hv
  obtain ⟨rfl, hS⟩ := hv
  obtain ⟨C, U⟩ := ctx_of (r := rRow) hfl B hml rfl (by decide) (by decide) hS
  refine vx_ret ?_
  rw [lg_entry_eq]
  have hl := lv_entry (([.ref x, .int i] : List Value).map (cv G)) (n := 2) (Nat.le_of_ble_eq_true rfl)
  generalize (lg_sl (([.ref x, .int i] : List Value).map (cv G)) ++ List.replicate (2 - (lg_sl (([.ref x, .int i] : List Value).map (cv G))).length) Slot.unset).toArray = ls at hl ⊢
  have hl : lv_has ls 2 [(0, .ref (cvA G x)), (1, .int i)] := hl
  refine row_head (f := f) C U hl hx hxl hf htl ht hM (fun H1 locs1 U1 => ?_)
  obtain ⟨h1, -, -⟩ := inW (G := G) U.2.2.2.1 hx hxl
  obtain ⟨g1, -, -⟩ := inW (G := G) U.2.2.2.1 ht htl
  obtain ⟨n1, -, n3⟩ := inW (G := G) U.2.2.2.1 hn hnl
  obtain ⟨t0, ht0⟩ := tysG_at G n3.1
  have hT := C.2.2.2.2.2.2.1
  refine lv_if_ne C.1 C.2.1 dR8 (show ((8 : Nat) : Int) + 11 = ((19 : Nat) : Int) by decide) (fun _ => ?_) (fun hq => absurd hq (by decide))
  refine lv_aload_n C.1 C.2.1 dR19 rfl (lv_at hl 0 rfl) ?_
  refine va_get (T := (clsT 11).2.1) (N := (clsT 11).2.2) (C := (clsT 11).1) (v := .ref (cvA G t)) C.1 C.2.1 hT (lay_in (by decide)) C.2.2.2.1 C.2.2.2.2.2.2.2.2.2.1 U1.1 x h1 (CV_at (by decide)) 7 (by decide) (hT _ wk46) (fun _ z => z) (by rw [List.getElem?_map, hf]; rfl) dR20 ?_
  refine va_getN (T := (clsT 8).2.1) (N := (clsT 8).2.2) (C := (clsT 8).1) (v := .ref (cvA G nm)) C.1 C.2.1 hT (lay_in (by decide)) C.2.2.2.1 C.2.2.2.2.2.2.2.2.2.1 U1.1 t g1 (CV_at (by decide)) 0 (by decide) (va_Nw.use rfl (C.2.2.2.2.2.2.2.1 _ wk442)) (fun _ z => z) rfl dR23 ?_
  refine lv_iload_n C.1 C.2.1 dR26 rfl (lv_at hl 1 rfl) ?_
  refine va_iald C.1 C.2.1 C.2.2.2.2.2.2.2.2.2.1 U1.1 nm t0 n1 ht0 ?_ dR27 ?_
  · rw [vp_in_iff]
    have h2 := Int32.le_iff_toInt_le.mp hi.1
    have h3 := Int32.lt_iff_toInt_lt.mp hi.2.2
    have e0 : (0 : Int32).toInt = 0 := rfl
    have e1 : (128 : Int32).toInt = 128 := rfl
    omega
  exact W.iret C.1 C.2.1 C.2.2.2.2.1 (fun t ht _ => ⟨rfl, by rw [ht]; exact U1.1, U1.2.1.F ht, U1.2.2.2.1, U1.2.2.1⟩) U1.2.1.2.2 dR28 B.notSynchronized
theorem row_thr {G : GG} {h : AH} {l : Launch} {x t nm : Nat} {i tot : Int32} {fs : List Value} (hfl : l.flags = flags0) (hz7 : h.1 < 700000) (hx : ag h x = some (cO 11 fs)) (hxl : x < 1048576) (hf : fs[7]? = some (.ref t)) (htl : t < 1048576) (ht : ag h t = some (cO 8 [.ref nm, .int tot]))
    (hM : MetA 5 104 [.ref t, .int i] h (some (.int (bi false)), h)) :
    vx_Met l yRow (wC rRow :: TBg) (roomA 6 1 16) (PcA G h [.ref x, .int i]) (fun _ _ _ _ => False) (cRowX G h) 1 16 (regA G) := by
  refine vx_ofW (cc := prog_1_method_50_code) (maxL := 2) (ret := some .int) (by decide) rfl ?_
  intro p e s m args below meth c s₁ B hml htab hv
  obtain ⟨rfl, hS⟩ := hv
  obtain ⟨C, U⟩ := ctx_of (r := rRow) hfl B hml rfl (by decide) (by decide) hS
  rw [lg_entry_eq]
  have hl := lv_entry (([.ref x, .int i] : List Value).map (cv G)) (n := 2) (Nat.le_of_ble_eq_true rfl)
  generalize (lg_sl (([.ref x, .int i] : List Value).map (cv G)) ++ List.replicate (2 - (lg_sl (([.ref x, .int i] : List Value).map (cv G))).length) Slot.unset).toArray = ls at hl ⊢
  have hl : lv_has ls 2 [(0, .ref (cvA G x)), (1, .int i)] := hl
  refine row_head (f := fun _ => 0) C U hl hx hxl hf htl ht hM (fun H1 locs1 U1 => ?_)
  have hT := C.2.2.2.2.2.2.1
  refine lv_if_ne C.1 C.2.1 dR8 (show ((8 : Nat) : Int) + 11 = ((19 : Nat) : Int) by decide) (fun hq => absurd rfl hq) (fun _ => ?_)
  refine W_sz fun hz => ?_
  have hge := sz_ge U1
  have hu := U1.2.2.2.2.2.2
  have hz0 : H1.size = G.1 + h.1 := by omega
  have hZ := C.2.2.2.2.2.2.2.2.2.2.2.1
  refine vx_throw0 (names := ["java/lang/RuntimeException", "java/lang/Exception"]) (cls := NSE) (A := regA G) C.1 C.2.1 (by unfold Launch.stackTraces; rw [hfl]; decide +kernel) C.2.2.2.1 (by decide +kernel) (by decide +kernel) (hT _ wk439) (hT _ wkNI) (fun w hw => ?_) nse_ot hZ.2.1 hZ.2.2.1 U1.2.1 (hl.1.trans C.2.2.1.symm) dR11 dR14 dR15 dR18 (fun z hz => (htab z hz).elim) (by decide) (by decide) (by decide) (by decide) B.notSynchronized ?_ U1.2.1.2.2 (by decide) (by decide)
  · have hc := List.all_eq_true.mp nse_in w hw
    simp only [Bool.or_eq_true, Bool.and_eq_true, decide_eq_true_eq] at hc
    rcases hc with (⟨hg, hm⟩ | rfl) | hd
    · exact hT w (List.mem_filter.mpr ⟨hm, hg⟩)
    · exact va_Nw.use rfl (C.2.2.2.2.2.2.2.1 _ wkNN)
    · refine va_Nw.use ?_ (hZ.2.2.2 w hd)
      rcases List.mem_cons.mp hd with rfl | hd
      · rfl
      rcases List.mem_cons.mp hd with rfl | hd
      · rfl
      rcases List.mem_cons.mp hd with rfl | hd
      · rfl
      · exact nomatch hd
  · intro t1 hal hsz hkp hce
    obtain ⟨ce, c1, c2, c3⟩ := hce
    have hcl := (C.2.2.2.2.2.2.2.2.2.1.1 13 _ (CV_at (by decide : 13 < 14))).2.1
    have hcl : s.vm.findClass NSE = some (G.2.1.1 13) := hcl
    refine ⟨rfl, ?_, Nat.le_trans U1.2.1.1 hsz, fun q h1 h2 => by rw [hkp q (Nat.lt_of_lt_of_le h1 U1.2.1.1)]; exact U1.2.1.2.1 q h1 h2⟩
    rw [← wsOf_app 16 (cO 13 [])]
    refine va_P.app (fun k q hk => (U1.1 k q hk).kept (hkp q.1 (U1.1 k q hk).lt)) (fun k q hk => ?_)
    have hk1 : k < 1 := (List.getElem?_eq_some_iff.mp hk).1
    rw [show k = 0 by omega] at hk
    cases hk
    refine ⟨clsT 13, CV_at (show 13 < 14 by decide), ce, ?_, Option.some.inj (c3.symm.trans hcl), c2, fun k hk => absurd hk (by show ¬ k < 0; omega)⟩
    show t1.heap[G.1 + h.1]? = some ce
    rw [← hz0]
    exact c1
