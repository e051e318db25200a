/-! RoundMapsLaw.row -/
theorem cur_after {G : GG} {h : AH} {s st₀ t : State} {H : Heap} {locs L : List Loc} {k n hc hs : Nat} {h1 : AH} (U : Cur G h s H locs k n hc hs) (h0 : st₀.heap = H) (hP : va_P G.2.1 CV (wsOf G h1) t.heap) (hF : va_F (regA G) st₀ t) (hW : WFH h1) (hE : EX G h1) (hle : h.1 ≤ h1.1 ∧ h.2.1 ≤ h1.2.1) (hL : ∀ q ∈ L, regA G q.base) :
    Cur G h1 s t.heap (locs ++ L) (k + (h1.1 - h.1)) (n + (h1.2.1 - h.2.1)) hc hs := by
  have hF1 : H.size ≤ t.heap.size := by rw [← h0]; exact hF.1
  have hF2 : ∀ q : Nat, q < H.size → ¬ regA G q → t.heap[q]? = H[q]? := by
    intro q h1 h2
    rw [← h0] at h1 ⊢
    exact hF.2 q h1 h2
  have hS := U.2.1
  have hu1 := U.2.2.2.2.1
  have hu2 := U.2.2.2.2.2.1
  refine ⟨hP, ⟨Nat.le_trans hS.1 hF1, fun q h1 h2 => by rw [hF2 q (Nat.lt_of_lt_of_le h1 hS.1) h2]; exact hS.2.1 q h1 h2, fun q hq => ?_⟩, hE, hW, by omega, by omega, U.2.2.2.2.2.2⟩
  rcases List.mem_append.mp hq with h | h
  · exact hS.2.2 q h
  · exact hL q h
theorem lv3 {G : GG} {x o : Nat} {i : Int32} : lv_args 0 (([.ref x, .int i, .ref o] : List Value).map (cv G)) = [(0, .ref (cvA G x)), (1, .int i), (2, .ref (cvA G o))] := rfl
/-- the call of RoundMaps.row in RoundMapsLaw.row -/
theorem lawrow_call {G : GG} {h : AH} {p : Program} {l : Launch} {e : Env} {s : State} {m : MethodId} {args : Array Value} {below : List Frame} {meth : Method} {c : Code} {ls : Array Slot} {x mc ms K N : Nat} {i : Int32} {fs : List Value} {Qc : Array Value → State → Outcome → State → Prop} {XC : String → State → State → Prop} {rest : List Value}
    (C : CtxR G rLaw True 7 p l (roomA 7 K N) s m args meth c) (U : Cur G h s s.heap [] 0 0 h.1 h.2.1) (hsz : ls.size = 4) (hx : ag h x = some (cO 11 fs)) (hxl : x < 1048576) (hz0 : s.heap.size = G.1 + h.1) (h1 : mc ≤ K) (h2 : ms ≤ N) (hr : (rest.map fun v => v.category).sum ≤ 8)
    (hM : vx_Met l yRow (wC rRow :: TBg) (roomA 6 mc ms) (PcA G h [.ref x, .int i]) Qc XC mc ms (regA G)) :
    vx_Run p l e (roomA 7 K N) s m args below meth c s.heap [] 0 0 mc ms (F0 m 4 ls (.int i :: .ref (cvA G x) :: rest)) rest (Qc (Value.ref (cvA G x) :: [.int i]).toArray) XC (regA G) := by
  have hT := C.2.2.2.2.2.2.1
  have hg : ∀ w ∈ TBg, ∀ a' U, s.WarmedH U.vm → w.before a' U = true := fun w hw a' U hW => word_at hW (good_of_word (List.mem_filter.mp hw).2) (hT w hw)
  obtain ⟨g1, -, -⟩ := inW (G := G) U.2.2.2.1 hx hxl
  have hpd : (parseMethodDescriptor yRow.desc).map (fun d => d.parameters.length) = some 1 := by decide +kernel
  refine vx_runV (cc := method_3_code) (nL := 4) (Ts := TBg) (own := "RoundMapsLaw") (C := "RoundMaps") (bytes := prog_1_method_50_code) (maxL := 2) (ret := some .int) (n := 1) (index := 7) (As := [.int i]) ⟨C.1, C.2.1, C.2.2.1, C.2.2.2.1, hT⟩ hM ⟨⟨rfl, rfl, (show 6 + 1 + 1 ≤ 7 + 1 by decide), by show 8 + (2 + 11) + (120 * 6 + 100) ≤ 120 * 7 + 100; decide, fun w hw a' U hW => ?_, List.mem_cons_self, hT _ wRow, hT _ wkRM, ⟨by decide, by decide⟩, fun sig hs => ?_, hT _ wk7⟩, hT _ wkRI, hT _ wkRS⟩ ⟨PcA_blind G h [.ref x, .int i], va_recv C.2.2.2.2.2.2.2.2.2.1 U.1 (CV_at (by decide : 11 < 14)) g1, fun V hV hW => ⟨rfl, StOk_of C U hz0 hV hW⟩⟩ rfl rfl hsz rfl (by show 2 * 0 + _ ≤ 8; omega) dL4 ⟨by show 0 + mc ≤ K; omega, by show 0 + ms ≤ N; omega⟩
  · rcases List.mem_cons.mp hw with rfl | hw
    · exact hg _ wRow a' U hW
    · exact hg w hw a' U hW
  · rw [hs] at hpd
    exact (Option.some.inj hpd).symm
theorem lawrow_ret {G : GG} {h : AH} {l : Launch} {x t nm o : Nat} {i tot : Int32} {fs : List Value} {f : Nat → Int32} {g : Nat → Int64} (hfl : l.flags = flags0) (hx : ag h x = some (cO 11 fs)) (hxl : x < 1048576) (hf : fs[7]? = some (.ref t)) (htl : t < 1048576) (ht : ag h t = some (cO 8 [.ref nm, .int tot])) (hnl : nm < 1048576) (hn : ag h nm = some (cI 128 f)) (hi : 0 ≤ i ∧ i < tot ∧ i < 128) (ho : ag h o = some (cJ 1 g)) (hol : o < 1048576)
    (hM : MetA 5 104 [.ref t, .int i] h (some (.int (bi true)), h)) :
    Met l rowN (Cond.codeWith rowN method_3_code 4 (some .int) [(0, 9, 12, 13)] :: TBg) (roomA 7 0 0) (PcA G h [.ref x, .int i, .ref o]) (QcA G (some (.int 0), au h o (cJ 1 (vp_updL g 0 (f (cl i)).toInt64)))) 0 0 (regA G) := by
  refine va_MetW (cc := method_3_code) (maxL := 4) (ret := some .int) (by decide) rfl ?_
  intro p e s m args below meth c s₁ B hml hv
  obtain ⟨rfl, hS⟩ := hv
  obtain ⟨C, U⟩ := ctx_of (r := rLaw) hfl B hml rfl (by decide) (by decide) hS
  rw [lg_entry_eq]
  have hl := lv_entry (([.ref x, .int i, .ref o] : List Value).map (cv G)) (n := 4) (Nat.le_of_ble_eq_true rfl)
  generalize (lg_sl (([.ref x, .int i, .ref o] : List Value).map (cv G)) ++ List.replicate (4 - (lg_sl (([.ref x, .int i, .ref o] : List Value).map (cv G))).length) Slot.unset).toArray = ls at hl ⊢
  rw [lv3] at hl
  refine lv_aload_n C.1 C.2.1 dL0 rfl (lv_at hl 2 rfl) ?_
  refine lv_iconst C.1 C.2.1 dL1 rfl ?_
  refine lv_aload_n C.1 C.2.1 dL2 rfl (lv_at hl 0 rfl) ?_
  refine lv_iload_n C.1 C.2.1 dL3 rfl (lv_at hl 1 rfl) ?_
  have hr := lawrow_call (e := e) (below := below) (rest := [.int 0, .ref (cvA G o)]) C U hl.1 hx hxl hS.2.1 (Nat.le_refl _) (Nat.le_refl _) (Nat.le_of_ble_eq_true rfl) (row_ret (l := l) (G := G) hfl hx hxl hf htl ht hnl hn hi hM)
  intro T hT X
  rcases hr T hT X with ⟨v, st₀, t1, T', L, h0, X', hL, e1, e2, ⟨q1, q2, q3, q4, q5⟩, st⟩ | ⟨q, st₀, t1, T', L, E, ce, h0, X', hL, e1, e2, hx, -⟩
  · cases q1
    have U1 := cur_after U h0 q2 q3 q4 q5 ⟨Nat.le_refl _, Nat.le_refl _⟩ hL
    rw [Nat.sub_self, Nat.sub_self] at U1
    obtain ⟨o1, o2, o3⟩ := inW (G := G) U1.2.2.2.1 ho hol
    obtain ⟨t0, ht0⟩ := tysG_at G o3.1
    have kk : W p l e (roomA 7 0 0) s m (([.ref x, .int i, .ref o] : List Value).map (cv G)).toArray below meth c t1.heap ([] ++ L) (0 + 0) (0 + 0) (MQ below (QcA G (some (.int 0), au h o (cJ 1 (vp_updL g 0 (f (cl i)).toInt64)))) (([.ref x, .int i, .ref o] : List Value).map (cv G)).toArray s 0 0 (regA G)) (F0 m 7 ls [.int (f (cl i)), .int 0, .ref (cvA G o)]) := by
      refine lv_i2l C.1 C.2.1 dL7 rfl ?_
      refine va_last C.1 C.2.1 C.2.2.2.2.2.2.2.2.2.1 U1.1 (wsOf_D G h) U1.2.1 o t0 o1 ht0 (by rw [vp_in_iff]; exact ⟨by decide, by decide⟩) dL8 (fun H2 locs2 p1 _ p3 => ?_)
      rw [cvA_lo G hol] at p1
      have p1 : va_P G.2.1 CV (wsOf G (au h o (cJ 1 (vp_updL g 0 (f (cl i)).toInt64)))) H2 := by rw [← wsOf_set]; exact p1
      refine lv_goto C.1 C.2.1 dL9 (show ((9 : Nat) : Int) + 6 = ((15 : Nat) : Int) by decide) ?_
      refine lv_iconst C.1 C.2.1 dL15 rfl ?_
      exact W.iret C.1 C.2.1 C.2.2.2.2.1 (fun t ht _ => ⟨rfl, by rw [ht]; exact p1, p3.F ht, U1.2.2.2.1.au o2 ⟨o3.1, trivial⟩, U1.2.2.1.au hol⟩) p3.2.2 dL16 B.notSynchronized
    obtain ⟨t2, a1, b1⟩ := kk T' e1 X'
    exact ⟨t2, st t2 a1, b1⟩
  · exact hx.elim
theorem lawrow_thr {G : GG} {h : AH} {l : Launch} {x t nm o : Nat} {i tot : Int32} {fs : List Value} (hfl : l.flags = flags0) (hz7 : h.1 < 700000) (hx : ag h x = some (cO 11 fs)) (hxl : x < 1048576) (hf : fs[7]? = some (.ref t)) (htl : t < 1048576) (ht : ag h t = some (cO 8 [.ref nm, .int tot]))
    (hM : MetA 5 104 [.ref t, .int i] h (some (.int (bi false)), h)) :
    Met l rowN (Cond.codeWith rowN method_3_code 4 (some .int) [(0, 9, 12, 13)] :: TBg) (roomA 7 1 16) (PcA G h [.ref x, .int i, .ref o]) (QcA G (some (.int 1), an h 16 (cO 13 []))) 1 16 (regA G) := by
  refine va_MetW (cc := method_3_code) (maxL := 4) (ret := some .int) (by decide) rfl ?_
  intro p e s m args below meth c s₁ B hml hv
  obtain ⟨rfl, hS⟩ := hv
  obtain ⟨C, U⟩ := ctx_of (r := rLaw) hfl B hml rfl (by decide) (by decide) hS
  have htab := vx_table (x := rowN) B (C.2.2.2.2.2.2.1 _ wLaw)
  rw [lg_entry_eq]
  have hl := lv_entry (([.ref x, .int i, .ref o] : List Value).map (cv G)) (n := 4) (Nat.le_of_ble_eq_true rfl)
  generalize (lg_sl (([.ref x, .int i, .ref o] : List Value).map (cv G)) ++ List.replicate (4 - (lg_sl (([.ref x, .int i, .ref o] : List Value).map (cv G))).length) Slot.unset).toArray = ls at hl ⊢
  rw [lv3] at hl
  refine lv_aload_n C.1 C.2.1 dL0 rfl (lv_at hl 2 rfl) ?_
  refine lv_iconst C.1 C.2.1 dL1 rfl ?_
  refine lv_aload_n C.1 C.2.1 dL2 rfl (lv_at hl 0 rfl) ?_
  refine lv_iload_n C.1 C.2.1 dL3 rfl (lv_at hl 1 rfl) ?_
  have hr := lawrow_call (e := e) (below := below) (rest := [.int 0, .ref (cvA G o)]) C U hl.1 hx hxl hS.2.1 (Nat.le_refl _) (Nat.le_refl _) (Nat.le_of_ble_eq_true rfl) (row_thr (l := l) (G := G) hfl hz7 hx hxl hf htl ht hM)
  intro T hT X
  rcases hr T hT X with ⟨v, st₀, t1, T', L, h0, X', hL, e1, e2, q1, st⟩ | ⟨q, st₀, t1, T', L, E, ce, h0, X', hL, e1, e2, ⟨hE, q2, q3⟩, hce, hcv, hcl, st⟩
  · exact q1.elim
  · subst hE
    have hW := U.2.2.2.1.an (n := 16) (c := cO 13 []) (show 13 < 14 by decide) hz7
    have U1 := cur_after (h1 := an h 16 (cO 13 [])) U h0 q2 q3 hW (U.2.2.1.an (by omega)) ⟨Nat.le_succ _, Nat.le_add_right _ _⟩ hL
    have kk : vx_W p l e (roomA 7 1 16) s m (([.ref x, .int i, .ref o] : List Value).map (cv G)).toArray below meth c t1.heap ([] ++ L) (0 + 1) (0 + 16) (MQ below (QcA G (some (.int 1), an h 16 (cO 13 []))) (([.ref x, .int i, .ref o] : List Value).map (cv G)).toArray s 1 16 (regA G)) (F0 m 4 ls [.int 0, .ref (cvA G o)]) q := by
      refine vx_catch (own := "RoundMapsLaw") (name := NSE) (E := NSE) C.2.2.2.1 [] ⟨0, 9, 12, 13⟩ [] htab (fun z hz => nomatch hz) (by decide) (by decide) (C.2.2.2.2.2.2.1 _ wk13) (va_Nw.use rfl (C.2.2.2.2.2.2.2.1 _ wkNN)) hce hcv hcl ?_
      refine lv_astore_n C.1 C.2.1 dL12 rfl hl (show 3 < 4 by decide) rfl (fun ls' hl' => ?_)
      refine lv_iconst C.1 C.2.1 dL13 rfl ?_
      exact W.iret C.1 C.2.1 C.2.2.2.2.1 (fun t ht _ => ⟨rfl, by rw [ht]; exact U1.1, U1.2.1.F ht, U1.2.2.2.1, U1.2.2.1⟩) U1.2.1.2.2 dL14 B.notSynchronized
    obtain ⟨t2, a1, b1⟩ := kk T' e1 X'
    exact ⟨t2, st.trans a1, b1⟩
section LR
variable {d mt pc a b : Nat} {lv : LV} {st : List Value} {h : AH} {v : Value} {lab : Option (List Bool)} {o : OU} {r : AT}
theorem back_L {G : GG} {p : Program} {l : Launch} {e : Env} {R : Room} {s : State} {m : MethodId} {args : Array Value} {below : List Frame} {meth : Method} {c : Code} {r0 : MR} {E : Prop} {K N : Nat} {as : List Value} {o1 : OU} (C : CtxR G r0 E d p l R s m args meth c) (hd : 10 ≤ d)
    (hM : Met l rowN (Cond.codeWith rowN method_3_code 4 (some .int) [(0, 9, 12, 13)] :: TBg) (roomA 7 K N) (PcA G h as) (QcA G o1) K N (regA G)) : Back l R p e below s args rowN 3 24 (PreOf R K N (PcA G h as)) (PostOf (QcA G o1) K N (regA G)) := by
  have hfr := C.2.2.2.2.2.2.2.2.2.2.2.2.1
  have hlo := C.2.2.2.2.2.2.2.2.2.2.2.2.2.1
  have hT := C.2.2.2.2.2.2.1
  have hg : ∀ w ∈ TBg, ∀ a' U, s.WarmedH U.vm → w.before a' U = true := fun w hw a' U hW => word_at hW (good_of_word (List.mem_filter.mp hw).2) (hT w hw)
  refine va_backW (hh := [(0, 9, 12, 13)]) (bytes := method_3_code) (maxL := 4) (ret := some .int) hM (PcA_blind G h as) rfl rfl (by show 7 + 1 + 1 ≤ _; omega) (by show 24 + (4 + 11) + (120 * 7 + 100) ≤ _; omega) ?_ List.mem_cons_self (fun a' U hW => hg _ (atW_good (p := 165) (by decide +kernel) rfl) a' U hW)
  intro w hw
  rcases List.mem_cons.mp hw with rfl | hw
  · exact hg _ wLaw
  · exact hg w hw
theorem obj_lo {G : GG} {p : Program} {l : Launch} {R : Room} {s : State} {m : MethodId} {args : Array Value} {meth : Method} {c : Code} {r0 : MR} {E : Prop} {H : Heap} {locs : List Loc} {k n hc hs x : Nat} {ci : Nat} {fs : List Value} (C : CtxR G r0 E d p l R s m args meth c) (U : Cur G h s H locs k n hc hs) (hx : ag h x = some (cO ci fs)) (hci : ci ≠ 14) : x < 1048576 := by
  by_cases hr : x < 1048576
  · exact hr
  · have h1 := C.2.2.2.2.2.2.2.2.2.2.2.2.2.2.1 x _ (Nat.le_of_not_lt hr) ((U.2.2.1 x (Nat.le_of_not_lt hr)).symm.trans hx)
    exact absurd (XTc_obj h1).1 hci
theorem int_lo {G : GG} {p : Program} {l : Launch} {R : Room} {s : State} {m : MethodId} {args : Array Value} {meth : Method} {c : Code} {r0 : MR} {E : Prop} {H : Heap} {locs : List Loc} {k n hc hs x nn : Nat} {f : Nat → Int32} (C : CtxR G r0 E d p l R s m args meth c) (U : Cur G h s H locs k n hc hs) (hx : ag h x = some (cI nn f)) : x < 1048576 := by
  by_cases hr : x < 1048576
  · exact hr
  · have h1 := C.2.2.2.2.2.2.2.2.2.2.2.2.2.2.1 x _ (Nat.le_of_not_lt hr) ((U.2.2.1 x (Nat.le_of_not_lt hr)).symm.trans hx)
    rcases XTc_int h1 with ⟨e, -⟩ | ⟨e, -⟩ <;> cases e
theorem long_lo {G : GG} {p : Program} {l : Launch} {R : Room} {s : State} {m : MethodId} {args : Array Value} {meth : Method} {c : Code} {r0 : MR} {E : Prop} {H : Heap} {locs : List Loc} {k n hc hs x nn : Nat} {f : Nat → Int64} (C : CtxR G r0 E d p l R s m args meth c) (U : Cur G h s H locs k n hc hs) (hx : ag h x = some (cJ nn f)) : x < 1048576 := by
  by_cases hr : x < 1048576
  · exact hr
  · have h1 := C.2.2.2.2.2.2.2.2.2.2.2.2.2.2.1 x _ (Nat.le_of_not_lt hr) ((U.2.2.1 x (Nat.le_of_not_lt hr)).symm.trans hx)
    obtain ⟨_, _, e⟩ := XTc_arr h1
    cases e
theorem lawrow_W {j K N : Nat} {x ou : Nat} {i : Int32} {rest : List Value} {o1 : OU} {G : GG} {p : Program} {l : Launch} {e : Env} {R : Room} {s : State} {m : MethodId} {args : Array Value} {below : List Frame} {meth : Method} {c : Code} {H : Heap} {locs : List Loc} {ls : Array Slot} {k n hc hs : Nat} {Q : State → Prop} (hmt : mt = 310) (hd : decode (mrow mt).2.2.1 pc = .ok (.invokestatic j, 3)) (hml : Cond.methodLink (ownN (mrow mt).1) j rowN ∈ TBg) (hq2 : rest.length ≤ 12)
    (C : Ctx G mt d p l R s m args meth c) (U : Cur G h s H locs k n hc hs) (L : lv_has ls (mrow mt).2.2.2.1 (prs G 0 lv)) (B : Bud R hc hs o) (K0 : RetK G mt p l e R s m args below meth c hc hs Q o)
    (hM : Met l rowN (Cond.codeWith rowN method_3_code 4 (some .int) [(0, 9, 12, 13)] :: TBg) (roomA 7 K N) (PcA G h [.ref x, .int i, .ref ou]) (QcA G o1) K N (regA G)) (hK : o1.2.1 = h.1 + K ∧ o1.2.2.1 = h.2.1 + N) (hgo : WS d mt (pc + 3) lv (psh o1 rest) o1.2 o) :
    W p l e R s m args below meth c H locs k n Q (F0 m pc ls ((.ref ou :: .int i :: .ref x :: rest).map (cv G))) := by
  have hT := C.2.2.2.2.2.2.1
  have hstat : Cond.static rowN ∈ TBg := atW_good (p := 1476) (by decide +kernel) rfl
  have hlaw : Cond.initialized rowN.cls ∈ TBg := atW_good (p := 165) (by decide +kernel) rfl
  have hpd : (parseMethodDescriptor rowN.desc).map (fun d => d.parameters.length) = some 3 := by decide +kernel
  have hd10 : 10 ≤ d := C.2.2.2.2.2.2.2.2.2.2.2.2.2.2.2.2.2 hmt
  have k1 : o1.2.1 - h.1 = K := by omega
  have k2 : o1.2.2.1 - h.2.1 = N := by omega
  refine W_call C U L B K0 (as := [.ref x, .int i, .ref ou]) (rest := rest) ⟨by omega, by omega⟩ hgo (fun hz hB1 hB2 T hTh X => ?_)
  have hKb := back_L (e := e) (below := below) C hd10 hM
  rw [k1] at hB1
  rw [k2] at hB2
  have := vx_callSW X C.1 (g := F0 m pc ls ((.ref ou :: .int i :: .ref x :: rest).map (cv G))) (argsL := [.ref (cvA G x), .int i, .ref (cvA G ou)]) (rest := rest.map (cv G)) C.2.2.2.1 (hT _ hml) (hT _ hstat) (hT _ hlaw) (hT _ wLaw) ⟨by decide, by decide⟩ hKb rfl (L.1.trans C.2.2.1.symm) (fun sig hs => by
    rw [hs] at hpd
    exact (Option.some.inj hpd).symm) rfl (hW_A G hq2) (by rw [C.2.1]; exact hd) (pre_A C U hz hTh hB1 hB2 (as := [.ref x, .int i, .ref ou]))
  unfold CallRes
  rw [k1, k2]
  exact this
theorem w_lawrow {j : Nat} (hmt : mt = 310) (hd : decode (mrow mt).2.2.1 pc = .ok (.invokestatic j, 3)) (hm : inM (mrow mt).1 j 9002 = true) (ha : aI mt pc lv st h (.invokestatic j, 3, 9002, b, v, lab) = some r) (hgo : GoOn d o r) : WS d mt pc lv st h o := by
  have hml : Cond.methodLink (ownN (mrow mt).1) j rowN ∈ TBg := ML_at0 hm (by omega)
  have ha : rowB h st (fun st h => gT (st.length ≤ 12) (nx mt (pc + 3) lv st h)) = some r := ha
  unfold rowB at ha
  obtain ⟨ou, t1, e1, ha⟩ := pR_some ha
  obtain ⟨i, t2, e2, ha⟩ := pI_some ha
  obtain ⟨x, rest, e3, ha⟩ := pR_some ha
  subst e3
  subst e2
  subst e1
  obtain ⟨ci, fs, hx, ha⟩ := gO_some ha
  split at ha
  · rename_i t hf
    obtain ⟨ct, ts, ht, ha⟩ := gO_some ha
    split at ha
    · rename_i nm tot
      obtain ⟨ty, nn, f, hn, ha⟩ := gI_some ha
      obtain ⟨tyo, no, g, ho, ha⟩ := gJ_some ha
      obtain ⟨⟨hc1, hc2, hc3, hc4, hc5, hc6⟩, ha⟩ := gT_some ha
      subst hc1 hc2 hc3 hc4 hc5 hc6
      have hM := Met_call (d := 5) (y := 104) (as := [.ref t, .int i]) (by decide) (show 2 ≤ MX 104 by decide +kernel) (c_isTold 5 t nm tot i f h ht hn)
      by_cases hc : 0 ≤ i ∧ i < tot ∧ i < 128
      · rw [if_pos hc] at ha
        rw [decide_eq_true hc] at hM
        obtain ⟨hl, ha⟩ := gT_some (b := (Value.int 0 :: rest).length ≤ 12) ha
        have hq2 : rest.length ≤ 12 := by simp only [List.length_cons] at hl; omega
        cases ha
        refine ⟨hgo.1, fun G p l e R s m args below meth c H locs ls k n hc2 hs Q C U L B K => ?_⟩
        exact lawrow_W hmt hd hml hq2 C U L B K (lawrow_ret C.2.2.2.2.2.2.2.2.1 hx (obj_lo C U hx (by decide)) hf (obj_lo C U ht (by decide)) ht (int_lo C U hn) hn hc ho (long_lo C U ho) hM) ⟨rfl, rfl⟩ hgo
      · rw [if_neg hc] at ha
        rw [decide_eq_false hc] at hM
        obtain ⟨hz7, ha⟩ := gT_some (b := h.1 < 700000) ha
        obtain ⟨hl, ha⟩ := gT_some (b := (Value.int 1 :: rest).length ≤ 12) ha
        have hq2 : rest.length ≤ 12 := by simp only [List.length_cons] at hl; omega
        cases ha
        have hg1 : h.1 + 1 ≤ o.2.1 ∧ h.2.1 + 16 ≤ o.2.2.1 := hgo.1
        refine ⟨⟨by omega, by omega⟩, fun G p l e R s m args below meth c H locs ls k n hc2 hs Q C U L B K => ?_⟩
        exact lawrow_W hmt hd hml hq2 C U L B K (lawrow_thr C.2.2.2.2.2.2.2.2.1 hz7 hx (obj_lo C U hx (by decide)) hf (obj_lo C U ht (by decide)) ht hM) ⟨rfl, rfl⟩ hgo
    · cases ha
  · cases ha
end LR
