/-! EACH INSTRUCTION OF THE ABSTRACT MACHINE IS THE MACHINE'S: fields, arrays, making -/
theorem inW {G : GG} {h : AH} (w : WFH h) {r : Nat} {c : AC} (hc : ag h r = some c) (hr : r < 1048576) : (wsOf G h)[r]? = some (cvA G r, conv G c) ∧ r < h.1 ∧ okC c := by
  have h1 := w.1 r c hc hr
  refine ⟨?_, h1⟩
  rw [cvA_lo G hr]
  exact wsOf_at hc h1.1
theorem CV_at {ci : Nat} (h : ci < 14) : CV[ci]? = some (clsT ci) := by
  unfold CV clsT
  have hl : ci < CL.length := Nat.lt_of_lt_of_le h (by decide)
  rw [List.getElem?_take_of_lt h, List.getElem?_eq_getElem hl, List.getD_eq_getElem?_getD, List.getElem?_eq_getElem hl]
  rfl
theorem lay_in {ci : Nat} (h : ci < 14) : ∀ w ∈ u_ws (clsT ci).1 (clsT ci).2.1 (clsT ci).2.2, w ∈ TBg := by
  intro w hw
  obtain ⟨k, hk, rfl⟩ := List.mem_map.mp hw
  have hk := List.mem_range.mp hk
  by_cases h13 : ci < 13
  · have := List.all_eq_true.mp CW_ok ci (List.mem_range.mpr h13)
    generalize CW.getD ci (0, 0, 0, []) = q at this
    obtain ⟨n, pi, pn, ls⟩ := q
    simp only [Bool.and_eq_true, decide_eq_true_eq] at this
    obtain ⟨rfl, -, -, h4⟩ := this
    refine atW_good (List.all_eq_true.mp h4 k (List.mem_range.mpr hk)) ?_
    unfold u_lay
    split <;> rfl
  · have : ci = 13 := by omega
    subst this
    exact absurd hk (by decide +revert)
theorem cls_words {ci : Nat} (h : ci < 13) : Cond.instantiable (clsT ci).1 (clsT ci).2.2 ∈ TBg ∧ Cond.initialized (clsT ci).1 ∈ TBg := by
  have := List.all_eq_true.mp CW_ok ci (List.mem_range.mpr h)
  generalize CW.getD ci (0, 0, 0, []) = q at this
  obtain ⟨n, pi, pn, ls⟩ := q
  simp only [Bool.and_eq_true, decide_eq_true_eq] at this
  obtain ⟨rfl, h2, h3, -⟩ := this
  exact ⟨atW_good h2 rfl, atW_good h3 rfl⟩
/-- a field link of the tables -/
theorem FL_str : FL.all (fun q => q.2.2.1 != 14 || decide (q.2.2.2.2.2 = "")) = true := by decide +kernel
theorem FL_at {o ix a b : Nat} (h : inF o ix a b = true) : ∃ host : String, b < (clsT a).2.2 ∧ (Cond.fieldLink (ownN o) ix ((clsT a).2.1 b).1 ((clsT a).2.1 b).2.1 ((clsT a).2.1 b).2.2.1 ∈ TBg ∨ a ≠ 14 ∧ Cond.fieldLinkNest (ownN o) ix ((clsT a).2.1 b).1 ((clsT a).2.1 b).2.1 ((clsT a).2.1 b).2.2.1 host ∈ NWL) := by
  obtain ⟨q, hq, hb⟩ := List.any_eq_true.mp h
  simp only [Bool.and_eq_true, beq_iff_eq] at hb
  obtain ⟨rfl, rfl, rfl, rfl⟩ := hb
  have h14 := List.all_eq_true.mp FL_str q hq
  have := List.all_eq_true.mp FL_ok q hq
  simp only [Bool.and_eq_true, decide_eq_true_eq] at this
  obtain ⟨o, ix, c, k, pl, host⟩ := q
  refine ⟨host, this.2, ?_⟩
  have h1 := this.1
  unfold wF at h1
  dsimp only at h1 ⊢
  split at h1
  · rename_i he
    exact Or.inl (atW_good h1 rfl)
  · rename_i he
    refine Or.inr ⟨fun z => he ?_, atW_nw h1 rfl⟩
    simpa [z] using h14
theorem FL_at0 {o ix a b : Nat} (h : FL.any (fun q => q.1 == o && (q.2.1 == ix && (q.2.2.1 == a && (q.2.2.2.1 == b && decide (q.2.2.2.2.2 = ""))))) = true) : b < (clsT a).2.2 ∧ Cond.fieldLink (ownN o) ix ((clsT a).2.1 b).1 ((clsT a).2.1 b).2.1 ((clsT a).2.1 b).2.2.1 ∈ TBg := by
  obtain ⟨q, hq, hb⟩ := List.any_eq_true.mp h
  simp only [Bool.and_eq_true, beq_iff_eq, decide_eq_true_eq] at hb
  obtain ⟨rfl, rfl, rfl, rfl, he⟩ := hb
  have := List.all_eq_true.mp FL_ok q hq
  simp only [Bool.and_eq_true, decide_eq_true_eq] at this
  obtain ⟨o, ix, c, k, pl, host⟩ := q
  refine ⟨this.2, ?_⟩
  have h1 := this.1
  unfold wF at h1
  dsimp only at h1 he ⊢
  rw [if_pos he] at h1
  exact atW_good h1 rfl
theorem XTc_obj {G : GG} {a ci : Nat} {fs : List Value} {U : State} {H : Heap} (h : XTc G a (.inr (ci, fs)) U H) : ci = 14 ∧ va_O "java/lang/String" (cvA G a) (regA G) U H ∧ ∀ k v, fs[k]? = some v → k < 2 ∧ va_OF "java/lang/String" (TX14 k).2.1 (TX14 k).2.2.1 (cv G v) (cvA G a) (regA G) U H := by
  unfold XTc at h
  split at h
  · rename_i e; cases e
  · rename_i e; cases e
  · rename_i e; cases e; exact ⟨rfl, h⟩
  · exact h.elim
theorem XTc_int {G : GG} {a n : Nat} {ty : FieldType} {f : Nat → Int32} {U : State} {H : Heap} (h : XTc G a (.inl (ty, n, .inl f)) U H) : (ty = .char ∧ va_X (cvA G a) n f U H ∧ cvA G a < G.1) ∨ (ty = .byte ∧ va_T .byte (cvA G a) n (fun j => .int (f j)) (regA G) U H) := by
  unfold XTc at h
  split at h
  · rename_i e; cases e; exact Or.inl ⟨rfl, h⟩
  · rename_i e; cases e; exact Or.inr ⟨rfl, h⟩
  · rename_i e; cases e
  · exact h.elim
theorem XTc_arr {G : GG} {a : Nat} {ty : FieldType} {x : vp_A} {U : State} {H : Heap} (h : XTc G a (.inl (ty, x)) U H) : ∃ (n : Nat) (f : Nat → Int32), x = (n, .inl f) := by
  unfold XTc at h
  split at h
  · rename_i e; cases e; exact ⟨_, _, rfl⟩
  · rename_i e; cases e; exact ⟨_, _, rfl⟩
  · rename_i e; cases e
  · exact h.elim
theorem pk_types : ∀ c, c < 13 → ∀ k, k < (clsT c).2.2 → (parseFieldDescriptor ((clsT c).2.1 k).2.2.1).isSome = true := by decide +kernel
def tyF (c k : Nat) : FieldType := (parseFieldDescriptor ((clsT c).2.1 k).2.2.1).getD .int
theorem tyF_ok {c : Nat} (hc : c < 13) : ∀ k, k < (clsT c).2.2 → parseFieldDescriptor ((clsT c).2.1 k).2.2.1 = some (tyF c k) := by
  intro k hk
  have := pk_types c hc k hk
  unfold tyF
  cases h : parseFieldDescriptor ((clsT c).2.1 k).2.2.1 with
  | none => rw [h] at this; cases this
  | some t => rfl
theorem nm_F : ∀ c, c < 13 → ∀ a, a < (clsT c).2.2 → ∀ b, b < (clsT c).2.2 → a ≠ b → ((clsT c).2.1 a).2.1 ≠ ((clsT c).2.1 b).2.1 := by decide +kernel
theorem put_fit {t : Nat} {w : Value} {ty : FieldType} (G : GG) (ht : okT (some ty) t = true) (hp : putOk t w = true) : narrow ty (cv G w) = cv G w ∧ fits ty (cv G w) = true := by
  cases ty <;> simp only [okT, Bool.false_eq_true, beq_iff_eq] at ht <;> subst ht <;> cases w <;> simp only [putOk, Bool.false_eq_true, decide_eq_true_eq] at hp
  case boolean.int x => rcases hp with rfl | rfl <;> exact ⟨rfl, rfl⟩
  all_goals exact ⟨rfl, rfl⟩
theorem sz_ge {G : GG} {h : AH} {s : State} {H : Heap} {locs : List Loc} {k n hc hs : Nat} (U : Cur G h s H locs k n hc hs) : G.1 + h.1 ≤ H.size := by
  obtain ⟨h1, h2, h3, h4, h5, h6, h7⟩ := U
  by_cases hz : h.1 = 0
  · have := h2.1
    omega
  · obtain ⟨c, hc⟩ := h4.2.1 (h.1 - 1) (by omega)
    have := (h1 _ _ (wsOf_at (G := G) hc (by omega))).lt
    dsimp only at this
    omega
theorem W_sz {p : Program} {l : Launch} {e : Env} {R : Room} {s : State} {m : MethodId} {args : Array Value} {below : List Frame} {meth : Method} {c : Code} {H : Heap} {locs : List Loc} {cells slots : Nat} {Q : State → Prop} {g : JFrame}
    (k : H.size ≤ s.heap.size + cells → W p l e R s m args below meth c H locs cells slots Q g) : W p l e R s m args below meth c H locs cells slots Q g := by
  intro T hT X
  refine k ?_ T hT X
  have := X.same.2.2.1
  rw [← hT]
  exact this
theorem ty_cA {G : GG} {s : State} {cA : ClassId} {ty : FieldType} {tys : List (ClassId × FieldType)} (h0 : va_K G.2.1 CV (tysG G) s) (h : va_K G.2.1 CV (tys ++ [(cA, ty)]) s) (ht : ty ∈ tyL) : cA = G.2.2.1 ty := by
  obtain ⟨t0, h1⟩ := tysG_at G ht
  have a := (h0.2 t0 _ h1).2
  have b := (h.2 tys.length (cA, ty) (by simp)).2
  cases ty with
  | object C =>
    obtain ⟨_, _, _, _, _, a⟩ := a
    obtain ⟨_, _, _, _, _, b⟩ := b
    exact Option.some.inj (b.symm.trans a)
  | _ => exact Option.some.inj (b.symm.trans a)
theorem okC_ty {ty : FieldType} {y : vp_A} (h : okC (.inl (ty, y))) : ty ∈ tyL := by
  obtain ⟨n, f | f | f | f | f⟩ := y <;> exact h.1
section WH
variable {d mt pc a b : Nat} {lv : LV} {st : List Value} {h : AH} {v : Value} {lab : Option (List Bool)} {o : OU} {r : AT}
theorem w_tableswitch {df lo hi : Int} {os : Array Int} {len : Nat} (hd : decode (mrow mt).2.2.1 pc = .ok (.tableswitch df lo hi os, len)) (ha : aI mt pc lv st h (.tableswitch df lo hi os, len, a, b, v, lab) = some r) (hgo : GoOn d o r) : WS d mt pc lv st h o := by
  obtain ⟨x, t, rfl, ha⟩ := pI_some (show pI st _ = some r from ha)
  obtain ⟨tg, ht, ha⟩ := ob_some ha
  cases ha
  refine ⟨hgo.1, fun G p l e R s m args below meth c H locs ls k n hc hs Q C U L B K => ?_⟩
  have kk := hgo.2 G p l e R s m args below meth c H locs ls k n hc hs Q C U L B K
  unfold swT at ht
  split at ht
  · rename_i hx
    split at ht
    · rename_i h0
      cases ht
      exact lv_tableOut C.1 C.2.1 hd hx (by unfold jmpT; omega) kk
    · cases ht
  · rename_i hx
    obtain ⟨off, h1, h2⟩ := ob_some ht
    split at h2
    · rename_i h0
      cases h2
      exact lv_tableIn C.1 C.2.1 hd (fun z => hx (Or.inl z)) (fun z => hx (Or.inr z)) h1 (by unfold jmpT; omega) kk
    · cases h2
theorem w_getfield {j : Nat} (hd : decode (mrow mt).2.2.1 pc = .ok (.getfield j, 3)) (hF : inF (mrow mt).1 j a b = true) (ha : aI mt pc lv st h (.getfield j, 3, a, b, v, lab) = some r) (hgo : GoOn d o r) : WS d mt pc lv st h o := by
  obtain ⟨x, t, rfl, ha⟩ := pR_some (show pR st _ = some r from ha)
  obtain ⟨ci, fs, hc, ha⟩ := gO_some ha
  obtain ⟨hci, ha⟩ := gT_some ha
  obtain ⟨w, hw, ha⟩ := ob_some ha
  cases ha
  subst hci
  obtain ⟨host, hb, hlink⟩ := FL_at hF
  refine ⟨hgo.1, fun G p l e R s m args below meth c H locs ls k n hc2 hs Q C U L B K => ?_⟩
  have kk := hgo.2 G p l e R s m args below meth c H locs ls k n hc2 hs Q C U L B K
  have hfs : (fs.map (cv G))[b]? = some (cv G w) := by rw [List.getElem?_map, hw]; rfl
  by_cases hr : x < 1048576
  · obtain ⟨h1, h2, h3⟩ := inW (G := G) U.2.2.2.1 hc hr
    have h3 : ci < 14 := h3
    rcases hlink with hlink | ⟨hne, hlink⟩
    · exact va_get (T := (clsT ci).2.1) (N := (clsT ci).2.2) (C := (clsT ci).1) C.1 C.2.1 C.2.2.2.2.2.2.1 (lay_in h3) C.2.2.2.1 C.2.2.2.2.2.2.2.2.2.1 U.1 x h1 (CV_at h3) b hb (C.2.2.2.2.2.2.1 _ hlink) (fun _ z => z) hfs hd kk
    · exact va_getN (T := (clsT ci).2.1) (N := (clsT ci).2.2) (C := (clsT ci).1) C.1 C.2.1 C.2.2.2.2.2.2.1 (lay_in h3) C.2.2.2.1 C.2.2.2.2.2.2.2.2.2.1 U.1 x h1 (CV_at h3) b hb (va_Nw.use rfl (C.2.2.2.2.2.2.2.1 _ hlink)) (fun _ z => z) hfs hd kk
  · have hx := C.2.2.2.2.2.2.2.2.2.2.2.2.2.2.1 x _ (Nat.le_of_not_lt hr) ((U.2.2.1 x (Nat.le_of_not_lt hr)).symm.trans hc)
    obtain ⟨rfl, -, h2⟩ := XTc_obj hx
    obtain ⟨-, h3⟩ := h2 b w hw
    rcases hlink with hlink | ⟨hne, hlink⟩
    · have hl := C.2.2.2.2.2.2.1 _ hlink
      have e14 : (clsT 14).2.1 = TX14 := rfl
      rw [e14] at hl
      exact vk_getf C.1 C.2.1 h3 U.2.1 C.2.2.2.1 hl (fun y z => by
        have e : (TX14 b).1 = "java/lang/String" := by unfold TX14; split <;> rfl
        rw [e]; exact z) hd kk
    · exact absurd rfl hne
theorem w_putfield {j t : Nat} (hd : decode (mrow mt).2.2.1 pc = .ok (.putfield j, 3)) (hF : (if ((clsT a).2.1 b).2.2.2 then decide ((mrow mt).2.1.name = "<init>") && (decide (((clsT a).2.1 b).1 = ownN (mrow mt).1) && FL.any (fun q => q.1 == (mrow mt).1 && (q.2.1 == j && (q.2.2.1 == a && (q.2.2.2.1 == b && decide (q.2.2.2.2.2 = "")))))) else inF (mrow mt).1 j a b) = true) (ht : okT (parseFieldDescriptor ((clsT a).2.1 b).2.2.1) t = true) (h13 : a < 13) (ha : aI mt pc lv st h (.putfield j, 3, a, b, .retAddr t, lab) = some r) (hgo : GoOn d o r) : WS d mt pc lv st h o := by
  obtain ⟨w, t1, rfl, ha⟩ := pV_some (show pV st _ = some r from ha)
  obtain ⟨x, t2, rfl, ha⟩ := pR_some ha
  obtain ⟨ci, fs, hc, ha⟩ := gO_some ha
  obtain ⟨t', e', ha⟩ := vT_some ha
  cases e'
  obtain ⟨⟨hci, hp, hbl⟩, ha⟩ := gT_some ha
  cases ha
  subst hci
  refine ⟨hgo.1, fun G p l e R s m args below meth c H locs ls k n hc2 hs Q C U L B K => ?_⟩
  have hr : x < 1048576 := by
    by_cases hr : x < 1048576
    · exact hr
    · have hx := C.2.2.2.2.2.2.2.2.2.2.2.2.2.2.1 x _ (Nat.le_of_not_lt hr) ((U.2.2.1 x (Nat.le_of_not_lt hr)).symm.trans hc)
      obtain ⟨rfl, -⟩ := XTc_obj hx
      omega
  obtain ⟨h1, h2, h3⟩ := inW (G := G) U.2.2.2.1 hc hr
  have h3 : ci < 14 := h3
  have hk : b < (clsT ci).2.2 := by
    split at hF
    · simp only [Bool.and_eq_true] at hF
      exact (FL_at0 hF.2.2).1
    · obtain ⟨_, hk, -⟩ := FL_at hF
      exact hk
  have hty := tyF_ok h13 b hk
  rw [hty] at ht
  have hfit := put_fit G ht hp
  have hgo2 := fun (H1 : Heap) (locs1 : List Loc) (q1 : va_P G.2.1 CV ((wsOf G h).set x (cvA G x, .inr (ci, (fs.map (cv G)).set b (cv G w)))) H1) (q3 : va_S (regA G) s.heap H1 locs1) => by
    have he : (wsOf G h).set x (cvA G x, .inr (ci, (fs.map (cv G)).set b (cv G w))) = wsOf G (au h x (cO ci (fs.set b w))) := by
      rw [← wsOf_set, cvA_lo G hr, ← List.map_set]
      rfl
    rw [he] at q1
    exact hgo.2 G p l e R s m args below meth c H1 locs1 ls k n hc2 hs Q C ⟨q1, q3, U.2.2.1.au hr, U.2.2.2.1.au h2 h3, U.2.2.2.2⟩ L B K
  by_cases hfin : ((clsT ci).2.1 b).2.2.2 = true
  · rw [if_pos hfin] at hF
    simp only [Bool.and_eq_true, decide_eq_true_eq] at hF
    obtain ⟨hin, hdecl, hF⟩ := hF
    exact va_putF (T := (clsT ci).2.1) (N := (clsT ci).2.2) (C := (clsT ci).1) C.1 C.2.1 C.2.2.2.2.2.2.1 (lay_in h3) (tyF ci) (tyF_ok h13) (nm_F ci h13) C.2.2.2.1 C.2.2.2.2.2.2.2.2.2.1 U.1 (wsOf_D G h) U.2.1 x h1 (CV_at h3) b hk (C.2.2.2.2.2.2.1 _ (FL_at0 hF).2) (fun _ z => z) hfin (C.2.2.2.2.2.1 hin) hdecl hty hfit.1 hfit.2 (by rw [List.length_map]; exact hbl) hd (fun H1 locs1 q1 _ q3 => hgo2 H1 locs1 q1 q3)
  · rw [if_neg hfin] at hF
    have hfin : ((clsT ci).2.1 b).2.2.2 = false := by simpa using hfin
    obtain ⟨host, -, hlink⟩ := FL_at hF
    rcases hlink with hlink | ⟨-, hlink⟩
    · exact va_put (T := (clsT ci).2.1) (N := (clsT ci).2.2) (C := (clsT ci).1) C.1 C.2.1 C.2.2.2.2.2.2.1 (lay_in h3) (tyF ci) (tyF_ok h13) (nm_F ci h13) C.2.2.2.1 C.2.2.2.2.2.2.2.2.2.1 U.1 (wsOf_D G h) U.2.1 x h1 (CV_at h3) b hk (C.2.2.2.2.2.2.1 _ hlink) (fun _ z => z) hfin hty hfit.1 hfit.2 (by rw [List.length_map]; exact hbl) hd (fun H1 locs1 q1 _ q3 => hgo2 H1 locs1 q1 q3)
    · exact va_putN (T := (clsT ci).2.1) (N := (clsT ci).2.2) (C := (clsT ci).1) C.1 C.2.1 C.2.2.2.2.2.2.1 (lay_in h3) (tyF ci) (tyF_ok h13) (nm_F ci h13) C.2.2.2.1 C.2.2.2.2.2.2.2.2.2.1 U.1 (wsOf_D G h) U.2.1 x h1 (CV_at h3) b hk (va_Nw.use rfl (C.2.2.2.2.2.2.2.1 _ hlink)) (fun _ z => z) hfin hty hfit.1 hfit.2 (by rw [List.length_map]; exact hbl) hd (fun H1 locs1 q1 _ q3 => hgo2 H1 locs1 q1 q3)
theorem w_arraylength (hd : decode (mrow mt).2.2.1 pc = .ok (.arraylength, 1)) (ha : aI mt pc lv st h (.arraylength, 1, a, b, v, lab) = some r) (hgo : GoOn d o r) : WS d mt pc lv st h o := by
  obtain ⟨x, t, rfl, ha⟩ := pR_some (show pR st _ = some r from ha)
  obtain ⟨ty, y, hc, ha⟩ := gL_some ha
  cases ha
  refine ⟨hgo.1, fun G p l e R s m args below meth c H locs ls k n hc2 hs Q C U L B K => ?_⟩
  have kk := hgo.2 G p l e R s m args below meth c H locs ls k n hc2 hs Q C U L B K
  by_cases hr : x < 1048576
  · obtain ⟨h1, h2, h3⟩ := inW (G := G) U.2.2.2.1 hc hr
    obtain ⟨t0, ht⟩ := tysG_at G (okC_ty h3)
    obtain ⟨ny, f | f | f | f | f⟩ := y <;> exact va_alen C.1 C.2.1 C.2.2.2.2.2.2.2.2.2.1 U.1 x t0 h1 ht rfl hd kk
  · have hx := C.2.2.2.2.2.2.2.2.2.2.2.2.2.2.1 x _ (Nat.le_of_not_lt hr) ((U.2.2.1 x (Nat.le_of_not_lt hr)).symm.trans hc)
    obtain ⟨ny, f, rfl⟩ := XTc_arr hx
    rcases XTc_int hx with ⟨-, h1, h2⟩ | ⟨-, h1⟩
    · exact va_slen C.1 C.2.1 h1 (Nat.lt_of_lt_of_le h2 C.2.2.2.2.2.2.2.2.2.2.2.2.2.2.2.1) (by unfold regA; omega) U.2.1 hd kk
    · exact va_tlen C.1 C.2.1 h1 U.2.1 rfl hd kk
theorem w_iaload (hd : decode (mrow mt).2.2.1 pc = .ok (.iaload, 1)) (ha : aI mt pc lv st h (.iaload, 1, a, b, v, lab) = some r) (hgo : GoOn d o r) : WS d mt pc lv st h o := by
  obtain ⟨i, t, rfl, ha⟩ := pI_some (show pI st _ = some r from ha)
  obtain ⟨x, t, rfl, ha⟩ := pR_some ha
  obtain ⟨ty, nn, f, hc, ha⟩ := gI_some ha
  obtain ⟨hty, ha⟩ := gT_some ha
  obtain ⟨hin, ha⟩ := gX_some ha
  cases ha
  refine ⟨hgo.1, fun G p l e R s m args below meth c H locs ls k n hc2 hs Q C U L B K => ?_⟩
  have kk := hgo.2 G p l e R s m args below meth c H locs ls k n hc2 hs Q C U L B K
  by_cases hr : x < 1048576
  · obtain ⟨h1, h2, h3⟩ := inW (G := G) U.2.2.2.1 hc hr
    obtain ⟨t0, ht⟩ := tysG_at G h3.1
    rcases hty with rfl | rfl
    · exact va_iald C.1 C.2.1 C.2.2.2.2.2.2.2.2.2.1 U.1 x t0 h1 ht hin hd kk
    · exact absurd h3.1 (show ¬ FieldType.char ∈ tyL by decide)
  · have hx := C.2.2.2.2.2.2.2.2.2.2.2.2.2.2.1 x _ (Nat.le_of_not_lt hr) ((U.2.2.1 x (Nat.le_of_not_lt hr)).symm.trans hc)
    rcases XTc_int hx with ⟨-, h1, h2⟩ | ⟨rfl, h1⟩
    · exact va_sld C.1 C.2.1 h1 (Nat.lt_of_lt_of_le h2 C.2.2.2.2.2.2.2.2.2.2.2.2.2.2.2.1) (by unfold regA; omega) U.2.1 hin hd kk
    · rcases hty with e | e <;> cases e
theorem w_baload (hd : decode (mrow mt).2.2.1 pc = .ok (.baload, 1)) (ha : aI mt pc lv st h (.baload, 1, a, b, v, lab) = some r) (hgo : GoOn d o r) : WS d mt pc lv st h o := by
  obtain ⟨i, t, rfl, ha⟩ := pI_some (show pI st _ = some r from ha)
  obtain ⟨x, t, rfl, ha⟩ := pR_some ha
  obtain ⟨ty, nn, f, hc, ha⟩ := gI_some ha
  obtain ⟨hty, ha⟩ := gT_some ha
  obtain ⟨hin, ha⟩ := gX_some ha
  cases ha
  refine ⟨hgo.1, fun G p l e R s m args below meth c H locs ls k n hc2 hs Q C U L B K => ?_⟩
  have kk := hgo.2 G p l e R s m args below meth c H locs ls k n hc2 hs Q C U L B K
  by_cases hr : x < 1048576
  · obtain ⟨h1, h2, h3⟩ := inW (G := G) U.2.2.2.1 hc hr
    obtain ⟨t0, ht⟩ := tysG_at G h3.1
    rcases hty with rfl | rfl
    · exact va_zald C.1 C.2.1 C.2.2.2.2.2.2.2.2.2.1 U.1 x t0 h1 ht hin hd kk
    · exact absurd h3.1 (show ¬ FieldType.byte ∈ tyL by decide)
  · have hx := C.2.2.2.2.2.2.2.2.2.2.2.2.2.2.1 x _ (Nat.le_of_not_lt hr) ((U.2.2.1 x (Nat.le_of_not_lt hr)).symm.trans hc)
    rcases XTc_int hx with ⟨rfl, h1, h2⟩ | ⟨-, h1⟩
    · rcases hty with e | e <;> cases e
    · exact va_tb C.1 C.2.1 h1 U.2.1 hin rfl hd kk
theorem w_laload (hd : decode (mrow mt).2.2.1 pc = .ok (.laload, 1)) (ha : aI mt pc lv st h (.laload, 1, a, b, v, lab) = some r) (hgo : GoOn d o r) : WS d mt pc lv st h o := by
  obtain ⟨i, t, rfl, ha⟩ := pI_some (show pI st _ = some r from ha)
  obtain ⟨x, t, rfl, ha⟩ := pR_some ha
  obtain ⟨ty, nn, f, hc, ha⟩ := gJ_some ha
  obtain ⟨hty, ha⟩ := gT_some ha
  obtain ⟨hin, ha⟩ := gX_some ha
  cases ha
  subst hty
  refine ⟨hgo.1, fun G p l e R s m args below meth c H locs ls k n hc2 hs Q C U L B K => ?_⟩
  have kk := hgo.2 G p l e R s m args below meth c H locs ls k n hc2 hs Q C U L B K
  by_cases hr : x < 1048576
  · obtain ⟨h1, h2, h3⟩ := inW (G := G) U.2.2.2.1 hc hr
    obtain ⟨t0, ht⟩ := tysG_at G h3.1
    exact va_lald C.1 C.2.1 C.2.2.2.2.2.2.2.2.2.1 U.1 x t0 h1 ht hin hd kk
  · have hx := C.2.2.2.2.2.2.2.2.2.2.2.2.2.2.1 x _ (Nat.le_of_not_lt hr) ((U.2.2.1 x (Nat.le_of_not_lt hr)).symm.trans hc)
    obtain ⟨_, _, e⟩ := XTc_arr hx
    cases e
theorem w_aaload (hd : decode (mrow mt).2.2.1 pc = .ok (.aaload, 1)) (ha : aI mt pc lv st h (.aaload, 1, a, b, v, lab) = some r) (hgo : GoOn d o r) : WS d mt pc lv st h o := by
  obtain ⟨i, t, rfl, ha⟩ := pI_some (show pI st _ = some r from ha)
  obtain ⟨x, t, rfl, ha⟩ := pR_some ha
  obtain ⟨ty, nn, f, hc, ha⟩ := gR_some ha
  obtain ⟨hin, ha⟩ := gX_some ha
  cases ha
  refine ⟨hgo.1, fun G p l e R s m args below meth c H locs ls k n hc2 hs Q C U L B K => ?_⟩
  have kk := hgo.2 G p l e R s m args below meth c H locs ls k n hc2 hs Q C U L B K
  by_cases hr : x < 1048576
  · obtain ⟨h1, h2, h3⟩ := inW (G := G) U.2.2.2.1 hc hr
    obtain ⟨C0, hty⟩ := h3.2
    subst hty
    obtain ⟨t0, ht⟩ := tysG_at G h3.1
    refine va_aldq C.1 C.2.1 C.2.2.2.2.2.2.2.2.2.1 U.1 x t0 h1 ht hin hd ?_
    have he : va_rf ((f (cl i)).map (cvA G)) = cv G (va_rf (f (cl i))) := by cases f (cl i) <;> rfl
    show W p l e R s m args below meth c H locs k n Q (F0 m (pc + 1) ls (va_rf ((f (cl i)).map (cvA G)) :: _))
    rw [he]
    exact kk
  · have hx := C.2.2.2.2.2.2.2.2.2.2.2.2.2.2.1 x _ (Nat.le_of_not_lt hr) ((U.2.2.1 x (Nat.le_of_not_lt hr)).symm.trans hc)
    obtain ⟨_, _, e⟩ := XTc_arr hx
    cases e
theorem w_iastore (hd : decode (mrow mt).2.2.1 pc = .ok (.iastore, 1)) (ha : aI mt pc lv st h (.iastore, 1, a, b, v, lab) = some r) (hgo : GoOn d o r) : WS d mt pc lv st h o := by
  obtain ⟨y, t, rfl, ha⟩ := pI_some (show pI st _ = some r from ha)
  obtain ⟨i, t, rfl, ha⟩ := pI_some ha
  obtain ⟨x, t, rfl, ha⟩ := pR_some ha
  obtain ⟨ty, nn, f, hc, ha⟩ := gI_some ha
  obtain ⟨hty, ha⟩ := gT_some ha
  obtain ⟨hin, ha⟩ := gX_some ha
  cases ha
  subst hty
  refine ⟨hgo.1, fun G p l e R s m args below meth c H locs ls k n hc2 hs Q C U L B K => ?_⟩
  by_cases hr : x < 1048576
  · obtain ⟨h1, h2, h3⟩ := inW (G := G) U.2.2.2.1 hc hr
    obtain ⟨t0, ht⟩ := tysG_at G h3.1
    refine va_iast C.1 C.2.1 C.2.2.2.2.2.2.2.2.2.1 U.1 (wsOf_D G h) U.2.1 x t0 h1 ht hin hd (fun H1 locs1 q1 _ q3 => ?_)
    rw [cvA_lo G hr] at q1
    have q1 : va_P G.2.1 CV (wsOf G (au h x (cI nn (upd f (cl i) y)))) H1 := by rw [← wsOf_set]; exact q1
    exact hgo.2 G p l e R s m args below meth c H1 locs1 ls k n hc2 hs Q C ⟨q1, q3, U.2.2.1.au hr, U.2.2.2.1.au h2 ⟨h3.1, trivial⟩, U.2.2.2.2⟩ L B K
  · have hx := C.2.2.2.2.2.2.2.2.2.2.2.2.2.2.1 x _ (Nat.le_of_not_lt hr) ((U.2.2.1 x (Nat.le_of_not_lt hr)).symm.trans hc)
    rcases XTc_int hx with ⟨e, -⟩ | ⟨e, -⟩ <;> cases e
theorem w_bastore (hd : decode (mrow mt).2.2.1 pc = .ok (.bastore, 1)) (ha : aI mt pc lv st h (.bastore, 1, a, b, v, lab) = some r) (hgo : GoOn d o r) : WS d mt pc lv st h o := by
  obtain ⟨y, t, rfl, ha⟩ := pI_some (show pI st _ = some r from ha)
  obtain ⟨i, t, rfl, ha⟩ := pI_some ha
  obtain ⟨x, t, rfl, ha⟩ := pR_some ha
  obtain ⟨ty, nn, f, hc, ha⟩ := gI_some ha
  obtain ⟨hty, ha⟩ := gT_some ha
  obtain ⟨hin, ha⟩ := gX_some ha
  cases ha
  subst hty
  refine ⟨hgo.1, fun G p l e R s m args below meth c H locs ls k n hc2 hs Q C U L B K => ?_⟩
  by_cases hr : x < 1048576
  · obtain ⟨h1, h2, h3⟩ := inW (G := G) U.2.2.2.1 hc hr
    obtain ⟨t0, ht⟩ := tysG_at G h3.1
    refine va_zast C.1 C.2.1 C.2.2.2.2.2.2.2.2.2.1 U.1 (wsOf_D G h) U.2.1 x t0 h1 ht hin hd (fun H1 locs1 q1 _ q3 => ?_)
    rw [cvA_lo G hr] at q1
    have q1 : va_P G.2.1 CV (wsOf G (au h x (cZ nn (updZ f (cl i) y)))) H1 := by rw [← wsOf_set]; exact q1
    exact hgo.2 G p l e R s m args below meth c H1 locs1 ls k n hc2 hs Q C ⟨q1, q3, U.2.2.1.au hr, U.2.2.2.1.au h2 ⟨h3.1, trivial⟩, U.2.2.2.2⟩ L B K
  · have hx := C.2.2.2.2.2.2.2.2.2.2.2.2.2.2.1 x _ (Nat.le_of_not_lt hr) ((U.2.2.1 x (Nat.le_of_not_lt hr)).symm.trans hc)
    rcases XTc_int hx with ⟨e, -⟩ | ⟨e, -⟩ <;> cases e
theorem w_lastore (hd : decode (mrow mt).2.2.1 pc = .ok (.lastore, 1)) (ha : aI mt pc lv st h (.lastore, 1, a, b, v, lab) = some r) (hgo : GoOn d o r) : WS d mt pc lv st h o := by
  obtain ⟨y, t, rfl, ha⟩ := pJ_some (show pJ st _ = some r from ha)
  obtain ⟨i, t, rfl, ha⟩ := pI_some ha
  obtain ⟨x, t, rfl, ha⟩ := pR_some ha
  obtain ⟨ty, nn, f, hc, ha⟩ := gJ_some ha
  obtain ⟨hty, ha⟩ := gT_some ha
  obtain ⟨hin, ha⟩ := gX_some ha
  cases ha
  subst hty
  refine ⟨hgo.1, fun G p l e R s m args below meth c H locs ls k n hc2 hs Q C U L B K => ?_⟩
  by_cases hr : x < 1048576
  · obtain ⟨h1, h2, h3⟩ := inW (G := G) U.2.2.2.1 hc hr
    obtain ⟨t0, ht⟩ := tysG_at G h3.1
    refine va_last C.1 C.2.1 C.2.2.2.2.2.2.2.2.2.1 U.1 (wsOf_D G h) U.2.1 x t0 h1 ht hin hd (fun H1 locs1 q1 _ q3 => ?_)
    rw [cvA_lo G hr] at q1
    have q1 : va_P G.2.1 CV (wsOf G (au h x (cJ nn (vp_updL f (cl i) y)))) H1 := by rw [← wsOf_set]; exact q1
    exact hgo.2 G p l e R s m args below meth c H1 locs1 ls k n hc2 hs Q C ⟨q1, q3, U.2.2.1.au hr, U.2.2.2.1.au h2 ⟨h3.1, trivial⟩, U.2.2.2.2⟩ L B K
  · have hx := C.2.2.2.2.2.2.2.2.2.2.2.2.2.2.1 x _ (Nat.le_of_not_lt hr) ((U.2.2.1 x (Nat.le_of_not_lt hr)).symm.trans hc)
    obtain ⟨_, _, e⟩ := XTc_arr hx
    cases e
theorem w_aastore (hd : decode (mrow mt).2.2.1 pc = .ok (.aastore, 1)) (ha : aI mt pc lv st h (.aastore, 1, a, b, v, lab) = some r) (hgo : GoOn d o r) : WS d mt pc lv st h o := by
  obtain ⟨y, t, rfl, ha⟩ := pR_some (show pR st _ = some r from ha)
  obtain ⟨i, t, rfl, ha⟩ := pI_some ha
  obtain ⟨x, t, rfl, ha⟩ := pR_some ha
  obtain ⟨ty, nn, f, hc, ha⟩ := gR_some ha
  obtain ⟨ci, fs, hcy, ha⟩ := gO_some ha
  obtain ⟨C0, rfl, ha⟩ := gC_some ha
  obtain ⟨⟨hC0, h13⟩, ha⟩ := gT_some ha
  obtain ⟨hin, ha⟩ := gX_some ha
  cases ha
  subst hC0
  refine ⟨hgo.1, fun G p l e R s m args below meth c H locs ls k n hc2 hs Q C U L B K => ?_⟩
  have hy : y < 1048576 := by
    by_cases hr : y < 1048576
    · exact hr
    · have hx := C.2.2.2.2.2.2.2.2.2.2.2.2.2.2.1 y _ (Nat.le_of_not_lt hr) ((U.2.2.1 y (Nat.le_of_not_lt hr)).symm.trans hcy)
      obtain ⟨rfl, -⟩ := XTc_obj hx
      omega
  by_cases hr : x < 1048576
  · obtain ⟨h1, h2, h3⟩ := inW (G := G) U.2.2.2.1 hc hr
    obtain ⟨g1, g2, g3⟩ := inW (G := G) U.2.2.2.1 hcy hy
    obtain ⟨t0, ht⟩ := tysG_at G h3.1
    refine va_astq (r := clsT ci) C.1 C.2.1 C.2.2.2.2.2.2.2.2.2.1 U.1 (wsOf_D G h) U.2.1 x t0 y ci h1 ht g1 (CV_at (show ci < 14 by omega)) hin hd (fun H1 locs1 q1 _ q3 => ?_)
    rw [cvA_lo G hr] at q1
    have he : va_up (fun i => (f i).map (cvA G)) i.toNatClampNeg (some (cvA G y)) = fun j => (va_up f (cl i) (some y) j).map (cvA G) := by
      funext j
      unfold va_up cl
      split <;> rfl
    rw [he] at q1
    have q1 : va_P G.2.1 CV (wsOf G (au h x (cR (clsT ci).1 nn (va_up f (cl i) (some y))))) H1 := by rw [← wsOf_set]; exact q1
    exact hgo.2 G p l e R s m args below meth c H1 locs1 ls k n hc2 hs Q C ⟨q1, q3, U.2.2.1.au hr, U.2.2.2.1.au h2 h3, U.2.2.2.2⟩ L B K
  · have hx := C.2.2.2.2.2.2.2.2.2.2.2.2.2.2.1 x _ (Nat.le_of_not_lt hr) ((U.2.2.1 x (Nat.le_of_not_lt hr)).symm.trans hc)
    obtain ⟨_, _, e⟩ := XTc_arr hx
    cases e
theorem w_checkcast {j : Nat} (hd : decode (mrow mt).2.2.1 pc = .ok (.checkcast j, 3)) (hj : (mrow mt).1 = 16 ∧ j = 317) (ha : aI mt pc lv st h (.checkcast j, 3, a, b, v, lab) = some r) (hgo : GoOn d o r) : WS d mt pc lv st h o := by
  obtain ⟨x, t, rfl, ha⟩ := pR_some (show pR st _ = some r from ha)
  obtain ⟨ty, nn, f, hc, ha⟩ := gI_some ha
  obtain ⟨hty, ha⟩ := gT_some ha
  cases ha
  subst hty
  refine ⟨hgo.1, fun G p l e R s m args below meth c H locs ls k n hc2 hs Q C U L B K => ?_⟩
  have kk := hgo.2 G p l e R s m args below meth c H locs ls k n hc2 hs Q C U L B K
  by_cases hr : x < 1048576
  · obtain ⟨h1, h2, h3⟩ := inW (G := G) U.2.2.2.1 hc hr
    obtain ⟨t0, ht⟩ := tysG_at G h3.1
    have hl := C.2.2.2.2.2.2.1 (.classLink (ownN (mrow mt).1) j "[I") (by rw [hj.1, hj.2]; exact atW_good (p := 799) (by decide +kernel) rfl)
    exact va_castA C.1 C.2.1 C.2.2.2.1 hl U.1 x h1 (C.2.2.2.2.2.2.2.2.2.1.2 t0 _ ht).2 hd kk
  · have hx := C.2.2.2.2.2.2.2.2.2.2.2.2.2.2.1 x _ (Nat.le_of_not_lt hr) ((U.2.2.1 x (Nat.le_of_not_lt hr)).symm.trans hc)
    rcases XTc_int hx with ⟨e, -⟩ | ⟨e, -⟩ <;> cases e
/-- what was made is the next cell -/
theorem new_at {G : GG} {h : AH} {s : State} {H H1 : Heap} {locs : List Loc} {k n hc hs q : Nat} {c : va_E} (U : Cur G h s H locs k n hc hs) (hP : va_P G.2.1 CV (wsOf G h ++ [(q, c)]) H1) (hD : va_D (regA G) (wsOf G h ++ [(q, c)])) (hz : H1.size ≤ s.heap.size + (k + 1)) : q = G.1 + h.1 := by
  have hl : (wsOf G h).length = h.1 := by simp [wsOf]
  have hk : (wsOf G h ++ [(q, c)])[h.1]? = some (q, c) := by rw [List.getElem?_append_right (by omega), hl]; simp
  have h1 : q < H1.size := (hP _ _ hk).lt
  have h2 : G.1 ≤ q := hD.2 _ _ hk
  have h3 := U.2.2.2.2.1
  have h4 := U.2.2.2.2.2.2
  by_cases hlt : q < G.1 + h.1
  · obtain ⟨c', hc'⟩ := U.2.2.2.1.2.1 (q - G.1) (by omega)
    have h5 := wsOf_at (G := G) hc' (by omega)
    have h6 : (wsOf G h ++ [(q, c)])[q - G.1]? = some (G.1 + (q - G.1), conv G c') := by rw [List.getElem?_append_left (by omega)]; exact h5
    have := hD.1 _ _ _ _ hk h6 (by show q = _; omega)
    omega
  · omega
theorem Cur.an {G : GG} {h : AH} {s : State} {H H1 : Heap} {locs locs1 : List Loc} {k n hc hs q nn : Nat} {c : AC} (U : Cur G h s H locs k n hc hs) (hq : q = G.1 + h.1) (hP : va_P G.2.1 CV (wsOf G h ++ [(q, conv G c)]) H1) (hS : va_S (regA G) s.heap H1 locs1) (hc' : okC c) (hz : h.1 < 700000) : Cur G (an h nn c) s H1 locs1 (k + 1) (n + nn) hc hs := by
  subst hq
  rw [wsOf_app nn c] at hP
  obtain ⟨-, -, h3, h4, h5, h6, h7⟩ := U
  exact ⟨hP, hS, h3.an (by omega), h4.an hc' hz, by show h.1 + 1 = _; omega, by show h.2.1 + nn = _; omega, h7⟩
theorem NL_at {o ix a : Nat} (h : inN o ix a = true) : Cond.classLink (ownN o) ix (clsT a).1 ∈ TBg := by
  obtain ⟨q, hq, hb⟩ := List.any_eq_true.mp h
  simp only [Bool.and_eq_true, beq_iff_eq] at hb
  obtain ⟨rfl, rfl, rfl⟩ := hb
  exact atW_good (List.all_eq_true.mp NL_ok q hq) rfl
theorem DFT_ok : ∀ c, c < 13 → ∀ k, k < (clsT c).2.2 → defaultValue (tyF c k) = vp_V (DFT.getD c []) k := by decide +kernel
def noR (w : Value) : Bool := match w with
  | .ref _ => false
  | _ => true
theorem DFT_cv : ∀ c, c < 13 → (DFT.getD c []).all noR = true := by decide +kernel
theorem DFT_map (G : GG) {c : Nat} (h : c < 13) : (DFT.getD c []).map (cv G) = DFT.getD c [] := by
  have := List.all_eq_true.mp (DFT_cv c h)
  generalize DFT.getD c [] = l at this ⊢
  induction l with
  | nil => rfl
  | cons w t ih =>
    rw [List.map_cons, ih (fun x hx => this x (List.mem_cons_of_mem _ hx))]
    have hw := this w List.mem_cons_self
    cases w <;> first | rfl | cases hw
theorem w_new {j : Nat} (hd : decode (mrow mt).2.2.1 pc = .ok (.new j, 3)) (hN : inN (mrow mt).1 j a = true) (hb : b = (clsT a).2.2) (h13 : a < 13) (ha : aI mt pc lv st h (.new j, 3, a, b, v, lab) = some r) (hgo : GoOn d o r) : WS d mt pc lv st h o := by
  obtain ⟨hz, ha⟩ := gT_some (show gT (h.1 < 700000) _ = some r from ha)
  cases ha
  have hg1 : h.1 + 1 ≤ o.2.1 ∧ h.2.1 + b ≤ o.2.2.1 := hgo.1
  refine ⟨⟨by omega, by omega⟩, fun G p l e R s m args below meth c H locs ls k n hc hs Q C U L B K => ?_⟩
  have hcw := cls_words h13
  have hu1 := U.2.2.2.2.1
  have hu2 := U.2.2.2.2.2.1
  have hb1 := B.1
  have hb2 := B.2
  refine va_new (ci := a) (T := (clsT a).2.1) (N := (clsT a).2.2) (C := (clsT a).1) (fs := DFT.getD a []) C.1 C.2.1 C.2.2.2.2.2.2.1 (lay_in (by omega)) (tyF a) (tyF_ok h13) C.2.2.2.1 (C.2.2.2.2.2.2.1 _ (NL_at hN)) (C.2.2.2.2.2.2.1 _ hcw.1) (C.2.2.2.2.2.2.1 _ hcw.2) C.2.2.2.2.2.2.2.2.2.1 U.1 (wsOf_D G h) U.2.1 (fun q hq => Nat.le_trans C.2.2.2.2.2.2.2.2.2.2.2.2.2.2.2.1 hq) (CV_at (by omega)) (DFT_ok a h13) (by omega) (by omega) hd (fun q H1 hP hD hS => ?_)
  refine W_sz fun hz1 => ?_
  have hq := new_at U hP hD hz1
  have he : conv G (cO a (DFT.getD a [])) = .inr (a, DFT.getD a []) := by show Sum.inr _ = _; rw [DFT_map G h13]
  rw [← he] at hP
  have hU := U.an (nn := b) hq hP hS (show a < 14 by omega) hz
  subst hb
  have := hgo.2 G p l e R s m args below meth c H1 locs ls (k + 1) (n + (clsT a).2.2) hc hs Q C hU L B K
  have e2 : cv G (.ref h.1) = .ref q := by show Value.ref (cvA G h.1) = _; rw [cvA_lo G (by omega), hq]
  rw [List.map_cons, e2] at this
  exact this
theorem w_newarr {t : ArrayType} {ty : FieldType} {N : Nat} {i : Int32} {x : AC} {a0 : vp_A} {st1 : List Value} (hx : x = .inl (ty, a0)) (hcv : ∀ G : GG, conv G x = .inl (G.2.2.1 ty, a0)) (hty : newarray.typeOf t = ty) (hm : ty ∈ tyL) (hok : okC x) (hw : Cond.arrayClass ty ∈ TBg) (hcell : ∀ cA : ClassId, vp_cell cA a0 = arrV cA N (fun _ => defaultValue ty)) (hby : N * componentBytes ty ≤ 536870912) (hi : ¬ i < 0) (hN : i.toNatClampNeg = N) (hz : h.1 < 700000) (hd : decode (mrow mt).2.2.1 pc = .ok (.newarray t, 2)) (hgo : WS d mt (pc + 2) lv (.ref h.1 :: st1) (an h N x) o) : WS d mt pc lv (.int i :: st1) h o := by
  have hg1 : h.1 + 1 ≤ o.2.1 ∧ h.2.1 + N ≤ o.2.2.1 := hgo.1
  refine ⟨⟨by omega, by omega⟩, fun G p l e R s m args below meth c H locs ls k n hc hs Q C U L B K => ?_⟩
  have hu1 := U.2.2.2.2.1
  have hu2 := U.2.2.2.2.2.1
  have hb1 := B.1
  have hb2 := B.2
  refine va_newa (a0 := a0) C.1 C.2.1 (C.2.2.2.2.2.2.1 _ (by rw [hty]; exact hw)) hty C.2.2.2.2.2.2.2.2.2.1 U.1 (wsOf_D G h) U.2.1 (fun q hq => Nat.le_trans C.2.2.2.2.2.2.2.2.2.2.2.2.2.2.2.1 hq) hcell hi hN hby (by omega) (by omega) hd (fun q cA H1 hK hP hD hS => ?_)
  refine W_sz fun hz1 => ?_
  have hq := new_at U hP hD hz1
  have hcA := ty_cA C.2.2.2.2.2.2.2.2.2.1 hK hm
  subst hcA
  rw [← hcv G] at hP
  have hU := U.an (nn := N) hq hP hS hok hz
  have := hgo.2 G p l e R s m args below meth c H1 locs ls (k + 1) (n + N) hc hs Q C hU L B K
  have e2 : cv G (.ref h.1) = .ref q := by show Value.ref (cvA G h.1) = _; rw [cvA_lo G (by omega), hq]
  rw [List.map_cons, e2] at this
  exact this
theorem aw_int : Cond.arrayClass .int ∈ TBg := atW_good (p := 238) (by decide +kernel) rfl
theorem aw_long : Cond.arrayClass .long ∈ TBg := atW_good (p := 316) (by decide +kernel) rfl
theorem aw_bool : Cond.arrayClass .boolean ∈ TBg := atW_good (p := 317) (by decide +kernel) rfl
theorem w_newarray {t : ArrayType} (hd : decode (mrow mt).2.2.1 pc = .ok (.newarray t, 2)) (ht : t = .int ∨ t = .boolean ∨ t = .long) (ha : aI mt pc lv st h (.newarray t, 2, a, b, v, lab) = some r) (hgo : GoOn d o r) : WS d mt pc lv st h o := by
  obtain ⟨i, t1, rfl, ha⟩ := pI_some (show pI st _ = some r from ha)
  obtain ⟨⟨hz, hi, hl⟩, ha⟩ := gT_some ha
  rcases ht with rfl | rfl | rfl <;> cases ha
  · exact w_newarr (x := cI (cl i) (fun _ => 0)) (a0 := (cl i, .inl fun _ => 0)) rfl (fun _ => rfl) rfl (by decide) ⟨by decide, trivial⟩ aw_int (fun _ => rfl) (by show cl i * 4 ≤ _; omega) hi rfl hz hd hgo
  · exact w_newarr (x := cZ (cl i) (fun _ => 0)) (a0 := (cl i, .inl fun _ => 0)) rfl (fun _ => rfl) rfl (by decide) ⟨by decide, trivial⟩ aw_bool (fun _ => rfl) (by show cl i * 1 ≤ _; omega) hi rfl hz hd hgo
  · exact w_newarr (x := cJ (cl i) (fun _ => 0)) (a0 := (cl i, .inr (.inl fun _ => 0))) rfl (fun _ => rfl) rfl (by decide) ⟨by decide, trivial⟩ aw_long (fun _ => rfl) (by show cl i * 8 ≤ _; omega) hi rfl hz hd hgo
theorem w_anewarray {j : Nat} (hd : decode (mrow mt).2.2.1 pc = .ok (.anewarray j, 3)) (hN : inN (mrow mt).1 j a = true) (h3 : a = 2 ∨ a = 4 ∨ a = 5) (ha : aI mt pc lv st h (.anewarray j, 3, a, b, v, lab) = some r) (hgo : GoOn d o r) : WS d mt pc lv st h o := by
  obtain ⟨i, t1, rfl, ha⟩ := pI_some (show pI st _ = some r from ha)
  obtain ⟨⟨hz, hi, hl⟩, ha⟩ := gT_some ha
  cases ha
  have hg1 : h.1 + 1 ≤ o.2.1 ∧ h.2.1 + cl i ≤ o.2.2.1 := hgo.1
  refine ⟨⟨by omega, by omega⟩, fun G p l e R s m args below meth c H locs ls k n hc hs Q C U L B K => ?_⟩
  have hu1 := U.2.2.2.2.1
  have hu2 := U.2.2.2.2.2.1
  have hb1 := B.1
  have hb2 := B.2
  have hm : FieldType.object (clsT a).1 ∈ tyL := by rcases h3 with rfl | rfl | rfl <;> decide +kernel
  have hao : va_AO (clsT a).1 s := va_AO.of (A := #[]) (C.2.2.2.2.2.2.2.1 (.arrayOver (.object (clsT a).1)) (by
    rcases h3 with rfl | rfl | rfl
    · exact atW_nw (p := 475) (by decide +kernel) rfl
    · exact atW_nw (p := 240) (by decide +kernel) rfl
    · exact atW_nw (p := 401) (by decide +kernel) rfl))
  refine va_newq (N' := cl i) (C := (clsT a).1) C.1 C.2.1 C.2.2.2.1 (C.2.2.2.2.2.2.1 _ (NL_at hN)) hao C.2.2.2.2.2.2.2.2.2.1 U.1 (wsOf_D G h) U.2.1 (fun q hq => Nat.le_trans C.2.2.2.2.2.2.2.2.2.2.2.2.2.2.2.1 hq) hi (rfl : i.toNatClampNeg = cl i) (by omega) (by omega) (by omega) hd (fun q cA H1 hK hP hD hS => ?_)
  refine W_sz fun hz1 => ?_
  have hq := new_at U hP hD hz1
  have hcA := ty_cA C.2.2.2.2.2.2.2.2.2.1 hK hm
  subst hcA
  have hU := U.an (nn := cl i) (c := cR (clsT a).1 (cl i) (fun _ => none)) hq hP hS ⟨hm, _, rfl⟩ hz
  have := hgo.2 G p l e R s m args below meth c H1 locs ls (k + 1) (n + cl i) hc hs Q C hU L B K
  have e2 : cv G (.ref h.1) = .ref q := by show Value.ref (cvA G h.1) = _; rw [cvA_lo G (by omega), hq]
  rw [List.map_cons, e2] at this
  exact this
end WH
