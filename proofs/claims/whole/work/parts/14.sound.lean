/-! THE WHOLE MACHINE -/
section WX
variable {d mt pc a b : Nat} {lv : LV} {st : List Value} {h : AH} {v : Value} {lab : Option (List Bool)} {o : OU} {r : AT}
theorem w_objinit {j : Nat} (hd : decode (mrow mt).2.2.1 pc = .ok (.invokespecial j, 3)) (hm : inM (mrow mt).1 j 9000 = true) (ha : aI mt pc lv st h (.invokespecial j, 3, 9000, b, v, lab) = some r) (hgo : GoOn d o r) : WS d mt pc lv st h o := by
  obtain ⟨x, t, rfl, ha⟩ := pR_some (show pR st (fun _ st => gT (st.length ≤ 12) (nx mt (pc + 3) lv st h)) = some r from ha)
  obtain ⟨hl, ha⟩ := gT_some ha
  cases ha
  refine ⟨hgo.1, fun G p l e R s m args below meth c H locs ls k n hc hs Q C U L B K => ?_⟩
  have hT := C.2.2.2.2.2.2.1
  have hfr := C.2.2.2.2.2.2.2.2.2.2.2.2.1
  have hlo := C.2.2.2.2.2.2.2.2.2.2.2.2.2.1
  have h1 := cat_sum (t.map (cv G))
  rw [List.length_map] at h1
  have hml := ML_at0 hm (by omega)
  · refine W.objInit C.1 C.2.1 C.2.2.2.1 (hT _ hml) (hT _ (atW_good (p := 198) (by decide +kernel) rfl)) (hT _ (atW_good (p := 199) (by decide +kernel) rfl)) rfl (L.1.trans C.2.2.1.symm) rfl hd (by omega) (by show 2 * 0 + _ + 12 ≤ _; omega) ?_
    exact hgo.2 G p l e R s m args below meth c H locs ls k n hc hs Q C U L B K
theorem w_clone {j : Nat} (hd : decode (mrow mt).2.2.1 pc = .ok (.invokevirtual j, 3)) (hm : inM (mrow mt).1 j 9003 = true) (ha : aI mt pc lv st h (.invokevirtual j, 3, 9003, b, v, lab) = some r) (hgo : GoOn d o r) : WS d mt pc lv st h o := by
  obtain ⟨x, t, rfl, ha⟩ := pR_some (show pR st (fun r st => gI (ag h r) fun ty n f => gT (ty = .int ∧ h.1 < 700000 ∧ st.length ≤ 12) (nx mt (pc + 3) lv (.ref h.1 :: st) (an h n (cI n f)))) = some r from ha)
  obtain ⟨ty, nn, f, hc0, ha⟩ := gI_some ha
  obtain ⟨⟨hty, hz, hl⟩, ha⟩ := gT_some ha
  cases ha
  subst hty
  have hg1 : h.1 + 1 ≤ o.2.1 ∧ h.2.1 + nn ≤ o.2.2.1 := hgo.1
  refine ⟨⟨by omega, by omega⟩, fun G p l e R s m args below meth c H locs ls k n hc hs Q C U L B K => ?_⟩
  have hT := C.2.2.2.2.2.2.1
  have hfr := C.2.2.2.2.2.2.2.2.2.2.2.2.1
  have hlo := C.2.2.2.2.2.2.2.2.2.2.2.2.2.1
  have hu1 := U.2.2.2.2.1
  have hu2 := U.2.2.2.2.2.1
  have hb1 := B.1
  have hb2 := B.2
  have h1 := cat_sum (t.map (cv G))
  rw [List.length_map] at h1
  by_cases hr : x < 1048576
  · obtain ⟨g1, g2, g3⟩ := inW (G := G) U.2.2.2.1 hc0 hr
    obtain ⟨t0, ht⟩ := tysG_at G g3.1
    have hml := ML_at0 hm (by omega)
    · refine va_clone (ad := "[I") C.1 C.2.1 (L.1.trans C.2.2.1.symm).symm C.2.2.2.1 (hT _ hml) (hT _ (atW_good (p := 794) (by decide +kernel) rfl)) (hT _ (atW_good (p := 795) (by decide +kernel) rfl)) (hT _ (atW_good (p := 796) (by decide +kernel) rfl)) (hT _ (atW_good (p := 797) (by decide +kernel) rfl)) (C.2.2.2.2.2.2.2.1 _ (atW_nw (p := 798) (by decide +kernel) rfl)) C.2.2.2.2.2.2.2.2.2.1 U.1 (wsOf_D G h) U.2.1 (fun q hq => Nat.le_trans C.2.2.2.2.2.2.2.2.2.2.2.2.2.2.2.1 hq) x t0 g1 ht (C.2.2.2.2.2.2.2.2.2.1.2 t0 _ ht).2 ?_ (by omega) (by omega) (by omega) (by show n + nn ≤ _; omega) hd (fun q H1 hK hP hD hS => ?_)
      · intro i w hw
        have hw : (arrV (G.2.2.1 .int) nn (fun j => .int (f j))).slots[i]? = some w := hw
        have hi : i < nn := by
          have := (Array.getElem?_eq_some_iff.mp hw).1
          rwa [arrV_size] at this
        rw [arrV_read _ _ hi] at hw
        cases hw
        rfl
      · refine W_sz fun hz1 => ?_
        have hq := new_at U hP hD hz1
        have hU := U.an (nn := nn) (c := cI nn f) hq hP hS ⟨by decide, trivial⟩ hz
        have := hgo.2 G p l e R s m args below meth c H1 locs ls (k + 1) (n + nn) hc hs Q C hU L B K
        have e2 : cv G (.ref h.1) = .ref q := by show Value.ref (cvA G h.1) = _; rw [cvA_lo G (by omega), hq]
        rw [List.map_cons, e2] at this
        exact this
  · have hx := C.2.2.2.2.2.2.2.2.2.2.2.2.2.2.1 x _ (Nat.le_of_not_lt hr) ((U.2.2.1 x (Nat.le_of_not_lt hr)).symm.trans hc0)
    rcases XTc_int hx with ⟨e, -⟩ | ⟨e, -⟩ <;> cases e
theorem nfw : nativeFrameWords "java/lang/System" "arraycopy" 5 ≤ 60 := by decide +kernel
theorem w_arraycopy {j : Nat} (hd : decode (mrow mt).2.2.1 pc = .ok (.invokestatic j, 3)) (hm : inM (mrow mt).1 j 9001 = true) (ha : aI mt pc lv st h (.invokestatic j, 3, 9001, b, v, lab) = some r) (hgo : GoOn d o r) : WS d mt pc lv st h o := by
  have ha : cpyB h st (fun st h => gT (st.length ≤ 12) (nx mt (pc + 3) lv st h)) = some r := ha
  unfold cpyB at ha
  obtain ⟨i, t1, e1, ha⟩ := pI_some ha
  obtain ⟨dp, t2, e2, ha⟩ := pI_some ha
  obtain ⟨y, t3, e3, ha⟩ := pR_some ha
  obtain ⟨sp, t4, e4, ha⟩ := pI_some ha
  obtain ⟨x, t, e5, ha⟩ := pR_some ha
  subst e5
  subst e4
  subst e3
  subst e2
  subst e1
  obtain ⟨⟨p1, p2, p3⟩, ha⟩ := gT_some ha
  have key : ∀ (G : GG) (p : Program) (l : Launch) (R : Room) (s : State) (m : MethodId) (args : Array Value) (meth : Method) (c : Code) (H : Heap) (locs : List Loc) (k n hc hs q : Nat) (cc : AC), Ctx G mt d p l R s m args meth c → Cur G h s H locs k n hc hs → ag h q = some cc → (∃ nn f, cc = .inl (.int, nn, .inl f) ∨ ∃ g, cc = .inl (.long, nn, .inr (.inl g))) → q < 1048576 := by
    intro G p l R s m args meth c H locs k n hc hs q cc C U hq hcc
    by_cases hr : q < 1048576
    · exact hr
    · have hx := C.2.2.2.2.2.2.2.2.2.2.2.2.2.2.1 q _ (Nat.le_of_not_lt hr) ((U.2.2.1 q (Nat.le_of_not_lt hr)).symm.trans hq)
      obtain ⟨nn, f, rfl | ⟨g, rfl⟩⟩ := hcc
      · rcases XTc_int hx with ⟨e, -⟩ | ⟨e, -⟩ <;> cases e
      · obtain ⟨_, _, e⟩ := XTc_arr hx
        cases e
  have hml := ML_at0 hm (by omega)
  · split at ha
    · rename_i n0 f n1 g hx hy
      obtain ⟨⟨b1, b2⟩, ha⟩ := gT_some ha
      obtain ⟨hl, ha⟩ := gT_some ha
      cases ha
      refine ⟨hgo.1, fun G p l e R s m args below meth c H locs ls k n hc hs Q C U L B K => ?_⟩
      have hT := C.2.2.2.2.2.2.1
      have hfr := C.2.2.2.2.2.2.2.2.2.2.2.2.1
      have hlo := C.2.2.2.2.2.2.2.2.2.2.2.2.2.1
      have h1 := cat_sum (t.map (cv G))
      rw [List.length_map] at h1
      have hrx := key G p l R s m args meth c H locs k n hc hs x _ C U hx ⟨n0, f, Or.inl rfl⟩
      have hry := key G p l R s m args meth c H locs k n hc hs y _ C U hy ⟨n1, g, Or.inl rfl⟩
      obtain ⟨g1, g2, g3⟩ := inW (G := G) U.2.2.2.1 hx hrx
      obtain ⟨g4, g5, g6⟩ := inW (G := G) U.2.2.2.1 hy hry
      obtain ⟨t0, ht⟩ := tysG_at G g3.1
      have hnw := nfw
      refine va_copyi C.1 C.2.1 (L.1.trans C.2.2.1.symm).symm C.2.2.2.1 (hT _ hml) (hT _ (atW_good (p := 803) (by decide +kernel) rfl)) (hT _ (atW_good (p := 802) (by decide +kernel) rfl)) (hT _ (atW_good (p := 186) (by decide +kernel) rfl)) C.2.2.2.2.2.2.2.2.2.1 U.1 (wsOf_D G h) U.2.1 x y t0 t0 g1 g4 ht ht rfl p1 p2 p3 b1 b2 (fun _ _ => rfl) (by omega) (by omega) hd (fun H1 locs1 q1 _ q3 => ?_)
      rw [cvA_lo G hry] at q1
      have q1 : va_P G.2.1 CV (wsOf G (au h y (cI n1 (va_cpy f g (cl sp) (cl dp) (cl i))))) H1 := by rw [← wsOf_set]; exact q1
      exact hgo.2 G p l e R s m args below meth c H1 locs1 ls k n hc hs Q C ⟨q1, q3, U.2.2.1.au hry, U.2.2.2.1.au g5 ⟨g6.1, trivial⟩, U.2.2.2.2⟩ L B K
    · rename_i n0 f n1 g hx hy
      obtain ⟨⟨b1, b2⟩, ha⟩ := gT_some ha
      obtain ⟨hl, ha⟩ := gT_some ha
      cases ha
      refine ⟨hgo.1, fun G p l e R s m args below meth c H locs ls k n hc hs Q C U L B K => ?_⟩
      have hT := C.2.2.2.2.2.2.1
      have hfr := C.2.2.2.2.2.2.2.2.2.2.2.2.1
      have hlo := C.2.2.2.2.2.2.2.2.2.2.2.2.2.1
      have h1 := cat_sum (t.map (cv G))
      rw [List.length_map] at h1
      have hrx := key G p l R s m args meth c H locs k n hc hs x _ C U hx ⟨n0, fun _ => 0, Or.inr ⟨f, rfl⟩⟩
      have hry := key G p l R s m args meth c H locs k n hc hs y _ C U hy ⟨n1, fun _ => 0, Or.inr ⟨g, rfl⟩⟩
      obtain ⟨g1, g2, g3⟩ := inW (G := G) U.2.2.2.1 hx hrx
      obtain ⟨g4, g5, g6⟩ := inW (G := G) U.2.2.2.1 hy hry
      obtain ⟨t0, ht⟩ := tysG_at G g3.1
      have hnw := nfw
      refine va_copyl C.1 C.2.1 (L.1.trans C.2.2.1.symm).symm C.2.2.2.1 (hT _ hml) (hT _ (atW_good (p := 803) (by decide +kernel) rfl)) (hT _ (atW_good (p := 802) (by decide +kernel) rfl)) (hT _ (atW_good (p := 186) (by decide +kernel) rfl)) C.2.2.2.2.2.2.2.2.2.1 U.1 (wsOf_D G h) U.2.1 x y t0 t0 g1 g4 ht ht rfl p1 p2 p3 b1 b2 (fun _ _ => rfl) (by omega) (by omega) hd (fun H1 locs1 q1 _ q3 => ?_)
      rw [cvA_lo G hry] at q1
      have q1 : va_P G.2.1 CV (wsOf G (au h y (cJ n1 (va_cpy f g (cl sp) (cl dp) (cl i))))) H1 := by rw [← wsOf_set]; exact q1
      exact hgo.2 G p l e R s m args below meth c H1 locs1 ls k n hc hs Q C ⟨q1, q3, U.2.2.1.au hry, U.2.2.2.1.au g5 ⟨g6.1, trivial⟩, U.2.2.2.2⟩ L B K
    · cases ha
theorem WS_trim (hw : WS d mt pc (trimO lab lv) st h o) : WS d mt pc lv st h o := by
  refine ⟨hw.1, fun G p l e R s m args below meth c H locs ls k n hc hs Q C U L B K => ?_⟩
  refine hw.2 G p l e R s m args below meth c H locs ls k n hc hs Q C U ⟨L.1, L.2.1, fun q hq => L.2.2 q ?_⟩ B K
  cases lab with
  | none => exact hq
  | some bs => exact prs_trim bs lv 0 q hq
end WX
