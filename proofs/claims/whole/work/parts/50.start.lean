/-! FROM THE STATEMENT'S START TO THE ABSTRACT MACHINE'S -/
theorem eqR {args : Array Value} {s : State} {t u : Term} {a b : Nat} (h : (Cond.eq t u).before args s = true) (ht : t.eval args s none [] s = some (.ref a)) (hu : u.eval args s none [] s = some (.ref b)) : a = b := by
  simpa [Cond.before, Cond.holds, Cond.value, ht, hu] using h
def tmT : Nat → Term
  | 0 => .string "RoundMaps$Reader" 88
  | 1 => .string "RoundMapsModel" 71
  | 2 => .string "RoundMapsModel" 86
  | 3 => .string "RoundMapsModel" 99
  | 4 => .string "RoundMapsModel" 101
  | _ => .string "RoundMapsModel" 106
def vaT (t : Nat) : Term := .field (tmT t) "java/lang/String" "value" "[B"
def NC : Cond := Jvm.Cond.and given_1 narrow_1
theorem nc_ex : ∀ t, t < 6 → Cond.exactly (tmT t) "java/lang/String" ∈ flatC NC := by decide +kernel
theorem nc_co : ∀ t, t < 6 → Cond.eq (.field (tmT t) "java/lang/String" "coder" "B") (.int 0) ∈ flatC NC := by decide +kernel
theorem nc_ar : ∀ t, t < 6 → Cond.arrayOf (vaT t) .byte ∈ flatC NC := by decide +kernel
theorem nc_le : ∀ t, t < 6 → Cond.eq (.length (vaT t)) (.int (Int32.ofNat (bytT t).length)) ∈ flatC NC := by decide +kernel
theorem nc_el : ∀ t, t < 6 → ∀ j, j < (bytT t).length → Cond.eq (.elem (vaT t) (.int (Int32.ofNat j))) (.int ((bytT t).getD j 0)) ∈ flatC NC := by decide +kernel
theorem nc_84 : Cond.eq (.string "RoundMaps$Reader" 88) (.string "RoundMapsModel" 84) ∈ flatC NC := by decide +kernel
theorem nc_x84 : Cond.exactly (.string "RoundMapsModel" 84) "java/lang/String" ∈ flatC NC := by decide +kernel
theorem nc_cs : Cond.eq (.static "java/lang/String" "COMPACT_STRINGS" "Z") (.int 1) ∈ flatC NC := by decide +kernel
theorem nc_us : Cond.isRef (.static Bundle.tN "UNASSIGNED_STACK" Bundle.steD) ∈ flatC NC := by decide +kernel
theorem nc_ss : Cond.isRef (.static Bundle.tN "SUPPRESSED_SENTINEL" Bundle.listD) ∈ flatC NC := by decide +kernel
theorem txt_of {args : Array Value} {s : State} {A : Nat → Prop} (hA : ∀ a : Nat, a < s.heap.size → ¬ A a) (hs : ∀ w ∈ flatC NC, w.before args s = true) (t : Nat) (ht : t < 6) :
    ∃ a b : Nat, (tmT t).eval args s none [] s = some (.ref a) ∧ va_O "java/lang/String" a A s s.heap ∧ va_OF "java/lang/String" "value" "[B" (.ref b) a A s s.heap ∧ va_OF "java/lang/String" "coder" "B" (.int 0) a A s s.heap ∧ va_T .byte b (bytT t).length (fun j => .int ((bytT t).getD j 0)) A s s.heap := by
  obtain ⟨a, c, cA, kA, q1, -⟩ := Cond.exactly_spec (args := args) (first := s) (o := none) (s := s) (idx := []) (t := tmT t) (cls := "java/lang/String") (hs _ (nc_ex t ht))
  have hN : (bytT t).length < 2 ^ 31 := by
    have : ∀ t, t < 6 → (bytT t).length < 2 ^ 31 := by decide +kernel
    exact this t ht
  obtain ⟨b, e1, e2⟩ := va_Tof (tm := vaT t) hN (hs _ (nc_ar t ht)) (va_eqt (hs _ (nc_le t ht))) (fun j hj => va_eqt (hs _ (nc_el t ht j hj))) hA
  exact ⟨a, b, q1, va_Oof (hs _ (nc_ex t ht)) q1 hA, vk_OFof q1 e1 hA, vk_OFof q1 (va_eqt (hs _ (nc_co t ht))) hA, e2⟩
def adrT (b : Nat) (sa ba : Nat → Nat) : Nat → Nat := fun k => if k = 0 then b else if k < 7 then sa (k - 1) else ba (k - 7)
theorem adr_s {b t : Nat} {sa ba : Nat → Nat} (h : t < 6) : adrT b sa ba (t + 1) = sa t := by
  unfold adrT
  rw [if_neg (by omega), if_pos (by omega), Nat.add_sub_cancel]
theorem adr_y {b t : Nat} {sa ba : Nat → Nat} : adrT b sa ba (t + 7) = ba t := by
  unfold adrT
  rw [if_neg (by omega), if_neg (by omega), Nat.add_sub_cancel]
theorem cvA_s {z : Nat} {D : va_G} {fy : FieldType → ClassId} {b t : Nat} {sa ba : Nat → Nat} {X : Nat → Option AC} (h : t < 6) : cvA (z, D, fy, adrT b sa ba, X) (1048577 + t) = sa t := by
  unfold cvA
  rw [if_neg (by omega), show 1048577 + t - 1048576 = t + 1 by omega]
  exact adr_s (b := b) (sa := sa) (ba := ba) h
theorem cvA_y {z : Nat} {D : va_G} {fy : FieldType → ClassId} {b t : Nat} {sa ba : Nat → Nat} {X : Nat → Option AC} : cvA (z, D, fy, adrT b sa ba, X) (1048583 + t) = ba t := by
  unfold cvA
  rw [if_neg (by omega), show 1048583 + t - 1048576 = t + 7 by omega]
  exact adr_y (b := b) (sa := sa) (ba := ba)
/-- the world at the law's start -/
theorem world0 {p : Program} {s : State} {m : MethodId} {meth : Method} {c : Code} {b L : Nat} {xs : Nat → Int32} (C0 : lw_At p s m meth c b L xs) :
    ∃ G : GG, G.1 = s.heap.size ∧ cvA G 1048576 = b ∧ G.2.2.2.2 = X0 L xs ∧ va_K G.2.1 CV (tysG G) s ∧ SR G s ∧ ZS G s s.heap ∧ XT G s s.heap := by
  obtain ⟨hx, hb, hr, hml, hown, hts, hX, hbl, hlocks, hgv⟩ := C0
  have hT : ∀ w ∈ TBg, w.before #[Value.ref b] s = true := fun w hw => hts w (List.mem_filter.mp hw).1
  have hs := flat_of_before NC hgv
  have hA : ∀ a : Nat, a < s.heap.size → ¬ (fun q => s.heap.size ≤ q) a := fun a h z => by omega
  have hcls : ∀ ci, ∃ q : ClassId × (Nat → Nat), ci < 14 → u_Kn s (clsT ci).1 (clsT ci).2.1 (clsT ci).2.2 q.1 q.2 := by
    intro ci
    by_cases h : ci < 14
    · have hi : ∃ n, (Cond.instantiable (clsT ci).1 n).before #[Value.ref b] s = true := by
        by_cases h13 : ci < 13
        · exact ⟨_, hT _ (cls_words h13).1⟩
        · have e : ci = 13 := by omega
          subst e
          exact ⟨6, hT _ (atW_good (p := 1488) (by decide +kernel) rfl)⟩
      obtain ⟨n, hi⟩ := hi
      obtain ⟨c1, i1, h1⟩ := u_known hT (lay_in h) hi
      exact ⟨(c1, i1), fun _ => h1⟩
    · exact ⟨(0, fun _ => 0), fun z => absurd z h⟩
  have hty : ∀ ty : FieldType, ∃ cA : ClassId, ty ∈ tyL → ArrOfT s cA ty ∧ va_RA s cA ty := by
    have hp : ∀ ty : FieldType, (∀ C, ty ≠ .object C) → (Cond.arrayClass ty).before #[Value.ref b] s = true → ∃ cA : ClassId, ArrOfT s cA ty ∧ va_RA s cA ty := by
      intro ty hno h
      obtain ⟨cA, kA, comp, h1, h2, h3⟩ := Cond.arrayClass_spec h
      refine ⟨cA, fun n z => ⟨fun k hk => (by cases hk), kA, h2, comp, h3⟩, ?_⟩
      unfold va_RA
      split
      · exact absurd rfl (hno _)
      · exact h1
    have ho : ∀ C : String, (Cond.arrayOver (.object C)).before #[Value.ref b] s = true → ∃ cA : ClassId, ArrOfT s cA (.object C) ∧ va_RA s cA (.object C) := by
      intro C h
      obtain ⟨comp, cA, kA, h1, h2, h3, h4, h5⟩ := Cond.arrayOver_spec h
      exact ⟨cA, fun n z => ⟨fun k hk => (by cases hk), kA, h3, comp, h4⟩, kA, comp, h3, h4, h1, h5⟩
    have key : ∀ ty ∈ tyL, ∃ cA : ClassId, ArrOfT s cA ty ∧ va_RA s cA ty := by
      intro ty h
      rcases List.mem_cons.mp h with rfl | h
      · exact hp _ (fun C z => nomatch z) (hts _ (atW_mem (p := 238) (by decide +kernel)))
      rcases List.mem_cons.mp h with rfl | h
      · exact hp _ (fun C z => nomatch z) (hts _ (atW_mem (p := 316) (by decide +kernel)))
      rcases List.mem_cons.mp h with rfl | h
      · exact hp _ (fun C z => nomatch z) (hts _ (atW_mem (p := 317) (by decide +kernel)))
      rcases List.mem_cons.mp h with rfl | h
      · exact ho _ (hts _ (atW_mem (p := 240) (by decide +kernel)))
      rcases List.mem_cons.mp h with rfl | h
      · exact ho _ (hts _ (atW_mem (p := 401) (by decide +kernel)))
      rcases List.mem_cons.mp h with rfl | h
      · exact ho _ (hts _ (atW_mem (p := 475) (by decide +kernel)))
      · exact nomatch h
    intro ty
    by_cases h : ty ∈ tyL
    · obtain ⟨cA, h1⟩ := key ty h
      exact ⟨cA, fun _ => h1⟩
    · exact ⟨0, fun z => absurd z h⟩
  have htx : ∀ t : Nat, ∃ q : Nat × Nat, t < 6 → ((tmT t).eval #[Value.ref b] s none [] s = some (.ref q.1) ∧ va_O "java/lang/String" q.1 (fun q => s.heap.size ≤ q) s s.heap ∧ va_OF "java/lang/String" "value" "[B" (.ref q.2) q.1 (fun q => s.heap.size ≤ q) s s.heap ∧ va_OF "java/lang/String" "coder" "B" (.int 0) q.1 (fun q => s.heap.size ≤ q) s s.heap ∧ va_T .byte q.2 (bytT t).length (fun j => .int ((bytT t).getD j 0)) (fun q => s.heap.size ≤ q) s s.heap) := by
    intro t
    by_cases h : t < 6
    · obtain ⟨a, b1, h1⟩ := txt_of hA hs t h
      exact ⟨(a, b1), fun _ => h1⟩
    · exact ⟨(0, 0), fun z => absurd z h⟩
  obtain ⟨fc, hfc⟩ := Classical.axiomOfChoice hcls
  obtain ⟨fy, hfy⟩ := Classical.axiomOfChoice hty
  obtain ⟨fx, hfx⟩ := Classical.axiomOfChoice htx
  refine ⟨(s.heap.size, (fun c => (fc c).1, fun c => (fc c).2), fy, adrT b (fun t => (fx t).1) (fun t => (fx t).2), X0 L xs), rfl, rfl, rfl, ⟨?_, ?_⟩, ?_, ?_, ?_⟩
  · intro ci q hq
    have hlt : ci < 14 := by
      have := (List.getElem?_eq_some_iff.mp hq).1
      have h2 : CV.length = 14 := by decide
      omega
    rw [CV_at hlt] at hq
    cases hq
    exact hfc ci hlt
  · intro k q hq
    unfold tysG at hq
    rw [List.getElem?_map] at hq
    cases hk : tyL[k]? with
    | none => rw [hk] at hq; cases hq
    | some ty =>
      rw [hk] at hq
      cases hq
      exact hfy ty (List.mem_of_getElem? hk)
  · have hv : ∀ t : Nat, t < 6 → cvA (s.heap.size, (fun c => (fc c).1, fun c => (fc c).2), fy, adrT b (fun t => (fx t).1) (fun t => (fx t).2), X0 L xs) (1048577 + t) = (fx t).1 := by
      exact fun t ht => cvA_s ht
    have e84 : (Term.string "RoundMapsModel" 84).eval #[Value.ref b] s none [] s = some (.ref (fx 0).1) := by
      obtain ⟨a, c, cA, kA, q1, -⟩ := Cond.exactly_spec (args := #[Value.ref b]) (first := s) (o := none) (s := s) (idx := []) (hs _ nc_x84)
      rw [eqR (hs _ nc_84) (hfx 0 (by decide)).1 q1]
      exact q1
    intro q hq
    rcases List.mem_cons.mp hq with rfl | hq
    · exact (hv 0 (by decide)) ▸ vk_R.of (hts _ (atW_mem (p := 655) (by decide +kernel))) (hfx 0 (by decide)).1
    rcases List.mem_cons.mp hq with rfl | hq
    · exact (hv 1 (by decide)) ▸ vk_R.of (hts _ (atW_mem (p := 1589) (by decide +kernel))) (hfx 1 (by decide)).1
    rcases List.mem_cons.mp hq with rfl | hq
    · exact (hv 0 (by decide)) ▸ vk_R.of (hts _ (atW_mem (p := 1603) (by decide +kernel))) e84
    rcases List.mem_cons.mp hq with rfl | hq
    · exact (hv 2 (by decide)) ▸ vk_R.of (hts _ (atW_mem (p := 1604) (by decide +kernel))) (hfx 2 (by decide)).1
    rcases List.mem_cons.mp hq with rfl | hq
    · exact (hv 3 (by decide)) ▸ vk_R.of (hts _ (atW_mem (p := 1609) (by decide +kernel))) (hfx 3 (by decide)).1
    rcases List.mem_cons.mp hq with rfl | hq
    · exact (hv 4 (by decide)) ▸ vk_R.of (hts _ (atW_mem (p := 1610) (by decide +kernel))) (hfx 4 (by decide)).1
    rcases List.mem_cons.mp hq with rfl | hq
    · exact (hv 5 (by decide)) ▸ vk_R.of (hts _ (atW_mem (p := 1611) (by decide +kernel))) (hfx 5 (by decide)).1
    · exact nomatch hq
  · refine ⟨va_Zof (hts (.laysStatic "java/lang/String" "COMPACT_STRINGS" "Z") (by decide +kernel)) (hts (.initialized "java/lang/String") (by decide +kernel)) (va_eqi (hs _ nc_cs)) hA, vx_Zqof (hts (.laysStatic Bundle.tN "UNASSIGNED_STACK" Bundle.steD) (atW_mem (p := 1514) (by decide +kernel))) (hts (.initialized Bundle.tN) (atW_mem (p := 188) (by decide +kernel))) (hs _ nc_us) hA, vx_Zqof (hts (.laysStatic Bundle.tN "SUPPRESSED_SENTINEL" Bundle.listD) (atW_mem (p := 1516) (by decide +kernel))) (hts (.initialized Bundle.tN) (atW_mem (p := 188) (by decide +kernel))) (hs _ nc_ss) hA, fun w hw => ?_⟩
    rcases List.mem_cons.mp hw with rfl | hw
    · exact va_Nw.of rfl (hts _ (atW_mem (p := 1490) (by decide +kernel)))
    rcases List.mem_cons.mp hw with rfl | hw
    · exact va_Nw.of rfl (hts _ (atW_mem (p := 1492) (by decide +kernel)))
    rcases List.mem_cons.mp hw with rfl | hw
    · exact va_Nw.of rfl (hts _ (atW_mem (p := 1494) (by decide +kernel)))
    · exact nomatch hw
  · intro a c0 ha hc
    have hc : X0 L xs a = some c0 := hc
    unfold X0 at hc
    rw [if_neg (by omega)] at hc
    by_cases e0 : a = 1048576
    · subst e0
      rw [if_pos rfl] at hc
      cases hc
      exact ⟨hX, hbl⟩
    · rw [if_neg e0] at hc
      by_cases e1 : a < 1048583
      · rw [if_pos e1] at hc
        cases hc
        obtain ⟨t, rfl⟩ : ∃ t, a = 1048577 + t := ⟨a - 1048577, by omega⟩
        have ht : t < 6 := by omega
        have ea : cvA (s.heap.size, (fun c => (fc c).1, fun c => (fc c).2), fy, adrT b (fun t => (fx t).1) (fun t => (fx t).2), X0 L xs) (1048577 + t) = (fx t).1 := by
          exact cvA_s ht
        have eb : cvA (s.heap.size, (fun c => (fc c).1, fun c => (fc c).2), fy, adrT b (fun t => (fx t).1) (fun t => (fx t).2), X0 L xs) (1048577 + t + 6) = (fx t).2 := by
          rw [show 1048577 + t + 6 = 1048583 + t by omega]
          exact cvA_y
        obtain ⟨h1, h2, h3, h4, h5⟩ := hfx t ht
        refine ⟨ea ▸ h2, fun k v hk => ?_⟩
        match k, hk with
        | 0, hk =>
          cases hk
          refine ⟨by decide, ?_⟩
          show va_OF "java/lang/String" "value" "[B" (.ref (cvA _ (1048577 + t + 6))) (cvA _ (1048577 + t)) _ s s.heap
          rw [ea, eb]
          exact h3
        | 1, hk =>
          cases hk
          refine ⟨by decide, ?_⟩
          show va_OF "java/lang/String" "coder" "B" (.int 0) (cvA _ (1048577 + t)) _ s s.heap
          rw [ea]
          exact h4
        | k + 2, hk => cases hk
      · rw [if_neg e1] at hc
        by_cases e2 : a < 1048589
        · rw [if_pos e2] at hc
          cases hc
          obtain ⟨t, rfl⟩ : ∃ t, a = 1048583 + t := ⟨a - 1048583, by omega⟩
          have ht : t < 6 := by omega
          have eb : cvA (s.heap.size, (fun c => (fc c).1, fun c => (fc c).2), fy, adrT b (fun t => (fx t).1) (fun t => (fx t).2), X0 L xs) (1048583 + t) = (fx t).2 := by
            exact cvA_y
          obtain ⟨h1, h2, h3, h4, h5⟩ := hfx t ht
          rw [Nat.add_sub_cancel_left]
          show va_T .byte (cvA _ (1048583 + t)) (bytT t).length (fun j => .int ((bytT t).getD j 0)) _ s s.heap
          rw [eb]
          exact h5
        · rw [if_neg e2] at hc
          cases hc
theorem start_of (HL : LawA) {p : Program} {e : Env} {s : State} {m : MethodId} {below : List Frame} {meth : Method} {c : Code} (l : Launch) (hflags : l.flags = flags0) {b L : Nat} {xs : Nat → Int32} (hL : L ≤ 3584) (C0 : lw_At p s m meth c b L xs) : W p l e room_1 s m #[Value.ref b] below meth c s.heap [] 0 0 (lw_Z below #[Value.ref b] s) (entryFrame m ([Value.ref b] : List Value).toArray 7) := by
  obtain ⟨G, g1, g2, g3, hK, hSR, hZ, hXT⟩ := world0 C0
  obtain ⟨hx, hb, hr, hml, hown, hts, hX, hbl, hlocks, hgv⟩ := id C0
  obtain ⟨f, o, ho, o1, o2, o3⟩ := HL L xs hL
  have hT : ∀ w ∈ TBg, w.before #[Value.ref b] s = true := fun w hw => hts w (List.mem_filter.mp hw).1
  have hNW : ∀ w ∈ NWL, va_Nw w s := by
    intro w hw
    obtain ⟨h1, h2⟩ := List.mem_filter.mp hw
    have h3 := hts w h1
    unfold isNW at h2
    split at h2
    · exact va_Nw.of rfl h3
    · exact va_Nw.of rfl h3
    · exact va_Nw.of rfl h3
    · exact h3
    · cases h2
  have hw := sound_of (N := 310) (Nat.le_refl _) (fun d mt pc lv st h o r j b v lab _ h2 hd hm ha hgo => w_lawrow h2 hd hm ha hgo) f 600 310 0 _ _ _ o (Nat.le_refl _) (fun z => absurd z (by decide)) ho
  rw [lg_entry_eq]
  have hl := lv_entry ([.ref b]) (n := 7) (Nat.le_of_ble_eq_true rfl)
  generalize (lg_sl ([.ref b]) ++ List.replicate (7 - (lg_sl ([.ref b])).length) Slot.unset).toArray = ls at hl ⊢
  have hl : lv_has ls 7 [(0, .ref (cvA G 1048576))] := by rw [g2]; exact hl
  refine hw.2 G p l e room_1 s m #[Value.ref b] below meth c s.heap [] ls 0 0 0 0 (lw_Z below #[Value.ref b] s) ?_ ?_ hl ?_ ?_
  · exact ⟨hx, hb, hml, hown, hr, fun z => absurd z (by decide), hT, hNW, hflags, hK, hSR, hZ, (by decide), (by decide), hXT, by omega, by rw [hml]; decide, fun _ => (by decide)⟩
  · refine ⟨fun k q hq => ?_, va_S.rf, fun a ha => by rw [g3]; rfl, ⟨fun a c ha hlt => ?_, fun a ha => absurd ha (Nat.not_lt_zero _), Nat.zero_le _⟩, rfl, rfl, by rw [g1]; rfl⟩
    · exact absurd (wsOf_fst hq).1 (Nat.not_lt_zero _)
    · have ha : X0 L xs a = some c := ha
      unfold X0 at ha
      rw [if_pos hlt] at ha
      cases ha
  · exact ⟨by show o.2.1 ≤ 0 + 601024; omega, by show o.2.2.1 ≤ 0 + 7293034; omega⟩
  · intro pc i ls1 H locs hd hok hP hS hW hE
    rw [o1] at hok ⊢
    refine va_forget (fun q hq => ?_) ?_
    · have := hS.2.2 q hq
      unfold regA at this
      omega
    · have hi : i = .ireturn := by
        unfold okRet at hok
        split at hok
        · rfl
        · rename_i heq; cases heq
        · rename_i heq; cases heq; exact absurd hok.1 (by decide)
        · rename_i heq; cases heq
        · exact hok.elim
      subst hi
      refine W.widen (k := 601024) (n := 7293034) (by omega) (by omega) ?_
      exact lw_ret hx hb hr hlocks hd
