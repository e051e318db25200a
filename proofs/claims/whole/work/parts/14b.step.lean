section ST
variable {d mt pc : Nat} {lv : LV} {st : List Value} {h : AH} {o : OU} {r : AT}
theorem law_own : (MT.take 310).all (fun r => decide (ownN r.1 ≠ "RoundMapsLaw")) = true := by decide +kernel
theorem law_ml : ML.all (fun q => decide (q.2.2.1 ≠ 9002 ∨ ownN q.1 = "RoundMapsLaw")) = true := by decide +kernel
theorem law_only {k : Nat} (h : mt ≤ 310) (hm : inM (mrow mt).1 k 9002 = true) : mt = 310 := by
  by_cases hlt : mt < 310
  · have h1 : (MT.take 310)[mt]? = some (mrow mt) := by
      have hl := MT_len
      unfold mrow
      rw [List.getElem?_take_of_lt hlt, List.getElem?_eq_getElem (by omega), List.getD_eq_getElem?_getD, List.getElem?_eq_getElem (by omega)]
      rfl
    have h2 := List.all_eq_true.mp law_own _ (List.mem_of_getElem? h1)
    obtain ⟨q, hq, hb⟩ := List.any_eq_true.mp hm
    simp only [Bool.and_eq_true, beq_iff_eq] at hb
    have h3 := List.all_eq_true.mp law_ml q hq
    simp only [decide_eq_true_eq] at h2 h3
    rcases h3 with h3 | h3
    · exact absurd hb.2.2 h3
    · rw [hb.1] at h3; exact absurd h3 h2
  · omega
theorem step_ok (hmt : mt ≤ 310) (hlr : ∀ (j b : Nat) (v : Value) (lab : Option (List Bool)), mt = 310 → decode (mrow mt).2.2.1 pc = .ok (.invokestatic j, 3) → inM (mrow mt).1 j 9002 = true → aI mt pc lv st h (.invokestatic j, 3, 9002, b, v, lab) = some r → WS d mt pc lv st h o) {e : EN} (hok : okE mt (pc, e) = true) (ha : aI mt pc lv st h e = some r) (hgo : GoOn d o r) : WS d mt pc lv st h o := by
  obtain ⟨i, len, a, b, v, lab⟩ := e
  unfold okE at hok
  rw [Bool.and_eq_true, decide_eq_true_eq] at hok
  obtain ⟨hd, hI⟩ := hok
  cases i
  case iadd => obtain rfl : len = 1 := beq_iff_eq.mp (show (len == 1) = true from hI); exact w_iadd hd ha hgo
  case isub => obtain rfl : len = 1 := beq_iff_eq.mp (show (len == 1) = true from hI); exact w_isub hd ha hgo
  case imul => obtain rfl : len = 1 := beq_iff_eq.mp (show (len == 1) = true from hI); exact w_imul hd ha hgo
  case idiv => obtain rfl : len = 1 := beq_iff_eq.mp (show (len == 1) = true from hI); exact w_idiv hd ha hgo
  case irem => obtain rfl : len = 1 := beq_iff_eq.mp (show (len == 1) = true from hI); exact w_irem hd ha hgo
  case iand => obtain rfl : len = 1 := beq_iff_eq.mp (show (len == 1) = true from hI); exact w_iand hd ha hgo
  case ior => obtain rfl : len = 1 := beq_iff_eq.mp (show (len == 1) = true from hI); exact w_ior hd ha hgo
  case ishl => obtain rfl : len = 1 := beq_iff_eq.mp (show (len == 1) = true from hI); exact w_ishl hd ha hgo
  case ishr => obtain rfl : len = 1 := beq_iff_eq.mp (show (len == 1) = true from hI); exact w_ishr hd ha hgo
  case iushr => obtain rfl : len = 1 := beq_iff_eq.mp (show (len == 1) = true from hI); exact w_iushr hd ha hgo
  case ineg => obtain rfl : len = 1 := beq_iff_eq.mp (show (len == 1) = true from hI); exact w_ineg hd ha hgo
  case i2l => obtain rfl : len = 1 := beq_iff_eq.mp (show (len == 1) = true from hI); exact w_i2l hd ha hgo
  case l2i => obtain rfl : len = 1 := beq_iff_eq.mp (show (len == 1) = true from hI); exact w_l2i hd ha hgo
  case i2b => obtain rfl : len = 1 := beq_iff_eq.mp (show (len == 1) = true from hI); exact w_i2b hd ha hgo
  case i2s => obtain rfl : len = 1 := beq_iff_eq.mp (show (len == 1) = true from hI); exact w_i2s hd ha hgo
  case i2c => obtain rfl : len = 1 := beq_iff_eq.mp (show (len == 1) = true from hI); exact w_i2c hd ha hgo
  case ladd => obtain rfl : len = 1 := beq_iff_eq.mp (show (len == 1) = true from hI); exact w_ladd hd ha hgo
  case lsub => obtain rfl : len = 1 := beq_iff_eq.mp (show (len == 1) = true from hI); exact w_lsub hd ha hgo
  case lmul => obtain rfl : len = 1 := beq_iff_eq.mp (show (len == 1) = true from hI); exact w_lmul hd ha hgo
  case ldiv => obtain rfl : len = 1 := beq_iff_eq.mp (show (len == 1) = true from hI); exact w_ldiv hd ha hgo
  case land => obtain rfl : len = 1 := beq_iff_eq.mp (show (len == 1) = true from hI); exact w_land hd ha hgo
  case lor => obtain rfl : len = 1 := beq_iff_eq.mp (show (len == 1) = true from hI); exact w_lor hd ha hgo
  case lxor => obtain rfl : len = 1 := beq_iff_eq.mp (show (len == 1) = true from hI); exact w_lxor hd ha hgo
  case lneg => obtain rfl : len = 1 := beq_iff_eq.mp (show (len == 1) = true from hI); exact w_lneg hd ha hgo
  case lshl => obtain rfl : len = 1 := beq_iff_eq.mp (show (len == 1) = true from hI); exact w_lshl hd ha hgo
  case lushr => obtain rfl : len = 1 := beq_iff_eq.mp (show (len == 1) = true from hI); exact w_lushr hd ha hgo
  case lcmp => obtain rfl : len = 1 := beq_iff_eq.mp (show (len == 1) = true from hI); exact w_lcmp hd ha hgo
  case dup => obtain rfl : len = 1 := beq_iff_eq.mp (show (len == 1) = true from hI); exact w_dup hd ha hgo
  case pop => obtain rfl : len = 1 := beq_iff_eq.mp (show (len == 1) = true from hI); exact w_pop hd ha hgo
  case dup2 => obtain rfl : len = 1 := beq_iff_eq.mp (show (len == 1) = true from hI); exact w_dup2 hd ha hgo
  case aconst_null => obtain rfl : len = 1 := beq_iff_eq.mp (show (len == 1) = true from hI); exact w_aconst_null hd ha hgo
  case arraylength => obtain rfl : len = 1 := beq_iff_eq.mp (show (len == 1) = true from hI); exact w_arraylength hd ha hgo
  case iaload => obtain rfl : len = 1 := beq_iff_eq.mp (show (len == 1) = true from hI); exact w_iaload hd ha hgo
  case baload => obtain rfl : len = 1 := beq_iff_eq.mp (show (len == 1) = true from hI); exact w_baload hd ha hgo
  case laload => obtain rfl : len = 1 := beq_iff_eq.mp (show (len == 1) = true from hI); exact w_laload hd ha hgo
  case aaload => obtain rfl : len = 1 := beq_iff_eq.mp (show (len == 1) = true from hI); exact w_aaload hd ha hgo
  case iastore => obtain rfl : len = 1 := beq_iff_eq.mp (show (len == 1) = true from hI); exact w_iastore hd ha hgo
  case bastore => obtain rfl : len = 1 := beq_iff_eq.mp (show (len == 1) = true from hI); exact w_bastore hd ha hgo
  case lastore => obtain rfl : len = 1 := beq_iff_eq.mp (show (len == 1) = true from hI); exact w_lastore hd ha hgo
  case aastore => obtain rfl : len = 1 := beq_iff_eq.mp (show (len == 1) = true from hI); exact w_aastore hd ha hgo
  case iload_n k => obtain rfl : len = 1 := beq_iff_eq.mp (show (len == 1) = true from hI); exact w_iload_n hd ha hgo
  case lload_n k => obtain rfl : len = 1 := beq_iff_eq.mp (show (len == 1) = true from hI); exact w_lload_n hd ha hgo
  case aload_n k => obtain rfl : len = 1 := beq_iff_eq.mp (show (len == 1) = true from hI); exact w_aload_n hd ha hgo
  case iload k => obtain rfl : len = 2 := beq_iff_eq.mp (show (len == 2) = true from hI); exact w_iload hd ha hgo
  case lload k => obtain rfl : len = 2 := beq_iff_eq.mp (show (len == 2) = true from hI); exact w_lload hd ha hgo
  case aload k => obtain rfl : len = 2 := beq_iff_eq.mp (show (len == 2) = true from hI); exact w_aload hd ha hgo
  case iconst k => simp only [okI, Bool.and_eq_true, Bool.or_eq_true, beq_iff_eq, decide_eq_true_eq, okJ, List.any_eq_true] at hI; obtain ⟨rfl, rfl⟩ := hI; exact w_iconst hd ha hgo
  case bipush k => simp only [okI, Bool.and_eq_true, Bool.or_eq_true, beq_iff_eq, decide_eq_true_eq, okJ, List.any_eq_true] at hI; obtain ⟨rfl, rfl⟩ := hI; exact w_bipush hd ha hgo
  case sipush k => simp only [okI, Bool.and_eq_true, Bool.or_eq_true, beq_iff_eq, decide_eq_true_eq, okJ, List.any_eq_true] at hI; obtain ⟨rfl, rfl⟩ := hI; exact w_sipush hd ha hgo
  case lconst k => simp only [okI, Bool.and_eq_true, Bool.or_eq_true, beq_iff_eq, decide_eq_true_eq, okJ, List.any_eq_true] at hI; obtain ⟨rfl, rfl⟩ := hI; exact w_lconst hd ha hgo
  case ldc k =>
    simp only [okI, Bool.and_eq_true, Bool.or_eq_true, beq_iff_eq, decide_eq_true_eq, okJ, List.any_eq_true] at hI
    obtain ⟨rfl, ⟨q, hq, h1, h2, rfl⟩ | ⟨q, hq, h1, h2, rfl⟩⟩ := hI
    · exact w_ldcI hd (by rw [← h1, ← h2]; exact atW_good (List.all_eq_true.mp IL_ok q hq) rfl) ha hgo
    · exact w_ldcS hd ⟨q.2.2.2, by rw [← h1, ← h2]; exact hq⟩ rfl ha hgo
  case ldc_w k =>
    simp only [okI, Bool.and_eq_true, Bool.or_eq_true, beq_iff_eq, decide_eq_true_eq, okJ, List.any_eq_true] at hI
    obtain ⟨rfl, q, hq, h1, h2, rfl⟩ := hI
    exact w_ldc_w hd (by rw [← h1, ← h2]; exact atW_good (List.all_eq_true.mp IL_ok q hq) rfl) ha hgo
  case ldc2_w k =>
    simp only [okI, Bool.and_eq_true, Bool.or_eq_true, beq_iff_eq, decide_eq_true_eq, okJ, List.any_eq_true] at hI
    obtain ⟨rfl, q, hq, h1, h2, rfl⟩ := hI
    exact w_ldc2 hd (by rw [← h1, ← h2]; exact atW_good (List.all_eq_true.mp JL_ok q hq) rfl) ha hgo
  case getstatic k =>
    simp only [okI, Bool.and_eq_true, Bool.or_eq_true, beq_iff_eq, decide_eq_true_eq, okJ, List.any_eq_true] at hI
    obtain ⟨rfl, rfl, q, hq, h1, h2⟩ := hI
    exact w_getstatic hd (by rw [← h1, ← h2]; exact atW_good (List.all_eq_true.mp GL_ok q hq) rfl) ha hgo
  case istore k => simp only [okI, Bool.and_eq_true, Bool.or_eq_true, beq_iff_eq, decide_eq_true_eq, okJ, List.any_eq_true] at hI; obtain ⟨rfl, hj⟩ := hI; exact w_istore hd hj ha hgo
  case istore_n k => simp only [okI, Bool.and_eq_true, Bool.or_eq_true, beq_iff_eq, decide_eq_true_eq, okJ, List.any_eq_true] at hI; obtain ⟨rfl, hj⟩ := hI; exact w_istore_n hd hj ha hgo
  case astore k => simp only [okI, Bool.and_eq_true, Bool.or_eq_true, beq_iff_eq, decide_eq_true_eq, okJ, List.any_eq_true] at hI; obtain ⟨rfl, hj⟩ := hI; exact w_astore hd hj ha hgo
  case astore_n k => simp only [okI, Bool.and_eq_true, Bool.or_eq_true, beq_iff_eq, decide_eq_true_eq, okJ, List.any_eq_true] at hI; obtain ⟨rfl, hj⟩ := hI; exact w_astore_n hd hj ha hgo
  case lstore k => simp only [okI, Bool.and_eq_true, Bool.or_eq_true, beq_iff_eq, decide_eq_true_eq, okJ, List.any_eq_true] at hI; obtain ⟨rfl, hj⟩ := hI; exact w_lstore hd hj ha hgo
  case lstore_n k => simp only [okI, Bool.and_eq_true, Bool.or_eq_true, beq_iff_eq, decide_eq_true_eq, okJ, List.any_eq_true] at hI; obtain ⟨rfl, hj⟩ := hI; exact w_lstore_n hd hj ha hgo
  case iinc k j => simp only [okI, Bool.and_eq_true, Bool.or_eq_true, beq_iff_eq, decide_eq_true_eq, okJ, List.any_eq_true] at hI; obtain ⟨rfl, hj, rfl⟩ := hI; exact w_iinc hd hj ha hgo
  case goto k => simp only [okI, Bool.and_eq_true, Bool.or_eq_true, beq_iff_eq, decide_eq_true_eq, okJ, List.any_eq_true] at hI; obtain ⟨rfl, hj⟩ := hI; exact w_goto hd hj ha hgo
  case ifnull k => simp only [okI, Bool.and_eq_true, Bool.or_eq_true, beq_iff_eq, decide_eq_true_eq, okJ, List.any_eq_true] at hI; obtain ⟨rfl, hj⟩ := hI; exact w_ifnull hd hj ha hgo
  case ifnonnull k => simp only [okI, Bool.and_eq_true, Bool.or_eq_true, beq_iff_eq, decide_eq_true_eq, okJ, List.any_eq_true] at hI; obtain ⟨rfl, hj⟩ := hI; exact w_ifnonnull hd hj ha hgo
  case ifCond c k =>
    simp only [okI, Bool.and_eq_true, Bool.or_eq_true, beq_iff_eq, decide_eq_true_eq, okJ, List.any_eq_true] at hI
    obtain ⟨rfl, hj⟩ := hI
    cases c
    case eq => exact w_if_eq hd hj ha hgo
    case ne => exact w_if_ne hd hj ha hgo
    case lt => exact w_if_lt hd hj ha hgo
    case ge => exact w_if_ge hd hj ha hgo
    case gt => exact w_if_gt hd hj ha hgo
    case le => exact w_if_le hd hj ha hgo
  case if_icmp c k =>
    simp only [okI, Bool.and_eq_true, Bool.or_eq_true, beq_iff_eq, decide_eq_true_eq, okJ, List.any_eq_true] at hI
    obtain ⟨rfl, hj⟩ := hI
    cases c
    case eq => exact w_icmp_eq hd hj ha hgo
    case ne => exact w_icmp_ne hd hj ha hgo
    case lt => exact w_icmp_lt hd hj ha hgo
    case ge => exact w_icmp_ge hd hj ha hgo
    case gt => exact w_icmp_gt hd hj ha hgo
    case le => exact w_icmp_le hd hj ha hgo
  case tableswitch df lo hi os => exact w_tableswitch hd ha hgo
  case getfield k => simp only [okI, Bool.and_eq_true, Bool.or_eq_true, beq_iff_eq, decide_eq_true_eq, okJ, List.any_eq_true] at hI; obtain ⟨rfl, hF⟩ := hI; exact w_getfield hd hF ha hgo
  case putfield k =>
    have hI0 : (len == 3 && ((if ((clsT a).2.1 b).2.2.2 then decide ((mrow mt).2.1.name = "<init>") && (decide (((clsT a).2.1 b).1 = ownN (mrow mt).1) && FL.any (fun q => q.1 == (mrow mt).1 && (q.2.1 == k && (q.2.2.1 == a && (q.2.2.2.1 == b && decide (q.2.2.2.2.2 = "")))))) else inF (mrow mt).1 k a b) && (match (generalizing := false) v with
      | .retAddr t => okT (parseFieldDescriptor ((clsT a).2.1 b).2.2.1) t && decide (a < 13)
      | _ => false))) = true := hI
    rw [Bool.and_eq_true, Bool.and_eq_true, beq_iff_eq] at hI0
    obtain ⟨rfl, hF, hv⟩ := hI0
    split at hv
    · rw [Bool.and_eq_true, decide_eq_true_eq] at hv
      exact w_putfield hd hF hv.1 hv.2 ha hgo
    · cases hv
  case new k => simp only [okI, Bool.and_eq_true, Bool.or_eq_true, beq_iff_eq, decide_eq_true_eq, okJ, List.any_eq_true] at hI; obtain ⟨rfl, hN, hb, h13⟩ := hI; exact w_new hd hN hb h13 ha hgo
  case newarray t => simp only [okI, Bool.and_eq_true, Bool.or_eq_true, beq_iff_eq, decide_eq_true_eq, okJ, List.any_eq_true] at hI; obtain ⟨rfl, ht⟩ := hI; exact w_newarray hd ht ha hgo
  case anewarray k => simp only [okI, Bool.and_eq_true, Bool.or_eq_true, beq_iff_eq, decide_eq_true_eq, okJ, List.any_eq_true] at hI; obtain ⟨rfl, hN, h3⟩ := hI; exact w_anewarray hd hN h3 ha hgo
  case checkcast k => simp only [okI, Bool.and_eq_true, Bool.or_eq_true, beq_iff_eq, decide_eq_true_eq, okJ, List.any_eq_true] at hI; obtain ⟨rfl, hj⟩ := hI; exact w_checkcast hd hj ha hgo
  case invokespecial k =>
    simp only [okI, Bool.and_eq_true, Bool.or_eq_true, beq_iff_eq, decide_eq_true_eq, okJ, List.any_eq_true] at hI
    obtain ⟨rfl, hm, rfl | ⟨hy, hn, hb, hs⟩⟩ := hI
    · exact w_objinit hd hm ha hgo
    · exact w_invokespecial hd hm hy hb hs hn ha hgo
  case invokevirtual k =>
    have hI0 : (len == 3 && (inM (mrow mt).1 k a && (a == 9003 || (decide (a < 310) && (decide (b = (mrow a).2.2.2.2.2.1) && (decide ((mrow a).2.2.2.2.2.2.1 = false) && (decide (¬ (mrow a).2.1.name = "<init>") && match (generalizing := false) v with
      | .retAddr c => decide ((clsT c).1 = (mrow a).2.1.cls ∧ c < 15)
      | _ => false))))))) = true := hI
    rw [Bool.and_eq_true, Bool.and_eq_true, Bool.or_eq_true, Bool.and_eq_true, Bool.and_eq_true, Bool.and_eq_true, Bool.and_eq_true, beq_iff_eq, beq_iff_eq, decide_eq_true_eq, decide_eq_true_eq, decide_eq_true_eq, decide_eq_true_eq] at hI0
    obtain ⟨rfl, hm, rfl | ⟨hy, hb, hs, hn, hv⟩⟩ := hI0
    · exact w_clone hd hm ha hgo
    · split at hv
      · rw [decide_eq_true_eq] at hv
        exact w_invokevirtual hd hm hy hb hs hn hv ha hgo
      · cases hv
  case invokestatic k =>
    simp only [okI, Bool.and_eq_true, Bool.or_eq_true, beq_iff_eq, decide_eq_true_eq, okJ, List.any_eq_true] at hI
    obtain ⟨rfl, hm, rfl | rfl | ⟨hy, hb, hs⟩⟩ := hI
    · exact w_arraycopy hd hm ha hgo
    · exact hlr k _ _ _ (law_only hmt hm) hd hm ha
    · exact w_invokestatic hd hm hy hb hs ha hgo
  case ireturn =>
    have hI0 : (len == 1 && (if a = 0 then decide ((mrow mt).2.2.2.2.1 = some .int) else if a = 1 then decide ((mrow mt).2.2.2.2.1 = some .boolean) else (a == 2 && decide ((mrow mt).2.2.2.2.1 = some .byte)))) = true := hI
    rw [Bool.and_eq_true, beq_iff_eq] at hI0
    obtain ⟨rfl, hI1⟩ := hI0
    refine w_ireturn hd ?_ ha hgo
    by_cases h0 : a = 0
    · rw [if_pos h0, decide_eq_true_eq] at hI1; exact Or.inl ⟨h0, hI1⟩
    · rw [if_neg h0] at hI1
      by_cases h1 : a = 1
      · rw [if_pos h1, decide_eq_true_eq] at hI1; exact Or.inr (Or.inl ⟨h1, hI1⟩)
      · rw [if_neg h1, Bool.and_eq_true, beq_iff_eq, decide_eq_true_eq] at hI1; exact Or.inr (Or.inr hI1)
  case lreturn => simp only [okI, Bool.and_eq_true, Bool.or_eq_true, beq_iff_eq, decide_eq_true_eq, okJ, List.any_eq_true] at hI; obtain ⟨rfl, hr⟩ := hI; exact w_lreturn hd hr ha hgo
  case return_ => simp only [okI, Bool.and_eq_true, Bool.or_eq_true, beq_iff_eq, decide_eq_true_eq, okJ, List.any_eq_true] at hI; obtain ⟨rfl, hr⟩ := hI; exact w_return_ hd hr ha hgo
  case areturn =>
    have hI0 : (len == 1 && (match (generalizing := false) (mrow mt).2.2.2.2.1 with
      | some (.object _) => true
      | some (.array _) => true
      | _ => false)) = true := hI
    rw [Bool.and_eq_true, beq_iff_eq] at hI0
    obtain ⟨rfl, hI1⟩ := hI0
    refine w_areturn hd ?_ ha hgo
    split at hI1
    · rename_i n hn; exact Or.inl ⟨n, hn⟩
    · rename_i n hn; exact Or.inr ⟨n, hn⟩
    · cases hI1
  all_goals exact absurd (show (none : Option AT) = some r from ha) (by simp)
end ST
/-- an instruction stays in its method -/
def sameM (mt : Nat) (r : AT) : Prop := match r with
  | .inl (m, _, _, _, _) => m = mt
  | .inr (.inl (_, (m1, _, _, _, _), (m2, _, _, _, _))) => m1 = mt ∧ m2 = mt
  | .inr (.inr (.inl (_, _, (m2, _, _, _, _)))) => m2 = mt
  | .inr (.inr (.inr _)) => True
section QS
variable {α : Type} {P : α → Prop}
def AllS (P : α → Prop) (o : Option α) : Prop := ∀ r, o = some r → P r
theorem q_none : AllS P none := fun _ h => by cases h
theorem q_some {x : α} (h : P x) : AllS P (some x) := fun _ e => by cases e; exact h
theorem q_ob {β : Type} {c : Option β} {k : β → Option α} (h : ∀ x, AllS P (k x)) : AllS P (ob c k) := fun r e => by obtain ⟨x, -, e⟩ := ob_some e; exact h x r e
theorem q_pI {c : List Value} {k : Int32 → List Value → Option α} (h : ∀ x t, AllS P (k x t)) : AllS P (pI c k) := fun r e => by obtain ⟨x, t, -, e⟩ := pI_some e; exact h x t r e
theorem q_pJ {c : List Value} {k : Int64 → List Value → Option α} (h : ∀ x t, AllS P (k x t)) : AllS P (pJ c k) := fun r e => by obtain ⟨x, t, -, e⟩ := pJ_some e; exact h x t r e
theorem q_pR {c : List Value} {k : Nat → List Value → Option α} (h : ∀ x t, AllS P (k x t)) : AllS P (pR c k) := fun r e => by obtain ⟨x, t, -, e⟩ := pR_some e; exact h x t r e
theorem q_pV {c : List Value} {k : Value → List Value → Option α} (h : ∀ x t, AllS P (k x t)) : AllS P (pV c k) := fun r e => by obtain ⟨x, t, -, e⟩ := pV_some e; exact h x t r e
theorem q_gT {b : Prop} [Decidable b] {k : Option α} (h : AllS P k) : AllS P (gT b k) := fun r e => h r (gT_some e).2
theorem q_gX {i : Int32} {n : Nat} {k : Option α} (h : AllS P k) : AllS P (gX i n k) := fun r e => h r (gX_some e).2
theorem q_gC {c : FieldType} {k : String → Option α} (h : ∀ x, AllS P (k x)) : AllS P (gC c k) := fun r e => by obtain ⟨x, -, e⟩ := gC_some e; exact h x r e
theorem q_lI {c : Option Value} {k : Int32 → Option α} (h : ∀ x, AllS P (k x)) : AllS P (lI c k) := fun r e => by obtain ⟨x, -, e⟩ := lI_some e; exact h x r e
theorem q_lJ {c : Option Value} {k : Int64 → Option α} (h : ∀ x, AllS P (k x)) : AllS P (lJ c k) := fun r e => by obtain ⟨x, -, e⟩ := lJ_some e; exact h x r e
theorem q_lR {c : Option Value} {k : Value → Option α} (h : ∀ x, AllS P (k x)) : AllS P (lR c k) := fun r e => by
  rcases lR_some e with ⟨x, -, e⟩ | ⟨-, e⟩
  · exact h _ r e
  · exact h _ r e
theorem q_gO {c : Option AC} {k : Nat → List Value → Option α} (h : ∀ x t, AllS P (k x t)) : AllS P (gO c k) := fun r e => by obtain ⟨x, t, -, e⟩ := gO_some e; exact h x t r e
theorem q_gI {c : Option AC} {k : FieldType → Nat → (Nat → Int32) → Option α} (h : ∀ x t f, AllS P (k x t f)) : AllS P (gI c k) := fun r e => by obtain ⟨x, t, f, -, e⟩ := gI_some e; exact h x t f r e
theorem q_gJ {c : Option AC} {k : FieldType → Nat → (Nat → Int64) → Option α} (h : ∀ x t f, AllS P (k x t f)) : AllS P (gJ c k) := fun r e => by obtain ⟨x, t, f, -, e⟩ := gJ_some e; exact h x t f r e
theorem q_gR {c : Option AC} {k : FieldType → Nat → (Nat → Option Nat) → Option α} (h : ∀ x t f, AllS P (k x t f)) : AllS P (gR c k) := fun r e => by obtain ⟨x, t, f, -, e⟩ := gR_some e; exact h x t f r e
theorem q_gL {c : Option AC} {k : Nat → Option α} (h : ∀ x, AllS P (k x)) : AllS P (gL c k) := fun r e => by obtain ⟨ty, y, -, e⟩ := gL_some e; exact h _ r e
theorem q_vI {c : Value} {k : Int32 → Option α} (h : ∀ x, AllS P (k x)) : AllS P (vI c k) := fun r e => by obtain ⟨x, -, e⟩ := vI_some e; exact h x r e
theorem q_vT {c : Value} {k : Nat → Option α} (h : ∀ x, AllS P (k x)) : AllS P (vT c k) := fun r e => by obtain ⟨x, -, e⟩ := vT_some e; exact h x r e
theorem q_cpy {h : AH} {st : List Value} {k : List Value → AH → Option α} (hk : ∀ x t, AllS P (k x t)) : AllS P (cpyB h st k) := by
  unfold cpyB
  refine q_pI (fun _ _ => q_pI (fun _ _ => q_pR (fun _ _ => q_pI (fun _ _ => q_pR (fun _ _ => q_gT ?_)))))
  split
  · exact q_gT (hk _ _)
  · exact q_gT (hk _ _)
  · exact q_none
theorem q_row {h : AH} {st : List Value} {k : List Value → AH → Option α} (hk : ∀ x t, AllS P (k x t)) : AllS P (rowB h st k) := by
  unfold rowB
  refine q_pR (fun _ _ => q_pI (fun _ _ => q_pR (fun _ _ => q_gO (fun _ _ => ?_))))
  split
  · refine q_gO (fun _ _ => ?_)
    split
    · refine q_gI (fun _ _ _ => q_gJ (fun _ _ _ => q_gT ?_))
      split
      · exact hk _ _
      · exact q_gT (hk _ _)
    · exact q_none
  · exact q_none
theorem q_if {c : Prop} [Decidable c] {a b : Option α} (ha : AllS P a) (hb : AllS P b) : AllS P (if c then a else b) := by split <;> assumption
end QS
theorem q_call {m pc a b : Nat} {lv : LV} {st : List Value} {h : AH} {chk : List Value → Bool} : AllS (sameM m) (callA m pc a b lv st h chk) := q_ob (fun _ => q_gT (q_some rfl))
theorem aI_same {m pc : Nat} {lv : LV} {st : List Value} {h : AH} {e : EN} {r : AT} (ha : aI m pc lv st h e = some r) : sameM m r := by
  revert r
  show AllS (sameM m) (aI m pc lv st h e)
  obtain ⟨i, len, a, b, v, lab⟩ := e
  cases i
  case invokespecial k => exact q_if (q_pR (fun _ _ => q_gT (q_some rfl))) q_call
  case invokevirtual k => exact q_if (q_pR (fun _ _ => q_gI (fun _ _ _ => q_gT (q_some rfl)))) (q_vT (fun _ => q_call))
  case invokestatic k => exact q_if (q_cpy (fun _ _ => q_gT (q_some rfl))) (q_if (q_row (fun _ _ => q_gT (q_some rfl))) q_call)
  case newarray t => exact q_pI (fun _ _ => q_gT (q_ob (fun _ => q_some rfl)))
  case ireturn =>
    show AllS (sameM m) (match st with | [.int x] => _ | _ => none)
    split
    · exact q_gT (q_some trivial)
    · exact q_none
  case lreturn =>
    show AllS (sameM m) (match st with | [.long x] => _ | _ => none)
    split
    · exact q_some trivial
    · exact q_none
  case areturn =>
    show AllS (sameM m) (match st with | [x] => _ | _ => none)
    split
    · exact q_gT (q_some trivial)
    · exact q_none
  case return_ =>
    show AllS (sameM m) (match st with | [] => _ | _ => none)
    split
    · exact q_some trivial
    · exact q_none
  case aconst_null => exact q_some rfl
  case iconst _ => exact q_some rfl
  case bipush _ => exact q_some rfl
  case sipush _ => exact q_some rfl
  case lconst _ => exact q_some rfl
  case ldc _ => exact q_some rfl
  case ldc_w _ => exact q_some rfl
  case ldc2_w _ => exact q_some rfl
  case getstatic _ => exact q_some rfl
  case goto _ => exact q_some rfl
  case iload _ => exact q_lI (fun _ => q_some rfl)
  case iload_n _ => exact q_lI (fun _ => q_some rfl)
  case lload _ => exact q_lJ (fun _ => q_some rfl)
  case lload_n _ => exact q_lJ (fun _ => q_some rfl)
  case aload _ => exact q_lR (P := sameM m) (k := fun x => nx m (pc + len) lv (x :: st) h) (fun _ => q_some rfl)
  case aload_n _ => exact q_lR (P := sameM m) (k := fun x => nx m (pc + len) lv (x :: st) h) (fun _ => q_some rfl)
  case istore _ => exact q_pI (fun _ _ => q_some rfl)
  case istore_n _ => exact q_pI (fun _ _ => q_some rfl)
  case ineg => exact q_pI (fun _ _ => q_some rfl)
  case i2l => exact q_pI (fun _ _ => q_some rfl)
  case i2b => exact q_pI (fun _ _ => q_some rfl)
  case i2s => exact q_pI (fun _ _ => q_some rfl)
  case i2c => exact q_pI (fun _ _ => q_some rfl)
  case lstore _ => exact q_pJ (fun _ _ => q_some rfl)
  case lstore_n _ => exact q_pJ (fun _ _ => q_some rfl)
  case l2i => exact q_pJ (fun _ _ => q_some rfl)
  case lneg => exact q_pJ (fun _ _ => q_some rfl)
  case astore _ => exact q_pV (fun _ _ => q_gT (q_some rfl))
  case astore_n _ => exact q_pV (fun _ _ => q_gT (q_some rfl))
  case dup => exact q_pV (fun _ _ => q_gT (q_some rfl))
  case pop => exact q_pV (fun _ _ => q_gT (q_some rfl))
  case ifnull _ => exact q_pV (fun _ _ => q_gT (q_some rfl))
  case ifnonnull _ => exact q_pV (fun _ _ => q_gT (q_some rfl))
  case iadd => exact q_pI (fun _ _ => q_pI (fun _ _ => q_some rfl))
  case isub => exact q_pI (fun _ _ => q_pI (fun _ _ => q_some rfl))
  case imul => exact q_pI (fun _ _ => q_pI (fun _ _ => q_some rfl))
  case iand => exact q_pI (fun _ _ => q_pI (fun _ _ => q_some rfl))
  case ior => exact q_pI (fun _ _ => q_pI (fun _ _ => q_some rfl))
  case ishl => exact q_pI (fun _ _ => q_pI (fun _ _ => q_some rfl))
  case ishr => exact q_pI (fun _ _ => q_pI (fun _ _ => q_some rfl))
  case iushr => exact q_pI (fun _ _ => q_pI (fun _ _ => q_some rfl))
  case idiv => exact q_pI (fun _ _ => q_pI (fun _ _ => q_gT (q_some rfl)))
  case irem => exact q_pI (fun _ _ => q_pI (fun _ _ => q_gT (q_some rfl)))
  case ladd => exact q_pJ (fun _ _ => q_pJ (fun _ _ => q_some rfl))
  case lsub => exact q_pJ (fun _ _ => q_pJ (fun _ _ => q_some rfl))
  case lmul => exact q_pJ (fun _ _ => q_pJ (fun _ _ => q_some rfl))
  case land => exact q_pJ (fun _ _ => q_pJ (fun _ _ => q_some rfl))
  case lor => exact q_pJ (fun _ _ => q_pJ (fun _ _ => q_some rfl))
  case lxor => exact q_pJ (fun _ _ => q_pJ (fun _ _ => q_some rfl))
  case lcmp => exact q_pJ (fun _ _ => q_pJ (fun _ _ => q_some rfl))
  case ldiv => exact q_pJ (fun _ _ => q_pJ (fun _ _ => q_gT (q_some rfl)))
  case lshl => exact q_pI (fun _ _ => q_pJ (fun _ _ => q_some rfl))
  case lushr => exact q_pI (fun _ _ => q_pJ (fun _ _ => q_some rfl))
  case dup2 => exact q_pV (fun _ _ => q_pV (fun _ _ => q_gT (q_some rfl)))
  case iinc _ _ => exact q_lI (fun _ => q_vI (fun _ => q_some rfl))
  case ifCond _ _ => exact q_pI (fun _ _ => q_some ⟨rfl, rfl⟩)
  case if_icmp _ _ => exact q_pI (fun _ _ => q_pI (fun _ _ => q_some ⟨rfl, rfl⟩))
  case tableswitch _ _ _ _ => exact q_pI (fun _ _ => q_ob (fun _ => q_some rfl))
  case getfield _ => exact q_pR (fun _ _ => q_gO (fun _ _ => q_gT (q_ob (fun _ => q_some rfl))))
  case putfield _ => exact q_pV (fun _ _ => q_pR (fun _ _ => q_gO (fun _ _ => q_vT (fun _ => q_gT (q_some rfl)))))
  case arraylength => exact q_pR (fun _ _ => q_gL (fun _ => q_some rfl))
  case iaload => exact q_pI (fun _ _ => q_pR (fun _ _ => q_gI (fun _ _ _ => q_gT (q_gX (q_some rfl)))))
  case baload => exact q_pI (fun _ _ => q_pR (fun _ _ => q_gI (fun _ _ _ => q_gT (q_gX (q_some rfl)))))
  case laload => exact q_pI (fun _ _ => q_pR (fun _ _ => q_gJ (fun _ _ _ => q_gT (q_gX (q_some rfl)))))
  case aaload => exact q_pI (fun _ _ => q_pR (fun _ _ => q_gR (fun _ _ _ => q_gX (q_some rfl))))
  case iastore => exact q_pI (fun _ _ => q_pI (fun _ _ => q_pR (fun _ _ => q_gI (fun _ _ _ => q_gT (q_gX (q_some rfl))))))
  case bastore => exact q_pI (fun _ _ => q_pI (fun _ _ => q_pR (fun _ _ => q_gI (fun _ _ _ => q_gT (q_gX (q_some rfl))))))
  case lastore => exact q_pJ (fun _ _ => q_pI (fun _ _ => q_pR (fun _ _ => q_gJ (fun _ _ _ => q_gT (q_gX (q_some rfl))))))
  case aastore => exact q_pR (fun _ _ => q_pI (fun _ _ => q_pR (fun _ _ => q_gR (fun _ _ _ => q_gO (fun _ _ => q_gC (fun _ => q_gT (q_gX (q_some rfl))))))))
  case new _ => exact q_gT (q_some rfl)
  case anewarray _ => exact q_pI (fun _ _ => q_gT (q_some rfl))
  case checkcast _ => exact q_pR (fun _ _ => q_gI (fun _ _ _ => q_gT (q_some rfl)))
  all_goals exact q_none
theorem len_lay (G : GG) : ∀ as : List Value, (lg_sl (as.map (cv G))).length = (layA as).length
  | [] => rfl
  | v :: t => by
    have ih := len_lay G t
    unfold lg_sl at ih ⊢
    rw [List.map_cons, List.flatMap_cons, List.length_append, ih]
    cases v <;> simp [layA, cv, Value.category] <;> omega
theorem prs_pad {G : GG} : ∀ (n : Nat) (lv : LV) (i : Nat), prs G i (padL n lv) = prs G i lv
  | 0, lv, i => by cases lv <;> rfl
  | n + 1, [], i => prs_pad n [] (i + 1)
  | n + 1, none :: t, i => prs_pad n t (i + 1)
  | n + 1, some v :: t, i => congrArg (List.cons (i, cv G v)) (prs_pad n t (i + 1))
theorem prs_lay (G : GG) : ∀ (as : List Value) (i : Nat), prs G i (layA as) = lv_args i (as.map (cv G))
  | [], i => rfl
  | v :: t, i => by
    have h1 := prs_lay G t (i + 1)
    have h2 := prs_lay G t (i + 2)
    cases v <;> simp [layA, prs, lv_args, cv, Value.category, h1, h2]
theorem prs_args (G : GG) (as : List Value) (i n : Nat) (q : Nat × Value) (h : q ∈ prs G i (padL n (layA as))) : q ∈ lv_args i (as.map (cv G)) := by
  rw [prs_pad, prs_lay] at h
  exact h
/-- a method, from its body -/
theorem Met_of {d y : Nat} {as : List Value} {h : AH} {o : OU} (hy : y < 310) (hl : (layA as).length ≤ MX y) (hw : WS d y 0 (padL (MX y) (layA as)) [] h o) : MetA d y as h o := by
  intro l G hfl
  obtain ⟨hok, hcode⟩ := mt_ok hy
  obtain ⟨hcls, hini, hpl, hne, hmx, hkind⟩ := okR_f hok
  refine va_MetF (cc := (mrow y).2.2.1) (maxL := (mrow y).2.2.2.1) (ret := (mrow y).2.2.2.2.1) hpl rfl ?_
  intro p e s m args below meth c s₁ B hml hv
  obtain ⟨rfl, hP, hz, hK, hX, hS, hZ, hW, hE, hN⟩ := hv
  have hts := atoms_spec (ws := wsY y) B.pre
  have hlk := B.notSynchronized
  have hlen := len_lay G as
  have hl2 : (lg_sl (as.map (cv G))).length ≤ (mrow y).2.2.2.1 := by rw [hlen]; exact hl
  have hent := lv_entry (as.map (cv G)) hl2
  rw [lg_entry_eq]
  generalize (lg_sl (as.map (cv G)) ++ List.replicate ((mrow y).2.2.2.1 - (lg_sl (as.map (cv G))).length) Slot.unset).toArray = ls at hent ⊢
  have C : Ctx G y d p l (headSpec (wsY y) (roomA d (o.2.1 - h.1) (o.2.2.1 - h.2.1))).room s m (as.map (cv G)).toArray meth c := ⟨B.exec, B.bytes, hml, by rw [hcls]; exact findClass_of_methodNamed B.named, B.returns, fun hin => by rw [← hin]; exact (name_of_methodNamed B.named B.method).1, fun w hw => hts w (List.mem_cons_of_mem _ hw), hN, hfl, hK, hS, hZ, Nat.le_refl _, Nat.le_refl _, hX, by omega, by rw [hml]; exact hmx, fun hh => absurd hh (by omega)⟩
  have hmono := hw.1
  have := hw.2 G p l e _ s m _ below meth c s.heap [] ls 0 0 h.1 h.2.1 (MQ below (QcA G o) (as.map (cv G)).toArray s (o.2.1 - h.1) (o.2.2.1 - h.2.1) (regA G)) C ⟨hP, va_S.rf, hE, hW, by omega, by omega, hz⟩ ⟨hent.1, hent.2.1, fun q hq => hent.2.2 q (prs_args G as 0 _ q hq)⟩ ⟨by show _ ≤ h.1 + (o.2.1 - h.1); omega, by show _ ≤ h.2.1 + (o.2.2.1 - h.2.1); omega⟩ ?_
  · exact this
  · intro pc i ls1 H locs hd hr hP1 hS1 hW1 hE1
    have hq : ∀ t : State, t.heap = H → s.WarmedH t.vm → QcA G o (as.map (cv G)).toArray s (.returned (o.1.map (cv G))) t := fun t ht _ => ⟨rfl, by rw [ht]; exact hP1, hS1.F ht, hW1, hE1⟩
    unfold okRet at hr
    split at hr
    · rename_i x hx
      rw [hx] at hq ⊢
      rcases hr with hr | ⟨hr, hx2⟩ | ⟨hr, hx2⟩
      · exact W.iret C.1 C.2.1 (C.2.2.2.2.1.trans hr) hq hS1.2.2 hd hlk
      · exact W.zret C.1 C.2.1 (C.2.2.2.2.1.trans hr) (by rcases hx2 with rfl | rfl <;> rfl) hq hS1.2.2 hd hlk
      · exact W.zret C.1 C.2.1 (C.2.2.2.2.1.trans hr) (by rw [← hx2]; exact pk_nb _) hq hS1.2.2 hd hlk
    · rename_i x hx
      rw [hx] at hq ⊢
      exact W.lret C.1 C.2.1 (C.2.2.2.2.1.trans hr) hq hS1.2.2 hd hlk
    · rename_i x hx
      rw [hx] at hq ⊢
      have hrt : ∃ rt, (mrow y).2.2.2.2.1 = some rt ∧ ((∃ n, rt = .object n) ∨ ∃ t, rt = .array t) := by
        rcases hr.2 with ⟨n, hn⟩ | ⟨n, hn⟩
        · exact ⟨_, hn, Or.inl ⟨n, rfl⟩⟩
        · exact ⟨_, hn, Or.inr ⟨n, rfl⟩⟩
      obtain ⟨rt, hrt, hk⟩ := hrt
      refine W.aret C.1 C.2.1 (C.2.2.2.2.1.trans hrt) hk ?_ hq hS1.2.2 hd hlk
      cases x <;> first | exact Or.inl rfl | exact Or.inr ⟨_, rfl⟩ | exact absurd (show false = true from hr.1) Bool.false_ne_true
    · rename_i hx
      rw [hx] at hq ⊢
      exact W.vret C.1 C.2.1 (C.2.2.2.2.1.trans hr) hq hS1.2.2 hd hlk
    · exact hr.elim
/-- WHAT THE ABSTRACT MACHINE COMES TO, THE MACHINE COMES TO -/
theorem sound_of {N : Nat} (hN : N ≤ 310) (hlr : ∀ (d mt pc : Nat) (lv : LV) (st : List Value) (h : AH) (o : OU) (r : AT) (j b : Nat) (v : Value) (lab : Option (List Bool)), mt ≤ N → mt = 310 → decode (mrow mt).2.2.1 pc = .ok (.invokestatic j, 3) → inM (mrow mt).1 j 9002 = true → aI mt pc lv st h (.invokestatic j, 3, 9002, b, v, lab) = some r → GoOn d o r → WS d mt pc lv st h o) : ∀ (f d mt pc : Nat) (lv : LV) (st : List Value) (h : AH) (o : OU), mt ≤ N → (N < 310 → N = 309) → aX f d (mt, pc, lv, st, h) = some o → WS d mt pc lv st h o := by
  intro f
  induction f with
  | zero => intro d mt pc lv st h o _ _ hx; cases hx
  | succ f ih =>
    intro d mt pc lv st h o hm hN9 hx
    rw [aX] at hx
    cases hs : aS mt pc lv st h with
    | none => rw [hs] at hx; cases hx
    | some r =>
      rw [hs] at hx
      obtain ⟨e, he, ha⟩ := ob_some (show ob (KM mt pc) _ = some r from hs)
      have hgo : GoOn d o r := by
        obtain ⟨m1, p1, l1, s1, h1⟩ | ⟨b, ⟨m1, p1, l1, s1, h1⟩, ⟨m2, p2, l2, s2, h2⟩⟩ | ⟨y, as, ⟨m2, p2, l2, s2, h2⟩⟩ | o' := r
        · have hmm : m1 = mt := aI_same ha
          exact ih _ _ _ _ _ _ _ (by omega) hN9 hx
        · have hmm : m1 = mt ∧ m2 = mt := aI_same ha
          dsimp only at hx
          show if b = true then _ else _
          split at hx
          · rename_i hb; rw [if_pos hb]; exact ih _ _ _ _ _ _ _ (by omega) hN9 hx
          · rename_i hb; rw [if_neg hb]; exact ih _ _ _ _ _ _ _ (by omega) hN9 hx
        · cases d with
          | zero => cases hx
          | succ d =>
            have hmm : m2 = mt := aI_same ha
            dsimp only at hx
            obtain ⟨o1, h1, h3⟩ := ob_some hx
            refine ⟨d, o1, rfl, fun hy hl => ?_, ih _ _ _ _ _ _ _ (by omega) hN9 h3⟩
            have w1 := ih _ _ _ _ _ _ _ (by omega) hN9 h1
            exact ⟨Met_of hy hl w1, w1.1⟩
        · exact Option.some.inj hx
      exact WS_trim (step_ok (by omega) (fun j b v lab h0 hd hm2 ha2 => hlr d mt pc _ st h o r j b v lab hm h0 hd hm2 ha2 hgo) (KM_ok he) ha hgo)
theorem sound_lt (f d mt pc : Nat) (lv : LV) (st : List Value) (h : AH) (o : OU) (hm : mt < 310) (hx : aX f d (mt, pc, lv, st, h) = some o) : WS d mt pc lv st h o :=
  sound_of (N := 309) (by omega) (fun d mt pc lv st h o r j b v lab h1 h2 => absurd h2 (by omega)) f d mt pc lv st h o (by omega) (fun _ => rfl) hx
/-- a method's contract, from the abstract machine's -/
theorem Met_call {d y : Nat} {as : List Value} {h : AH} {o : OU} (hy : y < 310) (hl : (layA as).length ≤ MX y) (hx : aCall (d + 1) y as h = some o) : MetA d y as h o := by
  obtain ⟨f, hf⟩ := aAt_iff.mp (show aAt d y 0 (padL (MX y) (layA as)) [] h = some o from hx)
  exact Met_of hy hl (sound_lt f d y 0 _ _ h o hy hf)
