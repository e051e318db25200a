/-! A FIELD THAT NO METHOD OF SOME LIST PUTS stays as it is, whatever is called -/
def KpR (r0 c0 b0 : Nat) (v : Option Value) (h : AH) : Prop := 118 ≤ h.1 ∧ ∃ fs, ag h r0 = some (.inr (c0, fs)) ∧ fs[b0]? = v
def putE (c0 b0 : Nat) (e : EN) : Bool := match e with
  | (.putfield _, _, a, b, _, _) => a == c0 && b == b0
  | _ => false
def calE (e : EN) : Option Nat := match e with
  | (.invokespecial _, _, a, _, _, _) => some a
  | (.invokevirtual _, _, a, _, _, _) => some a
  | (.invokestatic _, _, a, _, _, _) => some a
  | _ => none
def KpT (P : AH → Prop) (m : Nat) (e : EN) (r : AT) : Prop := match r with
  | .inl c => c.1 = m ∧ P c.2.2.2.2
  | .inr (.inl (_, c1, c2)) => (c1.1 = m ∧ P c1.2.2.2.2) ∧ c2.1 = m ∧ P c2.2.2.2.2
  | .inr (.inr (.inl (y, _, c))) => (c.1 = m ∧ P c.2.2.2.2) ∧ calE e = some y
  | .inr (.inr (.inr o)) => P o.2
section KEPT
variable {α β : Type} {r : β} {st : List Value} {h : AH}
theorem ob_s {o : Option α} {k : α → Option β} (q : ob o k = some r) : ∃ x, o = some x ∧ k x = some r := by
  cases o with
  | none => cases q
  | some x => exact ⟨x, rfl, q⟩
theorem pI_s {k : Int32 → List Value → Option β} (q : pI st k = some r) : ∃ x t, k x t = some r := by
  unfold pI at q
  split at q
  · exact ⟨_, _, q⟩
  · cases q
theorem pJ_s {k : Int64 → List Value → Option β} (q : pJ st k = some r) : ∃ x t, k x t = some r := by
  unfold pJ at q
  split at q
  · exact ⟨_, _, q⟩
  · cases q
theorem pR_s {k : Nat → List Value → Option β} (q : pR st k = some r) : ∃ x t, k x t = some r := by
  unfold pR at q
  split at q
  · exact ⟨_, _, q⟩
  · cases q
theorem pV_s {k : Value → List Value → Option β} (q : pV st k = some r) : ∃ x t, k x t = some r := by
  unfold pV at q
  split at q
  · exact ⟨_, _, q⟩
  · cases q
theorem gO_s {c : Option AC} {k : Nat → List Value → Option β} (q : gO c k = some r) : ∃ x t, c = some (.inr (x, t)) ∧ k x t = some r := by
  unfold gO at q
  split at q
  · exact ⟨_, _, rfl, q⟩
  · cases q
theorem gI_s {c : Option AC} {k : FieldType → Nat → (Nat → Int32) → Option β} (q : gI c k = some r) : ∃ x t f, (∃ y, c = some (.inl y)) ∧ k x t f = some r := by
  unfold gI at q
  split at q
  · exact ⟨_, _, _, ⟨_, rfl⟩, q⟩
  · cases q
theorem gJ_s {c : Option AC} {k : FieldType → Nat → (Nat → Int64) → Option β} (q : gJ c k = some r) : ∃ x t f, (∃ y, c = some (.inl y)) ∧ k x t f = some r := by
  unfold gJ at q
  split at q
  · exact ⟨_, _, _, ⟨_, rfl⟩, q⟩
  · cases q
theorem gR_s {c : Option AC} {k : FieldType → Nat → (Nat → Option Nat) → Option β} (q : gR c k = some r) : ∃ x t f, (∃ y, c = some (.inl y)) ∧ k x t f = some r := by
  unfold gR at q
  split at q
  · exact ⟨_, _, _, ⟨_, rfl⟩, q⟩
  · cases q
theorem gL_s {c : Option AC} {k : Nat → Option β} (q : gL c k = some r) : ∃ x, k x = some r := by
  unfold gL at q
  split at q
  · exact ⟨_, q⟩
  · cases q
theorem gC_s {c : FieldType} {k : String → Option β} (q : gC c k = some r) : ∃ x, k x = some r := by
  unfold gC at q
  split at q
  · exact ⟨_, q⟩
  · cases q
theorem gT_s {p : Prop} [Decidable p] {k : Option β} (q : gT p k = some r) : p ∧ k = some r := by
  unfold gT at q
  split at q
  · rename_i z; exact ⟨z, q⟩
  · cases q
theorem gX_s {i : Int32} {n : Nat} {k : Option β} (q : gX i n k = some r) : k = some r := by
  unfold gX at q
  split at q
  · cases q
  · exact q
theorem lI_s {o : Option Value} {k : Int32 → Option β} (q : lI o k = some r) : ∃ x, k x = some r := by
  unfold lI at q
  split at q
  · exact ⟨_, q⟩
  · cases q
theorem lJ_s {o : Option Value} {k : Int64 → Option β} (q : lJ o k = some r) : ∃ x, k x = some r := by
  unfold lJ at q
  split at q
  · exact ⟨_, q⟩
  · cases q
theorem lR_s {o : Option Value} {k : Value → Option β} (q : lR o k = some r) : ∃ x, k x = some r := by
  unfold lR at q
  split at q
  · exact ⟨_, q⟩
  · exact ⟨_, q⟩
  · cases q
theorem vI_s {o : Value} {k : Int32 → Option β} (q : vI o k = some r) : ∃ x, k x = some r := by
  unfold vI at q
  split at q
  · exact ⟨_, q⟩
  · cases q
theorem vT_s {o : Value} {k : Nat → Option β} (q : vT o k = some r) : ∃ x, k x = some r := by
  unfold vT at q
  split at q
  · exact ⟨_, q⟩
  · cases q
variable {P : Prop}
theorem pI_c {k : Int32 → List Value → Option β} (q : pI st k = some r) (f : ∀ x t, k x t = some r → P) : P := by obtain ⟨x, t, q⟩ := pI_s q; exact f x t q
theorem pJ_c {k : Int64 → List Value → Option β} (q : pJ st k = some r) (f : ∀ x t, k x t = some r → P) : P := by obtain ⟨x, t, q⟩ := pJ_s q; exact f x t q
theorem pR_c {k : Nat → List Value → Option β} (q : pR st k = some r) (f : ∀ x t, k x t = some r → P) : P := by obtain ⟨x, t, q⟩ := pR_s q; exact f x t q
theorem pV_c {k : Value → List Value → Option β} (q : pV st k = some r) (f : ∀ x t, k x t = some r → P) : P := by obtain ⟨x, t, q⟩ := pV_s q; exact f x t q
theorem gO_c {c : Option AC} {k : Nat → List Value → Option β} (q : gO c k = some r) (f : ∀ x t, k x t = some r → P) : P := by obtain ⟨x, t, -, q⟩ := gO_s q; exact f x t q
theorem gI_c {c : Option AC} {k : FieldType → Nat → (Nat → Int32) → Option β} (q : gI c k = some r) (f : ∀ x t y, k x t y = some r → P) : P := by obtain ⟨x, t, y, -, q⟩ := gI_s q; exact f x t y q
theorem gJ_c {c : Option AC} {k : FieldType → Nat → (Nat → Int64) → Option β} (q : gJ c k = some r) (f : ∀ x t y, k x t y = some r → P) : P := by obtain ⟨x, t, y, -, q⟩ := gJ_s q; exact f x t y q
theorem gR_c {c : Option AC} {k : FieldType → Nat → (Nat → Option Nat) → Option β} (q : gR c k = some r) (f : ∀ x t y, k x t y = some r → P) : P := by obtain ⟨x, t, y, -, q⟩ := gR_s q; exact f x t y q
theorem gL_c {c : Option AC} {k : Nat → Option β} (q : gL c k = some r) (f : ∀ x, k x = some r → P) : P := by obtain ⟨x, q⟩ := gL_s q; exact f x q
theorem gT_c {p : Prop} [Decidable p] {k : Option β} (q : gT p k = some r) (f : k = some r → P) : P := f (gT_s q).2
theorem gX_c {i : Int32} {n : Nat} {k : Option β} (q : gX i n k = some r) (f : k = some r → P) : P := f (gX_s q)
theorem lI_c {o : Option Value} {k : Int32 → Option β} (q : lI o k = some r) (f : ∀ x, k x = some r → P) : P := by obtain ⟨x, q⟩ := lI_s q; exact f x q
theorem lJ_c {o : Option Value} {k : Int64 → Option β} (q : lJ o k = some r) (f : ∀ x, k x = some r → P) : P := by obtain ⟨x, q⟩ := lJ_s q; exact f x q
theorem lR_c {o : Option Value} {k : Value → Option β} (q : lR o k = some r) (f : ∀ x, k x = some r → P) : P := by obtain ⟨x, q⟩ := lR_s q; exact f x q
theorem vI_c {o : Value} {k : Int32 → Option β} (q : vI o k = some r) (f : ∀ x, k x = some r → P) : P := by obtain ⟨x, q⟩ := vI_s q; exact f x q
theorem ob_c {o : Option α} {k : α → Option β} (q : ob o k = some r) (f : ∀ x, k x = some r → P) : P := by obtain ⟨x, -, q⟩ := ob_s q; exact f x q
variable {r0 c0 b0 : Nat} {v0 : Option Value}
theorem KpR.arr (K : KpR r0 c0 b0 v0 h) {x : Nat} {c : AC} (e : ∃ y, ag h x = some (.inl y)) : KpR r0 c0 b0 v0 (au h x c) := by
  obtain ⟨k1, fs, k2, k3⟩ := K
  obtain ⟨y, e⟩ := e
  refine ⟨k1, fs, ?_, k3⟩
  rw [e_ag, if_neg (fun z => by rw [← z, k2] at e; cases e)]
  exact k2
theorem KpR.obj (K : KpR r0 c0 b0 v0 h) {x a b : Nat} {fs : List Value} {w : Value} (e : ag h x = some (.inr (a, fs))) (hb : (a == c0 && b == b0) = false) : KpR r0 c0 b0 v0 (au h x (cO a (fs.set b w))) := by
  obtain ⟨k1, gs, k2, k3⟩ := K
  by_cases z : r0 = x
  · subst z
    rw [k2] at e
    cases e
    refine ⟨k1, fs.set b w, by rw [e_ag, if_pos rfl], ?_⟩
    have bb : b ≠ b0 := fun z => by subst z; simp at hb
    rw [List.getElem?_set_ne bb]
    exact k3
  · exact ⟨k1, gs, by rw [e_ag, if_neg z]; exact k2, k3⟩
theorem KpR.new (K : KpR r0 c0 b0 v0 h) (h0 : r0 < 118) {n : Nat} {c : AC} : KpR r0 c0 b0 v0 (an h n c) := by
  obtain ⟨k1, gs, k2, k3⟩ := K
  exact ⟨Nat.le_succ_of_le k1, gs, by rw [e_agn, if_neg (by omega)]; exact k2, k3⟩
theorem row_kp {r : AT} {k : List Value → AH → Option AT} (K : KpR r0 c0 b0 v0 h) (h0 : r0 < 118) (q : rowB h st k = some r) : ∃ st' h', k st' h' = some r ∧ KpR r0 c0 b0 v0 h' := by
  unfold rowB at q
  obtain ⟨o, st1, q⟩ := pR_s q
  obtain ⟨i, st2, q⟩ := pI_s q
  obtain ⟨x, st3, q⟩ := pR_s q
  obtain ⟨ci, fs, -, q⟩ := gO_s q
  split at q
  · obtain ⟨ct, ts, -, q⟩ := gO_s q
    split at q
    · obtain ⟨ty, n, f, -, q⟩ := gI_s q
      obtain ⟨ty', n', f', e, q⟩ := gJ_s q
      obtain ⟨-, q⟩ := gT_s q
      split at q
      · exact ⟨_, _, q, K.arr e⟩
      · obtain ⟨-, q⟩ := gT_s q
        exact ⟨_, _, q, K.new h0⟩
    · cases q
  · cases q
theorem cpy_kp {r : AT} {k : List Value → AH → Option AT} (K : KpR r0 c0 b0 v0 h) (q : cpyB h st k = some r) : ∃ st' h', k st' h' = some r ∧ KpR r0 c0 b0 v0 h' := by
  unfold cpyB at q
  obtain ⟨n, st1, q⟩ := pI_s q
  obtain ⟨dp, st2, q⟩ := pI_s q
  obtain ⟨d, st3, q⟩ := pR_s q
  obtain ⟨sp, st4, q⟩ := pI_s q
  obtain ⟨s, st5, q⟩ := pR_s q
  obtain ⟨-, q⟩ := gT_s q
  split at q
  · rename_i e
    obtain ⟨-, q⟩ := gT_s q
    exact ⟨_, _, q, K.arr ⟨_, e⟩⟩
  · rename_i e
    obtain ⟨-, q⟩ := gT_s q
    exact ⟨_, _, q, K.arr ⟨_, e⟩⟩
  · cases q
theorem call_kpT {P : AH → Prop} {m pc a b : Nat} {lv : LV} {chk : List Value → Bool} {r : AT} {e : EN} (K : P h) (c : calE e = some a) (q : callA m pc a b lv st h chk = some r) : KpT P m e r := by
  unfold callA at q
  obtain ⟨x, -, q⟩ := ob_s q
  obtain ⟨-, q⟩ := gT_s q
  cases q
  exact ⟨⟨rfl, K⟩, c⟩
set_option maxHeartbeats 400000 in
theorem aI_kp (h0 : r0 < 118) {m pc : Nat} {lv : LV} {e : EN} {r : AT} (hb : putE c0 b0 e = false) (K : KpR r0 c0 b0 v0 h) (q : aI m pc lv st h e = some r) : KpT (KpR r0 c0 b0 v0) m e r := by
  obtain ⟨i, len, a, b, v, lab⟩ := e
  cases i
  case putfield =>
    delta aI at q
    dsimp only at q
    with_reducible obtain ⟨w, t, q⟩ := pV_s q
    with_reducible obtain ⟨x, t, q⟩ := pR_s q
    with_reducible obtain ⟨ci, fs, e, q⟩ := gO_s q
    with_reducible obtain ⟨y, q⟩ := vT_s q
    with_reducible obtain ⟨⟨z, -, -⟩, q⟩ := gT_s q
    cases q
    subst z
    exact ⟨rfl, K.obj e hb⟩
  case invokespecial =>
    delta aI at q
    dsimp only at q
    split at q
    · with_reducible obtain ⟨w, t, q⟩ := pR_s q
      with_reducible obtain ⟨-, q⟩ := gT_s q
      cases q
      exact ⟨rfl, K⟩
    · exact call_kpT K rfl q
  case invokevirtual =>
    delta aI at q
    dsimp only at q
    split at q
    · with_reducible obtain ⟨w, t, q⟩ := pR_s q
      with_reducible obtain ⟨x, n, f, -, q⟩ := gI_s q
      with_reducible obtain ⟨-, q⟩ := gT_s q
      cases q
      exact ⟨rfl, K.new h0⟩
    · with_reducible obtain ⟨y, q⟩ := vT_s q
      exact call_kpT K rfl q
  case invokestatic =>
    delta aI at q
    dsimp only at q
    split at q
    · obtain ⟨st', h', q, K'⟩ := cpy_kp K q
      with_reducible obtain ⟨-, q⟩ := gT_s q
      cases q
      exact ⟨rfl, K'⟩
    · split at q
      · obtain ⟨st', h', q, K'⟩ := row_kp K h0 q
        with_reducible obtain ⟨-, q⟩ := gT_s q
        cases q
        exact ⟨rfl, K'⟩
      · exact call_kpT K rfl q
  case newarray =>
    delta aI at q
    dsimp only at q
    with_reducible obtain ⟨w, t, q⟩ := pI_s q
    with_reducible obtain ⟨-, q⟩ := gT_s q
    with_reducible obtain ⟨x, -, q⟩ := ob_s q
    cases q
    exact ⟨rfl, K.new h0⟩
  case anewarray =>
    delta aI at q
    dsimp only at q
    with_reducible obtain ⟨w, t, q⟩ := pI_s q
    with_reducible obtain ⟨-, q⟩ := gT_s q
    cases q
    exact ⟨rfl, K.new h0⟩
  case new =>
    delta aI at q
    dsimp only at q
    with_reducible obtain ⟨-, q⟩ := gT_s q
    cases q
    exact ⟨rfl, K.new h0⟩
  case iastore =>
    delta aI at q
    dsimp only at q
    with_reducible obtain ⟨w, t, q⟩ := pI_s q
    with_reducible obtain ⟨w, t, q⟩ := pI_s q
    with_reducible obtain ⟨w, t, q⟩ := pR_s q
    with_reducible obtain ⟨x, n, f, e, q⟩ := gI_s q
    with_reducible obtain ⟨-, q⟩ := gT_s q
    with_reducible have q := gX_s q
    cases q
    exact ⟨rfl, K.arr e⟩
  case bastore =>
    delta aI at q
    dsimp only at q
    with_reducible obtain ⟨w, t, q⟩ := pI_s q
    with_reducible obtain ⟨w, t, q⟩ := pI_s q
    with_reducible obtain ⟨w, t, q⟩ := pR_s q
    with_reducible obtain ⟨x, n, f, e, q⟩ := gI_s q
    with_reducible obtain ⟨-, q⟩ := gT_s q
    with_reducible have q := gX_s q
    cases q
    exact ⟨rfl, K.arr e⟩
  case lastore =>
    delta aI at q
    dsimp only at q
    with_reducible obtain ⟨w, t, q⟩ := pJ_s q
    with_reducible obtain ⟨w, t, q⟩ := pI_s q
    with_reducible obtain ⟨w, t, q⟩ := pR_s q
    with_reducible obtain ⟨x, n, f, e, q⟩ := gJ_s q
    with_reducible obtain ⟨-, q⟩ := gT_s q
    with_reducible have q := gX_s q
    cases q
    exact ⟨rfl, K.arr e⟩
  case aastore =>
    delta aI at q
    dsimp only at q
    with_reducible obtain ⟨w, t, q⟩ := pR_s q
    with_reducible obtain ⟨w, t, q⟩ := pI_s q
    with_reducible obtain ⟨w, t, q⟩ := pR_s q
    with_reducible obtain ⟨x, n, f, e, q⟩ := gR_s q
    with_reducible obtain ⟨ci, fs, -, q⟩ := gO_s q
    with_reducible obtain ⟨C, q⟩ := gC_s q
    with_reducible obtain ⟨-, q⟩ := gT_s q
    with_reducible have q := gX_s q
    cases q
    exact ⟨rfl, K.arr e⟩
  case ireturn =>
    delta aI at q
    dsimp only at q
    split at q
    · with_reducible obtain ⟨-, q⟩ := gT_s q
      cases q
      exact K
    · cases q
  case lreturn =>
    delta aI at q
    dsimp only at q
    split at q
    · cases q
      exact K
    · cases q
  case areturn =>
    delta aI at q
    dsimp only at q
    split at q
    · with_reducible obtain ⟨-, q⟩ := gT_s q
      cases q
      exact K
    · cases q
  case return_ =>
    delta aI at q
    dsimp only at q
    split at q
    · cases q
      exact K
    · cases q
  all_goals
    delta aI at q
    dsimp only at q
    first
      | (exfalso; cases q; done)
      | skip
  all_goals
    iterate 6 (first
      | (with_reducible refine pI_c q (fun w t q => ?_))
      | (with_reducible refine pJ_c q (fun w t q => ?_))
      | (with_reducible refine pR_c q (fun w t q => ?_))
      | (with_reducible refine pV_c q (fun w t q => ?_))
      | (with_reducible refine lI_c q (fun w q => ?_))
      | (with_reducible refine lJ_c q (fun w q => ?_))
      | (with_reducible refine lR_c q (fun w q => ?_))
      | (with_reducible refine vI_c q (fun w q => ?_))
      | (with_reducible refine gO_c q (fun w t q => ?_))
      | (with_reducible refine gI_c q (fun w t f q => ?_))
      | (with_reducible refine gJ_c q (fun w t f q => ?_))
      | (with_reducible refine gR_c q (fun w t f q => ?_))
      | (with_reducible refine gL_c q (fun w q => ?_))
      | (with_reducible refine gT_c q (fun q => ?_))
      | (with_reducible refine gX_c q (fun q => ?_))
      | (with_reducible refine ob_c q (fun w q => ?_))
      | skip)
  all_goals first
    | (unfold nx at q; cases q; exact ⟨rfl, K⟩)
    | (unfold br at q; cases q; exact ⟨⟨rfl, K⟩, rfl, K⟩)
/-- a list of methods that call nothing outside it and put nothing there -/
def goodK (c0 b0 : Nat) (bad : List Nat) : Bool := KT.all fun q => bad.contains q.1 || q.2.all fun e => !putE c0 b0 e.2 && (match calE e.2 with
  | some y => decide (9000 ≤ y) || !bad.contains y
  | none => true)
theorem good_of {bad : List Nat} (G : goodK c0 b0 bad = true) {m pc : Nat} {e : EN} (hm : bad.contains m = false) (q : KM m pc = some e) : putE c0 b0 e = false ∧ ∀ y, calE e = some y → 9000 ≤ y ∨ bad.contains y = false := by
  unfold KM at q
  cases z : KT.find? (fun q => q.1 == m) with
  | none => rw [z] at q; cases q
  | some p =>
    rw [z] at q
    have q : (p.2.find? (fun e => e.1 == pc)).map (fun e => e.2) = some e := q
    cases y : p.2.find? (fun e => e.1 == pc) with
    | none => rw [y] at q; cases q
    | some e' =>
      rw [y] at q
      cases q
      have m1 := List.mem_of_find?_eq_some z
      have m2 := List.mem_of_find?_eq_some y
      have e1 : p.1 = m := by have := List.find?_some z; exact eq_of_beq this
      unfold goodK at G
      have g := List.all_eq_true.mp G p m1
      rw [e1, hm, Bool.false_or] at g
      have g := List.all_eq_true.mp g e' m2
      rw [Bool.and_eq_true, Bool.not_eq_true'] at g
      refine ⟨g.1, fun y hy => ?_⟩
      have g2 := g.2
      rw [hy] at g2
      have g2 : (decide (9000 ≤ y) || !bad.contains y) = true := g2
      rw [Bool.or_eq_true, decide_eq_true_iff, Bool.not_eq_true'] at g2
      exact g2
end KEPT
