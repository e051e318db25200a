/-! THE ABSTRACT WORLD IN THE MACHINE'S HEAP -/
abbrev GG : Type := Nat × va_G × (FieldType → ClassId) × (Nat → Nat) × (Nat → Option AC)
def CV : List vw_C := CL.take 14
def cvA (G : GG) (a : Nat) : Nat := if a < 1048576 then G.1 + a else G.2.2.2.1 (a - 1048576)
def cv (G : GG) (v : Value) : Value := match v with
  | .ref a => .ref (cvA G a)
  | w => w
theorem cv_cat (G : GG) (v : Value) : (cv G v).category = v.category := by cases v <;> rfl
theorem cvA_lo (G : GG) {a : Nat} (h : a < 1048576) : cvA G a = G.1 + a := if_pos h
def conv (G : GG) (c : AC) : va_E := match c with
  | .inl (ty, n, .inl f) => .inl (G.2.2.1 ty, n, .inl f)
  | .inl (ty, n, .inr (.inl f)) => .inl (G.2.2.1 ty, n, .inr (.inl f))
  | .inl (ty, n, .inr (.inr (.inl f))) => .inl (G.2.2.1 ty, n, .inr (.inr (.inl f)))
  | .inl (ty, n, .inr (.inr (.inr (.inl f)))) => .inl (G.2.2.1 ty, n, .inr (.inr (.inr (.inl f))))
  | .inl (ty, n, .inr (.inr (.inr (.inr f)))) => .inl (G.2.2.1 ty, n, .inr (.inr (.inr (.inr (fun i => (f i).map (cvA G))))))
  | .inr (ci, fs) => .inr (ci, fs.map (cv G))
def wsOf (G : GG) (h : AH) : va_W := (List.range h.1).map fun a => (G.1 + a, conv G ((h.2.2 a).getD (cO 13 [])))
def regA (G : GG) : Nat → Prop := fun q => G.1 ≤ q
theorem wsOf_at {G : GG} {h : AH} {a : Nat} {c : AC} (hc : h.2.2 a = some c) (ha : a < h.1) : (wsOf G h)[a]? = some (G.1 + a, conv G c) := by
  simp [wsOf, hc, ha]
theorem wsOf_fst {G : GG} {h : AH} {i : Nat} {p : Nat × va_E} (hp : (wsOf G h)[i]? = some p) : i < h.1 ∧ p.1 = G.1 + i := by
  unfold wsOf at hp
  rw [List.getElem?_map] at hp
  by_cases hi : i < h.1
  · rw [List.getElem?_range hi] at hp
    cases hp
    exact ⟨hi, rfl⟩
  · rw [List.getElem?_eq_none (by simpa using hi)] at hp
    cases hp
theorem wsOf_D (G : GG) (h : AH) : va_D (regA G) (wsOf G h) := by
  refine ⟨fun i j p q hi hj e => ?_, fun k q hq => ?_⟩
  · have h1 := (wsOf_fst hi).2
    have h2 := (wsOf_fst hj).2
    omega
  · have h1 := (wsOf_fst hq).2
    show G.1 ≤ q.1
    omega
theorem wsOf_set {G : GG} {h : AH} {a : Nat} (c : AC) : (wsOf G h).set a (G.1 + a, conv G c) = wsOf G (au h a c) := by
  apply List.ext_getElem?
  intro i
  rw [List.getElem?_set]
  unfold wsOf au
  simp only [List.length_map, List.length_range, List.getElem?_map]
  by_cases hi : i < h.1
  · rw [List.getElem?_range hi]
    by_cases e : a = i
    · subst e
      simp [hi]
    · rw [if_neg e]
      simp [Ne.symm e]
  · rw [List.getElem?_eq_none (l := List.range h.1) (by simpa using hi)]
    by_cases e : a = i
    · subst e
      simp [hi]
    · rw [if_neg e]
      rfl
theorem wsOf_app {G : GG} {h : AH} (n : Nat) (c : AC) : wsOf G h ++ [(G.1 + h.1, conv G c)] = wsOf G (an h n c) := by
  unfold wsOf an
  simp only [List.range_succ, List.map_append, List.map_cons, List.map_nil, if_true, Option.getD_some]
  congr 1
  apply List.map_congr_left
  intro a ha
  have : a < h.1 := List.mem_range.mp ha
  rw [if_neg (by omega)]
def tyL : List FieldType := [.int, .long, .boolean, .object "RoundMaps$MapText", .object "RoundMaps$Net", .object "RoundMaps$Cells"]
def tysG (G : GG) : List (ClassId × FieldType) := tyL.map fun t => (G.2.2.1 t, t)
def okC (c : AC) : Prop := match c with
  | .inl (ty, _, .inr (.inr (.inr (.inr _)))) => ty ∈ tyL ∧ ∃ C, ty = .object C
  | .inl (ty, _) => ty ∈ tyL ∧ True
  | .inr (ci, _) => ci < 14
def WFH (h : AH) : Prop := (∀ a c, h.2.2 a = some c → a < 1048576 → a < h.1 ∧ okC c) ∧ (∀ a, a < h.1 → ∃ c, h.2.2 a = some c) ∧ h.1 ≤ 700001
theorem tysG_at (G : GG) {ty : FieldType} (h : ty ∈ tyL) : ∃ t0 : Nat, (tysG G)[t0]? = some (G.2.2.1 ty, ty) := by
  obtain ⟨i, hi⟩ := List.getElem?_of_mem h
  exact ⟨i, by simp [tysG, hi]⟩
theorem WFH.au {h : AH} (w : WFH h) {a : Nat} {c : AC} (ha : a < h.1) (hc : okC c) : WFH (au h a c) := by
  obtain ⟨w1, w2, w3⟩ := w
  refine ⟨fun b d hb hl => ?_, fun b hb => ?_, w3⟩
  · have hb : (if b = a then some c else h.2.2 b) = some d := hb
    by_cases e : b = a
    · subst e
      rw [if_pos rfl] at hb
      cases hb
      exact ⟨ha, hc⟩
    · rw [if_neg e] at hb
      exact w1 b d hb hl
  · show ∃ d, (if b = a then some c else h.2.2 b) = some d
    by_cases e : b = a
    · exact ⟨c, if_pos e⟩
    · rw [if_neg e]
      exact w2 b hb
theorem WFH.an {h : AH} (w : WFH h) {n : Nat} {c : AC} (hc : okC c) (hz : h.1 < 700000) : WFH (an h n c) := by
  obtain ⟨w1, w2, w3⟩ := w
  refine ⟨fun b d hb hl => ?_, fun b hb => ?_, ?_⟩
  · show b < h.1 + 1 ∧ okC d
    have hb : (if b = h.1 then some c else h.2.2 b) = some d := hb
    by_cases e : b = h.1
    · rw [if_pos e] at hb
      cases hb
      exact ⟨by omega, hc⟩
    · rw [if_neg e] at hb
      have := w1 b d hb hl
      exact ⟨by omega, this.2⟩
  · show ∃ d, (if b = h.1 then some c else h.2.2 b) = some d
    have hb : b < h.1 + 1 := hb
    by_cases e : b = h.1
    · exact ⟨c, if_pos e⟩
    · rw [if_neg e]
      exact w2 b (by omega)
  · show h.1 + 1 ≤ 700001
    omega
/-- what was there before the law began: the script, texts and their bytes -/
def XTc (G : GG) (a : Nat) (c : AC) (U : State) (H : Heap) : Prop := match c with
  | .inl (.char, n, .inl f) => va_X (cvA G a) n f U H ∧ cvA G a < G.1
  | .inl (.byte, n, .inl f) => va_T .byte (cvA G a) n (fun j => .int (f j)) (regA G) U H
  | .inr (14, fs) => va_O "java/lang/String" (cvA G a) (regA G) U H ∧ ∀ k v, fs[k]? = some v → k < 2 ∧ va_OF "java/lang/String" (TX14 k).2.1 (TX14 k).2.2.1 (cv G v) (cvA G a) (regA G) U H
  | _ => False
def XT (G : GG) (U : State) (H : Heap) : Prop := ∀ a c, 1048576 ≤ a → G.2.2.2.2 a = some c → XTc G a c U H
/-- what was there before stays -/
def EX (G : GG) (h : AH) : Prop := ∀ a, 1048576 ≤ a → h.2.2 a = G.2.2.2.2 a
def strT : List String := ["xyanud", "0123456789", "-A", "*/", "123456789", "+-"]
def SR (G : GG) (U : State) : Prop := ∀ q ∈ SL, vk_R (ownN q.1) q.2.1 (strT.getD q.2.2.1 "") (cvA G (1048577 + q.2.2.1)) U
/-- what the exception's making needs, and is no good word -/
def DCL : List Cond := [.declares ⟨"java/lang/RuntimeException", "<init>", "()V"⟩, .declares ⟨"java/lang/Exception", "<init>", "()V"⟩, .declares ⟨"java/lang/Throwable", "<init>", "()V"⟩]
theorem DCL_moved {s U : State} (h : s.vm.Alike U.vm) {w : Cond} (hw : w ∈ DCL) (hZ : va_Nw w s) : va_Nw w U := by
  have k : ∀ x : MethodName, va_Nw (.declares x) s → va_Nw (.declares x) U := fun x hx => va_tabs rfl (rfl : (s.setVm U.vm).vm = U.vm) (by rw [Cond.declares_setVm h]; exact hx)
  rcases List.mem_cons.mp hw with rfl | hw
  · exact k _ hZ
  rcases List.mem_cons.mp hw with rfl | hw
  · exact k _ hZ
  rcases List.mem_cons.mp hw with rfl | hw
  · exact k _ hZ
  · exact nomatch hw
def ZS (G : GG) (U : State) (H : Heap) : Prop := va_Z "java/lang/String" "COMPACT_STRINGS" "Z" (.int 1) (regA G) U H ∧ vx_Zq Bundle.tN "UNASSIGNED_STACK" Bundle.steD (regA G) U H ∧ vx_Zq Bundle.tN "SUPPRESSED_SENTINEL" Bundle.listD (regA G) U H ∧ ∀ w ∈ DCL, va_Nw w U
theorem ZS.moved {G : GG} {u U : State} {H : Heap} (hvm : u.vm.Alike U.vm) (h : ZS G u H) : ZS G U H := ⟨va_Z.moved hvm h.1, vx_Zq.moved hvm h.2.1, vx_Zq.moved hvm h.2.2.1, fun w hw => DCL_moved hvm hw (h.2.2.2 w hw)⟩
theorem ZS.kept {G : GG} {U : State} {H H1 : Heap} (h : ZS G U H) (hq : ∀ a : Nat, a < H.size → ¬ regA G a → H1[a]? = H[a]?) : ZS G U H1 := ⟨va_Z.kept h.1 hq, vx_Zq.kept h.2.1 hq, vx_Zq.kept h.2.2.1 hq, h.2.2.2⟩
theorem XTc.moved {G : GG} {a : Nat} {c : AC} {u U : State} {H : Heap} (hvm : u.vm.Alike U.vm) (h : XTc G a c u H) : XTc G a c U H := by
  unfold XTc at h ⊢
  split at h
  · exact ⟨va_X.moved hvm h.1, h.2⟩
  · exact va_T.moved hvm h
  · exact ⟨va_O.moved hvm h.1, fun k v hk => ⟨(h.2 k v hk).1, va_OF.moved hvm (h.2 k v hk).2⟩⟩
  · exact h.elim
theorem XTc.kept {G : GG} {a : Nat} {c : AC} {U : State} {H H1 : Heap} (h : XTc G a c U H) (hz : G.1 ≤ H.size) (hq : ∀ q : Nat, q < H.size → ¬ regA G q → H1[q]? = H[q]?) : XTc G a c U H1 := by
  unfold XTc at h ⊢
  split at h
  · obtain ⟨⟨scr, h1, h2⟩, h3⟩ := h
    exact ⟨⟨scr, by rw [hq _ (by omega) (by unfold regA; omega)]; exact h1, h2⟩, h3⟩
  · exact h.kept hq
  · exact ⟨h.1.kept hq, fun k v hk => ⟨(h.2 k v hk).1, (h.2 k v hk).2.kept hq⟩⟩
  · exact h.elim
theorem EX.au {G : GG} {h : AH} (x : EX G h) {a : Nat} {c : AC} (ha : a < 1048576) : EX G (au h a c) := by
  intro b hb
  show (if b = a then some c else h.2.2 b) = _
  rw [if_neg (by omega)]
  exact x b hb
theorem EX.an {G : GG} {h : AH} (x : EX G h) {n : Nat} {c : AC} (ha : h.1 < 1048576) : EX G (an h n c) := by
  intro b hb
  show (if b = h.1 then some c else h.2.2 b) = _
  rw [if_neg (by omega)]
  exact x b hb
theorem XT.moved {G : GG} {u U : State} {H : Heap} (hvm : u.vm.Alike U.vm) (h : XT G u H) : XT G U H := fun a c ha hc => (h a c ha hc).moved hvm
theorem XT.kept {G : GG} {U : State} {H H1 : Heap} (h : XT G U H) (hz : G.1 ≤ H.size) (hq : ∀ q : Nat, q < H.size → ¬ regA G q → H1[q]? = H[q]?) : XT G U H1 := fun a c ha hc => (h a c ha hc).kept hz hq
/-- what a method's start is: arguments and state -/
def StOk (G : GG) (h : AH) (U : State) : Prop := va_P G.2.1 CV (wsOf G h) U.heap ∧ U.heap.size = G.1 + h.1 ∧ va_K G.2.1 CV (tysG G) U ∧ XT G U U.heap ∧ SR G U ∧ ZS G U U.heap ∧ WFH h ∧ EX G h ∧ ∀ w ∈ NWL, va_Nw w U
def PcA (G : GG) (h : AH) (as : List Value) : Array Value → State → Prop := fun v U => v = (as.map (cv G)).toArray ∧ StOk G h U
def QcA (G : GG) (o : OU) : Array Value → State → Outcome → State → Prop := fun _ st oc t => oc = .returned (o.1.map (cv G)) ∧ va_P G.2.1 CV (wsOf G o.2) t.heap ∧ va_F (regA G) st t ∧ WFH o.2 ∧ EX G o.2
def roomA (d k n : Nat) : Room := { frames := d + 1, cells := k, slots := n, locals := 120 * d + 100 }
def wsY (y : Nat) : List Cond := wC (mrow y) :: TBg
def MetA (d y : Nat) (as : List Value) (h : AH) (o : OU) : Prop := ∀ (l : Launch) (G : GG), l.flags = flags0 → Met l (mrow y).2.1 (wsY y) (roomA d (o.2.1 - h.1) (o.2.2.1 - h.2.1)) (PcA G h as) (QcA G o) (o.2.1 - h.1) (o.2.2.1 - h.2.1) (regA G)
def prs (G : GG) : Nat → LV → List (Nat × Value)
  | _, [] => []
  | i, none :: t => prs G (i + 1) t
  | i, some v :: t => (i, cv G v) :: prs G (i + 1) t
theorem prs_ld {G : GG} : ∀ (lv : LV) (i k : Nat) (v : Value), ld lv k = some v → (i + k, cv G v) ∈ prs G i lv
  | [], _, _, _, h => by cases h
  | none :: t, i, 0, v, h => by cases h
  | some w :: t, i, 0, v, h => by cases h; exact List.mem_cons_self
  | none :: t, i, k + 1, v, h => by
    have := prs_ld (G := G) t (i + 1) k v h
    rw [show i + (k + 1) = i + 1 + k by omega]
    exact this
  | some w :: t, i, k + 1, v, h => by
    have := prs_ld (G := G) t (i + 1) k v h
    rw [show i + (k + 1) = i + 1 + k by omega]
    exact List.mem_cons_of_mem _ this
theorem prs_ge {G : GG} : ∀ (lv : LV) (i : Nat) (q : Nat × Value), q ∈ prs G i lv → i ≤ q.1
  | [], _, _, h => by cases h
  | none :: t, i, q, h => Nat.le_of_succ_le (prs_ge t (i + 1) q h)
  | some w :: t, i, q, h => by
    rcases List.mem_cons.mp h with rfl | h
    · exact Nat.le_refl _
    · exact Nat.le_of_succ_le (prs_ge t (i + 1) q h)
theorem prs_trim {G : GG} : ∀ (bs : List Bool) (lv : LV) (i : Nat) (q : Nat × Value), q ∈ prs G i (trimB bs lv) → q ∈ prs G i lv
  | [], lv, i, q, h => by cases lv <;> cases h
  | true :: bs, [], i, q, h => by cases h
  | false :: bs, [], i, q, h => by cases h
  | true :: bs, none :: t, i, q, h => prs_trim bs t (i + 1) q h
  | true :: bs, some w :: t, i, q, h => by
    rcases List.mem_cons.mp h with rfl | h
    · exact List.mem_cons_self
    · exact List.mem_cons_of_mem _ (prs_trim bs t (i + 1) q h)
  | false :: bs, none :: t, i, q, h => prs_trim bs t (i + 1) q h
  | false :: bs, some w :: t, i, q, h => List.mem_cons_of_mem _ (prs_trim bs t (i + 1) q h)
theorem prs_kill {G : GG} (x : Option Value) (t : LV) (i : Nat) (q : Nat × Value) (h : q ∈ prs G i (killL x :: t)) : (q ∈ prs G i (x :: t) ∧ q.1 = i ∧ ¬ q.2.category = 2) ∨ q ∈ prs G (i + 1) t := by
  cases x with
  | none => exact Or.inr h
  | some v =>
    cases v with
    | long y => exact Or.inr h
    | double y => exact Or.inr h
    | _ =>
      rcases List.mem_cons.mp h with rfl | h
      · exact Or.inl ⟨List.mem_cons_self, rfl, by simp [cv, Value.category]⟩
      · exact Or.inr h
theorem prs_tail {G : GG} (x : Option Value) (t : LV) (i : Nat) (q : Nat × Value) (h : q ∈ prs G (i + 1) t) : q ∈ prs G i (x :: t) := by
  cases x with
  | none => exact h
  | some v => exact List.mem_cons_of_mem _ h
theorem prs_ss1 {G : GG} : ∀ (lv : LV) (k i : Nat) (v : Value) (q : Nat × Value), q ∈ prs G i (ss1 lv k v) → q = (i + k, cv G v) ∨ (q ∈ prs G i lv ∧ q.1 ≠ i + k ∧ ¬ (q.1 + 1 = i + k ∧ q.2.category = 2))
  | [], k, i, v, q, h => by unfold ss1 at h; cases h
  | x :: t, 0, i, v, q, h => by
    rcases List.mem_cons.mp (show q ∈ (i, cv G v) :: prs G (i + 1) t from h) with rfl | h
    · exact Or.inl rfl
    · have := prs_ge t (i + 1) q h
      exact Or.inr ⟨prs_tail x t i q h, by omega, by omega⟩
  | x :: y :: t, 1, i, v, q, h => by
    have h : q ∈ prs G i (killL x :: some v :: t) := h
    rcases prs_kill x (some v :: t) i q h with ⟨h1, h2, h3⟩ | h
    · refine Or.inr ⟨?_, by omega, by rintro ⟨_, h5⟩; exact h3 h5⟩
      cases x with
      | none =>
        have := prs_ge (some v :: t) (i + 1) q h1
        omega
      | some w =>
        rcases List.mem_cons.mp h1 with rfl | h1
        · exact List.mem_cons_self
        · have := prs_ge (some v :: t) (i + 1) q h1
          omega
    · rcases List.mem_cons.mp (show q ∈ (i + 1, cv G v) :: prs G (i + 1 + 1) t from h) with rfl | h
      · exact Or.inl rfl
      · have := prs_ge t (i + 1 + 1) q h
        exact Or.inr ⟨prs_tail x _ i q (prs_tail y t (i + 1) q h), by omega, by omega⟩
  | [x], 1, i, v, q, h => by unfold ss1 at h; cases h
  | x :: t, k + 2, i, v, q, h => by
    have h : q ∈ prs G i (x :: ss1 t (k + 1) v) := by unfold ss1 at h; exact h
    have key : q ∈ prs G (i + 1) (ss1 t (k + 1) v) → q = (i + (k + 2), cv G v) ∨ (q ∈ prs G i (x :: t) ∧ q.1 ≠ i + (k + 2) ∧ ¬ (q.1 + 1 = i + (k + 2) ∧ q.2.category = 2)) := by
      intro h
      rcases prs_ss1 t (k + 1) (i + 1) v q h with rfl | ⟨h1, h2, h3⟩
      · exact Or.inl (by rw [show i + 1 + (k + 1) = i + (k + 2) by omega])
      · exact Or.inr ⟨prs_tail x t i q h1, by omega, by rintro ⟨h4, h5⟩; exact h3 ⟨by omega, h5⟩⟩
    cases x with
    | none => exact key h
    | some w =>
      rcases List.mem_cons.mp h with rfl | h
      · exact Or.inr ⟨List.mem_cons_self, by show i ≠ _; omega, by rintro ⟨h4, _⟩; have h4 : i + 1 = _ := h4; omega⟩
      · exact key h
theorem prs_ss2 {G : GG} : ∀ (lv : LV) (k i : Nat) (v : Value) (q : Nat × Value), q ∈ prs G i (ss2 lv k v) → q = (i + k, cv G v) ∨ (q ∈ prs G i lv ∧ q.1 ≠ i + k ∧ q.1 ≠ i + k + 1 ∧ ¬ (q.1 + 1 = i + k ∧ q.2.category = 2))
  | [], k, i, v, q, h => by unfold ss2 at h; cases h
  | [x], 0, i, v, q, h => by unfold ss2 at h; cases h
  | x :: y :: t, 0, i, v, q, h => by
    rcases List.mem_cons.mp (show q ∈ (i, cv G v) :: prs G (i + 1 + 1) t from h) with rfl | h
    · exact Or.inl rfl
    · have := prs_ge t (i + 1 + 1) q h
      exact Or.inr ⟨prs_tail x _ i q (prs_tail y t (i + 1) q h), by omega, by omega, by omega⟩
  | [x], 1, i, v, q, h => by unfold ss2 at h; cases h
  | [x, y], 1, i, v, q, h => by unfold ss2 at h; cases h
  | x :: y :: z :: t, 1, i, v, q, h => by
    have h : q ∈ prs G i (killL x :: some v :: none :: t) := h
    rcases prs_kill x (some v :: none :: t) i q h with ⟨h1, h2, h3⟩ | h
    · refine Or.inr ⟨?_, by omega, by omega, by rintro ⟨_, h5⟩; exact h3 h5⟩
      cases x with
      | none =>
        have := prs_ge (some v :: none :: t) (i + 1) q h1
        omega
      | some w =>
        rcases List.mem_cons.mp h1 with rfl | h1
        · exact List.mem_cons_self
        · have := prs_ge (some v :: none :: t) (i + 1) q h1
          omega
    · rcases List.mem_cons.mp (show q ∈ (i + 1, cv G v) :: prs G (i + 1 + 1 + 1) t from h) with rfl | h
      · exact Or.inl rfl
      · have := prs_ge t (i + 1 + 1 + 1) q h
        exact Or.inr ⟨prs_tail x _ i q (prs_tail y _ (i + 1) q (prs_tail z t (i + 1 + 1) q h)), by omega, by omega, by omega⟩
  | x :: t, k + 2, i, v, q, h => by
    have h : q ∈ prs G i (x :: ss2 t (k + 1) v) := by
      cases t with
      | nil => exact h
      | cons y t => cases t <;> exact h
    have key : q ∈ prs G (i + 1) (ss2 t (k + 1) v) → q = (i + (k + 2), cv G v) ∨ (q ∈ prs G i (x :: t) ∧ q.1 ≠ i + (k + 2) ∧ q.1 ≠ i + (k + 2) + 1 ∧ ¬ (q.1 + 1 = i + (k + 2) ∧ q.2.category = 2)) := by
      intro h
      rcases prs_ss2 t (k + 1) (i + 1) v q h with rfl | ⟨h1, h2, h2b, h3⟩
      · exact Or.inl (by rw [show i + 1 + (k + 1) = i + (k + 2) by omega])
      · exact Or.inr ⟨prs_tail x t i q h1, by omega, by omega, by rintro ⟨h4, h5⟩; exact h3 ⟨by omega, h5⟩⟩
    cases x with
    | none => exact key h
    | some w =>
      rcases List.mem_cons.mp h with rfl | h
      · exact Or.inr ⟨List.mem_cons_self, by show i ≠ _; omega, by show i ≠ _; omega, by rintro ⟨h4, _⟩; have h4 : i + 1 = _ := h4; omega⟩
      · exact key h
