/-! CALL steer: the class -/
abbrev SP : Type := (Nat → Int) × (Nat → Int)
/-- who is steered by now -/
def inS (x : SP) : St := fun c => decide (0 ≤ x.1 c)
/-- one step more: those that are surely led into the set as it stands -/
def stF (pu : St → Nat → Int) (k : Nat) (x : SP) : SP := (fun c => if 0 ≤ x.1 c then x.1 c else if pu (inS x) c = -1 then -1 else (k : Int), fun c => if 0 ≤ x.1 c then x.2 c else pu (inS x) c)
def stN (pu : St → Nat → Int) (f : St) : Nat → SP
  | 0 => (fun c => if f c = true then 0 else -1, fun _ => -1)
  | k + 1 => stF pu (k + 1) (stN pu f k)
/-- nothing new -/
def noNew (N : Nat) (pu : St → Nat → Int) (x : SP) : Prop := ∀ c, c < N → 0 ≤ x.1 c ∨ pu (inS x) c = -1
def eqSP (N : Nat) (x y : SP) : Prop := ∀ c, c < N → x.1 c = y.1 c ∧ x.2 c = y.2 c
/-- the push depends on the cells below N alone, and there is one or none -/
def okPu (N : Nat) (pu : St → Nat → Int) : Prop := (∀ s s', eqS N s s' → ∀ c, c < N → pu s c = pu s' c) ∧ ∀ s c, -1 ≤ pu s c ∧ pu s c < 4
theorem inS_eq {N : Nat} {x y : SP} (h : eqSP N x y) : eqS N (inS x) (inS y) := fun c hc => by unfold inS; rw [(h c hc).1]
theorem stF_eq {N : Nat} {pu : St → Nat → Int} (o : okPu N pu) {k : Nat} {x y : SP} (h : eqSP N x y) : eqSP N (stF pu k x) (stF pu k y) := fun c hc => by
  unfold stF
  dsimp only
  rw [(h c hc).1, (h c hc).2, o.1 _ _ (inS_eq h) c hc]
  exact ⟨rfl, rfl⟩
/-- x holds -1 in both, or a step and a push -/
def wfSP (N : Nat) (x : SP) : Prop := ∀ c, c < N → x.1 c < 0 → x.1 c = -1 ∧ x.2 c = -1
theorem stF_wf {N : Nat} {pu : St → Nat → Int} {k : Nat} {x : SP} (h : wfSP N x) : wfSP N (stF pu k x) := fun c hc q => by
  unfold stF at q ⊢
  dsimp only at q ⊢
  by_cases z : 0 ≤ x.1 c
  · rw [if_pos z] at q; omega
  · rw [if_neg z] at q ⊢
    rw [if_neg z]
    by_cases z2 : pu (inS x) c = -1
    · rw [if_pos z2]; exact ⟨rfl, z2⟩
    · rw [if_neg z2] at q; omega
theorem stN_wf {N : Nat} {pu : St → Nat → Int} {f : St} : ∀ k, wfSP N (stN pu f k)
  | 0 => fun c _ q => by
    unfold stN at q ⊢
    dsimp only at q ⊢
    by_cases z : f c = true
    · rw [if_pos z] at q; omega
    · rw [if_neg z]; exact ⟨rfl, rfl⟩
  | k + 1 => stF_wf (stN_wf k)
theorem noNew_st {N : Nat} {pu : St → Nat → Int} {k : Nat} {x : SP} (h : noNew N pu x) (w : wfSP N x) : eqSP N (stF pu k x) x := fun c hc => by
  unfold stF
  dsimp only
  by_cases z : 0 ≤ x.1 c
  · rw [if_pos z, if_pos z]; exact ⟨rfl, rfl⟩
  · have := (h c hc).resolve_left z
    obtain ⟨w1, w2⟩ := w c hc (by omega)
    rw [if_neg z, if_neg z, if_pos this, this, w1, w2]
    exact ⟨rfl, rfl⟩
theorem eqSP_tr {N : Nat} {x y z : SP} (h : eqSP N x y) (h' : eqSP N y z) : eqSP N x z := fun c hc => ⟨(h c hc).1.trans (h' c hc).1, (h c hc).2.trans (h' c hc).2⟩
theorem noNew_eq {N : Nat} {pu : St → Nat → Int} (o : okPu N pu) {x y : SP} (h : eqSP N x y) (n : noNew N pu x) : noNew N pu y := fun c hc => by
  rw [← (h c hc).1, ← o.1 _ _ (inS_eq h) c hc]
  exact n c hc
/-- once nothing is new, nothing will be -/
theorem stN_stop {N : Nat} {pu : St → Nat → Int} (o : okPu N pu) {f : St} {k : Nat} (h : noNew N pu (stN pu f k)) : ∀ n, k ≤ n → eqSP N (stN pu f n) (stN pu f k) := by
  intro n hn
  induction n with
  | zero => rw [show k = 0 by omega]; exact fun _ _ => ⟨rfl, rfl⟩
  | succ n ih =>
    by_cases e : k = n + 1
    · rw [e]; exact fun _ _ => ⟨rfl, rfl⟩
    · have ih := ih (by omega)
      have e1 : eqSP N (stN pu f (n + 1)) (stF pu (n + 1) (stN pu f k)) := stF_eq o ih
      exact eqSP_tr e1 (noNew_st h (stN_wf k))
theorem stN_b {pu : St → Nat → Int} (o : ∀ s c, -1 ≤ pu s c ∧ pu s c < 4) {f : St} : ∀ (k c : Nat), (-1 ≤ (stN pu f k).1 c ∧ (stN pu f k).1 c ≤ k) ∧ -1 ≤ (stN pu f k).2 c ∧ (stN pu f k).2 c < 4
  | 0, c => by
    unfold stN
    dsimp only
    split <;> omega
  | k + 1, c => by
    have ih := stN_b o (f := f) k c
    have p := o (inS (stN pu f k)) c
    show (-1 ≤ (if _ then _ else if _ then _ else _) ∧ (if _ then _ else if _ then _ else _) ≤ _) ∧ -1 ≤ (if _ then _ else _) ∧ (if _ then _ else _) < _
    by_cases z : 0 ≤ (stN pu f k).1 c
    · rw [if_pos z, if_pos z]; omega
    · rw [if_neg z, if_neg z]
      by_cases z2 : pu (inS (stN pu f k)) c = -1
      · rw [if_pos z2]; omega
      · rw [if_neg z2]; omega
/-- a goal grows -/
theorem inS_sub {N : Nat} {pu : St → Nat → Int} {f : St} {k : Nat} : subS N (inS (stN pu f k)) (inS (stN pu f (k + 1))) := fun c hc z => by
  have z := decide_eq_true_iff.mp z
  show decide (0 ≤ (if _ then _ else if _ then _ else _ : Int)) = true
  rw [if_pos z]
  exact decide_eq_true z
theorem noNew_of {N : Nat} {pu : St → Nat → Int} {f : St} {k : Nat} (h : cntB (inS (stN pu f (k + 1))) N ≤ cntB (inS (stN pu f k)) N) : noNew N pu (stN pu f k) := fun c hc => by
  have e := cntB_eq_of inS_sub h c hc
  by_cases z : 0 ≤ (stN pu f k).1 c
  · exact Or.inl z
  · refine Or.inr ?_
    have e1 : inS (stN pu f k) c = false := decide_eq_false z
    rw [e1] at e
    have e2 := decide_eq_false_iff_not.mp e.symm
    have e3 : (stN pu f (k + 1)).1 c = if pu (inS (stN pu f k)) c = -1 then -1 else ((k + 1 : Nat) : Int) := by
      show (if _ then _ else if _ then _ else _ : Int) = _
      rw [if_neg z]
    rw [e3] at e2
    by_cases z2 : pu (inS (stN pu f k)) c = -1
    · exact z2
    · rw [if_neg z2] at e2; omega
theorem pshI_ok {g : GT} {T : NT} {E : LE} {rx ry fk : Nat} {ps : Nat → Int} {np : Nat} (hn : np ≤ 4) : okPu (nC g) (pshI g T E rx ry fk ps np) := by
  refine ⟨fun s s' e c hc => ?_, fun s c => ?_⟩
  · unfold pshI
    have : (fun j => okSu (nC g) (aP g T E rx ry fk ps j) (lP g T E rx ry fk ps j) s c) = fun j => okSu (nC g) (aP g T E rx ry fk ps j) (lP g T E rx ry fk ps j) s' c := by
      funext j
      unfold okSu
      rw [anyB_congr (fun o ho => by rw [e o ho])]
    rw [this]
  · have := lpI_r (np := np) (ok := fun j => okSu (nC g) (aP g T E rx ry fk ps j) (lP g T E rx ry fk ps j) s c)
    exact ⟨this.1, by have := this.2; show lpI _ _ < 4; omega⟩
