/-! READING A TEXT: the class's way, sign by sign, with a pile of what waits -/
abbrev CR : Type := Nat × (Nat → Nat × Nat) × List (Nat × Nat)
abbrev AS : Type := Nat × Bool × CR × Bool
def upc (C : Nat → Nat × Nat) (i : Nat) (v : Nat × Nat) : Nat → Nat × Nat := fun j => if j = i then v else C j
def topW (W : List (Nat × Nat)) : Nat := match W with
  | [] => 99
  | (m, _) :: _ => m
def hedW (W : List (Nat × Nat)) : Nat := match W with
  | [] => 0
  | (_, t) :: _ => t
def emC (w x : Nat) (c : CR) : CR := (c.1 + 1, upc c.2.1 c.1 (w, x), c.2.2)
def puC (m x : Nat) (c : CR) : CR := (c.1, c.2.1, (m, x) :: c.2.2)
def ptC (t : Nat) (c : CR) : CR := if t < c.1 then (c.1, upc c.2.1 t ((c.2.1 t).1, c.1), c.2.2) else c
def poC (c : CR) : CR := (c.1, c.2.1, c.2.2.tail)
def eyN : Nat → CR → CR
  | 0, c => c
  | n + 1, c => if topW c.2.2 = 2 ∨ topW c.2.2 = 3 then eyN n (emC (topW c.2.2) 0 (poC c)) else c
def etC (c : CR) : CR := if topW c.2.2 = 4 then emC 4 0 (poC c) else c
def eyC (c : CR) : CR := etC (eyN c.2.2.length c)
def esC (c : CR) : CR := if topW c.2.2 = 6 ∨ topW c.2.2 = 7 then emC (topW c.2.2) 0 (poC c) else c
def p9C (c : CR) : CR := ptC (hedW c.2.2) (emC 10 0 (poC c))
def efN : Nat → CR → CR
  | 0, c => c
  | n + 1, c => if topW c.2.2 = 9 then efN n (p9C c) else c
def efC (c : CR) : CR := efN (esC c).2.2.length (esC c)
def b8C (c : CR) : CR := emC 8 0 (puC 8 c.1 (poC c))
def b9C (c : CR) : CR := ptC (hedW c.2.2) (emC 9 0 (puC 9 c.1 (poC c)))
def fpA (sx : Nat → Nat) (S : AS) : Nat := if S.2.1 = false ∧ sx S.1 = 47 then S.1 + 1 else S.1
def stB (sx : Nat → Nat) (p : Nat) (c : CR) (l : Bool) : Option AS :=
  if sx p = 45 then some (p + 1, true, puC 2 0 c, l)
  else if sx p = 65 then some (p + 1, true, puC 3 0 c, l)
  else if sx p = 40 then some (p + 1, true, puC 11 0 c, l)
  else if isDg (sx p) = true then some ((dgs sx 4 p 0).2, false, eyC (emC 0 (dgs sx 4 p 0).1 c), l)
  else if letN (sx p) < 6 then some (p + 1, false, eyC (emC 1 (letN (sx p)) c), l)
  else none
def stG (sx : Nat → Nat) (p : Nat) (c : CR) (l : Bool) : Option AS :=
  if sx p = 47 then (if isD1 (sx (p + 1)) = true then some ((dgs sx 3 (p + 1) 0).2, false, emC 5 (dgs sx 3 (p + 1) 0).1 c, l) else none)
  else if sx p = 42 then some (p + 1, true, puC 4 0 c, l)
  else if sx p = 43 then some (p + 1, true, puC 6 0 (esC c), l)
  else if sx p = 45 then some (p + 1, true, puC 7 0 (esC c), l)
  else if sx p = 60 then (if topW (esC c).2.2 = 12 then none else some (p + 1, true, puC 12 0 (esC c), l))
  else if sx p = 63 then (if topW (esC c).2.2 = 12 then some (p + 1, true, b8C (esC c), l) else none)
  else if sx p = 58 then (if topW (efC c).2.2 = 8 then some (p + 1, true, b9C (efC c), l) else none)
  else if sx p = 41 then (if topW (efC c).2.2 = 11 then some (p + 1, false, eyC (poC (efC c)), l) else none)
  else if sx p = 59 then (if l = true ∨ (efC c).2.2 ≠ [] then none else some (p + 1, true, efC c, true))
  else none
def stA (sx : Nat → Nat) (S : AS) : Option AS := if S.2.1 = true then stB sx S.1 S.2.2.1 S.2.2.2 else stG sx S.1 S.2.2.1 S.2.2.2
def itA (sx : Nat → Nat) : Nat → AS → Option AS
  | 0, S => some S
  | n + 1, S => match stA sx S with
    | none => none
    | some S' => itA sx n S'
def Rch (sx : Nat → Nat) (S S1 : AS) : Prop := ∃ n, itA sx n S = some S1
def itO : Nat → CR → Option CR
  | 0, c => some c
  | n + 1, c => if topW c.2.2 = 9 then itO n (p9C c) else none
/-- it stops at S1 for good, and v is the place that is told -/
def StopA (sx : Nat → Nat) (S1 : AS) (v : Nat) : Prop := stA sx S1 = none ∧ v = fpA sx S1 ∧ (sx S1.1 = 256 → S1.2.1 = true ∨ (efC S1.2.2.1).2.2 ≠ [])
def FailA (sx : Nat → Nat) (S : AS) (v : Nat) : Prop := ∃ S1, Rch sx S S1 ∧ StopA sx S1 v
section AUTO
variable {sx : Nat → Nat} {S S1 S2 : AS} {v p : Nat} {c c' : CR} {l : Bool}
theorem Rch.rf : Rch sx S S := ⟨0, rfl⟩
theorem Rch.cons (h : stA sx S = some S1) (k : Rch sx S1 S2) : Rch sx S S2 := by
  obtain ⟨n, k⟩ := k
  exact ⟨n + 1, by unfold itA; rw [h]; exact k⟩
theorem itA_trans : ∀ {n m : Nat} {S S1 S2 : AS}, itA sx n S = some S1 → itA sx m S1 = some S2 → itA sx (n + m) S = some S2
  | 0, m, S, S1, S2, h, k => by
    cases h
    rw [Nat.zero_add]
    exact k
  | n + 1, m, S, S1, S2, h, k => by
    rw [Nat.succ_add]
    unfold itA at h ⊢
    split at h
    · cases h
    · exact itA_trans h k
theorem Rch.trans (h : Rch sx S S1) (k : Rch sx S1 S2) : Rch sx S S2 := by
  obtain ⟨n, h⟩ := h
  obtain ⟨m, k⟩ := k
  exact ⟨n + m, itA_trans h k⟩
theorem Rch.one (h : stA sx S = some S1) : Rch sx S S1 := Rch.cons h Rch.rf
theorem FailA.of (h : Rch sx S S1) (k : FailA sx S1 v) : FailA sx S v := by
  obtain ⟨S2, k1, k2⟩ := k
  exact ⟨S2, h.trans k1, k2⟩
theorem StopA.fail (h : StopA sx S v) : FailA sx S v := ⟨S, Rch.rf, h⟩
theorem st_w : stA sx (p, true, c, l) = stB sx p c l := if_pos rfl
theorem st_g : stA sx (p, false, c, l) = stG sx p c l := if_neg (by simp)
theorem upc_s {C : Nat → Nat × Nat} {i : Nat} {x : Nat × Nat} : upc C i x i = x := if_pos rfl
theorem upc_n {C : Nat → Nat × Nat} {i j : Nat} {x : Nat × Nat} (h : j ≠ i) : upc C i x j = C j := if_neg h
def ntW (W : List (Nat × Nat)) : Prop := topW W ≠ 2 ∧ topW W ≠ 3 ∧ topW W ≠ 4
theorem eyN_id (h1 : topW c.2.2 ≠ 2) (h2 : topW c.2.2 ≠ 3) : ∀ n, eyN n c = c
  | 0 => rfl
  | n + 1 => by unfold eyN; rw [if_neg (fun z => z.elim h1 h2)]
theorem eyC_id {q : Nat} {C : Nat → Nat × Nat} {W : List (Nat × Nat)} (h : ntW W) : eyC (q, C, W) = (q, C, W) := by
  unfold eyC
  rw [eyN_id h.1 h.2.1]
  exact if_neg h.2.2
theorem eyC_un {q m x : Nat} {C : Nat → Nat × Nat} {W : List (Nat × Nat)} (h : m = 2 ∨ m = 3) : eyC (q, C, (m, x) :: W) = eyC (q + 1, upc C q (m, 0), W) := by
  show etC (eyN (W.length + 1) (q, C, (m, x) :: W)) = _
  unfold eyN
  rw [if_pos (show topW ((m, x) :: W) = 2 ∨ topW ((m, x) :: W) = 3 from h)]
  rfl
theorem eyC_ti {q x : Nat} {C : Nat → Nat × Nat} {W : List (Nat × Nat)} : eyC (q, C, (4, x) :: W) = (q + 1, upc C q (4, 0), W) := by
  unfold eyC
  rw [eyN_id (c := (q, C, (4, x) :: W)) (show (4 : Nat) ≠ 2 by decide) (show (4 : Nat) ≠ 3 by decide)]
  rfl
theorem esC_id {q : Nat} {C : Nat → Nat × Nat} {W : List (Nat × Nat)} (h1 : topW W ≠ 6) (h2 : topW W ≠ 7) : esC (q, C, W) = (q, C, W) := if_neg (fun z => z.elim h1 h2)
theorem esC_pm {q m x : Nat} {C : Nat → Nat × Nat} {W : List (Nat × Nat)} (h : m = 6 ∨ m = 7) : esC (q, C, (m, x) :: W) = (q + 1, upc C q (m, 0), W) := by
  unfold esC
  rw [if_pos (show topW ((m, x) :: W) = 6 ∨ topW ((m, x) :: W) = 7 from h)]
  rfl
theorem ptC_W {t : Nat} : (ptC t c).2.2 = c.2.2 := by
  unfold ptC
  split <;> rfl
theorem p9C_W : (p9C c).2.2 = c.2.2.tail := by
  unfold p9C
  rw [ptC_W]
  rfl
theorem itO_len : ∀ {m : Nat} {c c' : CR}, itO m c = some c' → m ≤ c.2.2.length
  | 0, _, _, _ => Nat.zero_le _
  | m + 1, c, c', h => by
    unfold itO at h
    split at h
    · rename_i ht
      have := itO_len h
      rw [p9C_W] at this
      cases hw : c.2.2 with
      | nil => rw [hw] at ht; cases ht
      | cons a t => rw [hw] at this; show m + 1 ≤ t.length + 1; exact Nat.succ_le_succ this
    · cases h
theorem efN_of : ∀ {m : Nat} {c c' : CR}, itO m c = some c' → topW c'.2.2 ≠ 9 → ∀ n, m ≤ n → efN n c = c'
  | 0, c, c', h, ht, n, _ => by
    cases h
    cases n with
    | zero => rfl
    | succ n => unfold efN; exact if_neg ht
  | m + 1, c, c', h, ht, n, hn => by
    unfold itO at h
    split at h
    · rename_i h9
      obtain ⟨n, rfl⟩ : ∃ k, n = k + 1 := ⟨n - 1, by omega⟩
      unfold efN
      rw [if_pos h9]
      exact efN_of h ht n (by omega)
    · cases h
theorem efC_of {m : Nat} (h : itO m (esC c) = some c') (ht : topW c'.2.2 ≠ 9) : efC c = c' := efN_of h ht _ (itO_len h)
theorem itO_snoc : ∀ {m : Nat} {c c' : CR}, itO m c = some c' → topW c'.2.2 = 9 → itO (m + 1) c = some (p9C c')
  | 0, c, c', h, ht => by
    cases h
    unfold itO
    rw [if_pos ht]
    rfl
  | m + 1, c, c', h, ht => by
    unfold itO at h ⊢
    split at h
    · rename_i h9
      rw [if_pos h9]
      exact itO_snoc h ht
    · cases h
theorem itO_top : ∀ {m : Nat} {c c' : CR}, itO m c = some c' → topW c.2.2 = 9 ∨ c = c'
  | 0, _, _, h => by cases h; exact Or.inr rfl
  | m + 1, c, c', h => by
    unfold itO at h
    split at h
    · rename_i h9; exact Or.inl h9
    · cases h
theorem fpA_n (h : sx p ≠ 47) {t : Bool} : fpA sx (p, t, c, l) = p := if_neg (fun z => h z.2)
theorem fpA_w : fpA sx (p, true, c, l) = p := if_neg (fun z => nomatch z.1)
/-- behind a whole formula in a bracket or a test: what can't stand there -/
theorem stop3 {m t x q : Nat} {C : Nat → Nat × Nat} {W : List (Nat × Nat)} (h : itO m (esC c) = some (q, C, (t, x) :: W)) (ht : t = 11 ∨ t = 8) (n : sx p ≠ 42 ∧ sx p ≠ 47 ∧ sx p ≠ 43 ∧ sx p ≠ 45 ∧ sx p ≠ 60) (h1 : t = 11 → sx p ≠ 41) (h2 : t = 8 → sx p ≠ 58) : StopA sx (p, false, c, l) p := by
  obtain ⟨n1, n2, n3, n4, n5⟩ := n
  have e := efC_of h (show t ≠ 9 by omega)
  have e2 : topW (efC c).2.2 = t := by rw [e]; rfl
  have e3 : (efC c).2.2 ≠ [] := by rw [e]; exact List.cons_ne_nil _ _
  have e4 : topW (esC c).2.2 ≠ 12 := by
    rcases itO_top h with q | q
    · omega
    · rw [q]; show t ≠ 12; omega
  refine ⟨?_, (fpA_n n2).symm, fun _ => Or.inr e3⟩
  rw [st_g]
  unfold stG
  rw [if_neg n2, if_neg n1, if_neg n3, if_neg n4, if_neg n5, e2]
  repeat' split
  all_goals first | rfl | (exfalso; omega) | (exfalso; rename_i z; exact z (Or.inr e3)) | skip
/-- behind the second sum of a test -/
theorem stop2 {x q : Nat} {C : Nat → Nat × Nat} {W : List (Nat × Nat)} (h : esC c = (q, C, (12, x) :: W)) (n : sx p ≠ 42 ∧ sx p ≠ 47 ∧ sx p ≠ 43 ∧ sx p ≠ 45) (h1 : sx p ≠ 63) : StopA sx (p, false, c, l) p := by
  obtain ⟨n1, n2, n3, n4⟩ := n
  have h0 : itO 0 (esC c) = some (q, C, (12, x) :: W) := by rw [h]; rfl
  have e := efC_of h0 (show (12 : Nat) ≠ 9 by decide)
  have e2 : topW (efC c).2.2 = 12 := by rw [e]; rfl
  have e3 : (efC c).2.2 ≠ [] := by rw [e]; exact List.cons_ne_nil _ _
  have e4 : topW (esC c).2.2 = 12 := by rw [h]; rfl
  refine ⟨?_, (fpA_n n2).symm, fun _ => Or.inr e3⟩
  rw [st_g]
  unfold stG
  rw [if_neg n2, if_neg n1, if_neg n3, if_neg n4, e2, e4]
  repeat' split
  all_goals first | rfl | (exfalso; omega) | (exfalso; rename_i z; exact z (Or.inr e3)) | skip
/-- behind a whole formula that stands in nothing: only ; may follow, once -/
theorem stop0 {m q : Nat} {C : Nat → Nat × Nat} (h : itO m (esC c) = some (q, C, [])) (n : sx p ≠ 42 ∧ sx p ≠ 47 ∧ sx p ≠ 43 ∧ sx p ≠ 45 ∧ sx p ≠ 60) (h1 : l = true ∨ sx p ≠ 59) : stA sx (p, false, c, l) = none ∧ fpA sx (p, false, c, l) = p ∧ efC c = (q, C, []) := by
  obtain ⟨n1, n2, n3, n4, n5⟩ := n
  have e := efC_of h (show (99 : Nat) ≠ 9 by decide)
  have e2 : topW (efC c).2.2 = 99 := by rw [e]; rfl
  have e4 : topW (esC c).2.2 ≠ 12 := by
    rcases itO_top h with q | q
    · omega
    · rw [q]; show (99 : Nat) ≠ 12; decide
  refine ⟨?_, fpA_n n2, e⟩
  rw [st_g]
  unfold stG
  rw [if_neg n2, if_neg n1, if_neg n3, if_neg n4, if_neg n5, e2]
  repeat' split
  all_goals first | rfl | (exfalso; omega) | (exfalso; rename_i z; rcases h1 with h1 | h1; exact z (Or.inl h1); omega) | skip
end AUTO
