/-! READING A TEXT: the class's way does what the plain descent does -/
def frC (q : Nat) (C' C : Nat → Nat × Nat) : Prop := ∀ j, j < q → C' j = C j
def tp2 (W : List (Nat × Nat)) : Prop := ntW W ∧ topW W ≠ 6 ∧ topW W ≠ 7
def tp3 (W : List (Nat × Nat)) : Prop := tp2 W ∧ topW W ≠ 12
def nx1 (c : Nat) : Prop := c ≠ 42 ∧ c ≠ 47
def nx2 (c : Nat) : Prop := c ≠ 42 ∧ c ≠ 47 ∧ c ≠ 43 ∧ c ≠ 45
def nx3 (c : Nat) : Prop := c ≠ 42 ∧ c ≠ 47 ∧ c ≠ 43 ∧ c ≠ 45 ∧ c ≠ 60
def sim0 (sx : Nat → Nat) (b : Nat) (s : PS) (r : Option Nat) (s' : PS) : Prop := ∀ q C W l, (r = none → FailA sx (s.1, true, (q, C, W), l) s'.1) ∧ ∀ k, r = some k → ∃ q' C' n, Rch sx (s.1, true, (q, C, W), l) (s'.1, false, eyC (q', C', W), l) ∧ okN C' s'.2.2 n k (b + s.2.1) q q' ∧ n ≤ s'.2.1 - s.2.1 ∧ frC q C' C
def sim1 (sx : Nat → Nat) (b : Nat) (s : PS) (r : Option Nat) (s' : PS) : Prop := ∀ q C W l, ntW W → (r = none → FailA sx (s.1, true, (q, C, W), l) s'.1) ∧ ∀ k, r = some k → ∃ q' C' n, Rch sx (s.1, true, (q, C, W), l) (s'.1, false, (q', C', W), l) ∧ okN C' s'.2.2 n k (b + s.2.1) q q' ∧ n ≤ s'.2.1 - s.2.1 ∧ frC q C' C ∧ nx1 (sx s'.1)
def sim4 (sx : Nat → Nat) (b a : Nat) (s : PS) (r : Option Nat) (s' : PS) : Prop := ∀ q C W l q0 s0 n0, ntW W → okN C s.2.2 n0 a s0 q0 q → a + 1 = b + s.2.1 → (r = none → FailA sx (s.1, false, (q, C, W), l) s'.1) ∧ ∀ k, r = some k → ∃ q' C' n, Rch sx (s.1, false, (q, C, W), l) (s'.1, false, (q', C', W), l) ∧ okN C' s'.2.2 n k s0 q0 q' ∧ n ≤ n0 + (s'.2.1 - s.2.1) ∧ frC q0 C' C ∧ nx1 (sx s'.1)
def sim2 (sx : Nat → Nat) (b : Nat) (s : PS) (r : Option Nat) (s' : PS) : Prop := ∀ q C W l, tp2 W → (r = none → FailA sx (s.1, true, (q, C, W), l) s'.1) ∧ ∀ k, r = some k → ∃ c1 q' C' n, Rch sx (s.1, true, (q, C, W), l) (s'.1, false, c1, l) ∧ esC c1 = (q', C', W) ∧ okN C' s'.2.2 n k (b + s.2.1) q q' ∧ n ≤ s'.2.1 - s.2.1 ∧ frC q C' C ∧ nx2 (sx s'.1)
def sim5 (sx : Nat → Nat) (b a : Nat) (s : PS) (r : Option Nat) (s' : PS) : Prop := ∀ c q C W l q0 s0 n0, esC c = (q, C, W) → tp2 W → okN C s.2.2 n0 a s0 q0 q → a + 1 = b + s.2.1 → nx1 (sx s.1) → (r = none → FailA sx (s.1, false, c, l) s'.1) ∧ ∀ k, r = some k → ∃ c1 q' C' n, Rch sx (s.1, false, c, l) (s'.1, false, c1, l) ∧ esC c1 = (q', C', W) ∧ okN C' s'.2.2 n k s0 q0 q' ∧ n ≤ n0 + (s'.2.1 - s.2.1) ∧ frC q0 C' C ∧ nx2 (sx s'.1)
def sim3 (sx : Nat → Nat) (b : Nat) (s : PS) (r : Option Nat) (s' : PS) : Prop := ∀ q C W l, tp3 W → (r = none → FailA sx (s.1, true, (q, C, W), l) s'.1) ∧ ∀ k, r = some k → ∃ c1 q' C' n m, Rch sx (s.1, true, (q, C, W), l) (s'.1, false, c1, l) ∧ itO m (esC c1) = some (q', C', W) ∧ okN C' s'.2.2 n k (b + s.2.1) q q' ∧ n ≤ s'.2.1 - s.2.1 ∧ frC q C' C ∧ nx3 (sx s'.1)
def simA (sx : Nat → Nat) (b f : Nat) : Prop := ∀ (s : PS) (r : Option Nat) (s' : PS), (pars sx b f 0 0 s = some (r, s') → sim0 sx b s r s') ∧ (pars sx b f 1 0 s = some (r, s') → sim1 sx b s r s') ∧ (pars sx b f 2 0 s = some (r, s') → sim2 sx b s r s') ∧ (pars sx b f 3 0 s = some (r, s') → sim3 sx b s r s') ∧ ∀ a, (pars sx b f 4 a s = some (r, s') → sim4 sx b a s r s') ∧ (pars sx b f 5 a s = some (r, s') → sim5 sx b a s r s')
section SIM
variable {sx : Nat → Nat} {b e f : Nat} {s s' : PS} {r : Option Nat}
theorem frC.rf {q : Nat} {C : Nat → Nat × Nat} : frC q C C := fun _ _ => rfl
theorem frC.trans {q q1 : Nat} {C C1 C2 : Nat → Nat × Nat} (h : frC q C1 C) (k : frC q1 C2 C1) (hq : q ≤ q1) : frC q C2 C := fun j hj => (k j (by omega)).trans (h j hj)
theorem frC.up {q q1 : Nat} {C C1 : Nat → Nat × Nat} {x : Nat × Nat} (h : frC q C1 C) (hq : q ≤ q1) : frC q (upc C1 q1 x) C := fun j hj => (upc_n (by omega)).trans (h j hj)
/-- the node just made, and those below -/
theorem nd_s {q : Nat × Nat × Nat × Nat × Nat} : (ndP b q s).2.2 (b + s.2.1) = q := if_pos rfl
theorem nd_n {q : Nat × Nat × Nat × Nat × Nat} {j : Nat} (h : j < b + s.2.1) : (ndP b q s).2.2 j = s.2.2 j := if_neg (by omega)
theorem okN.nd {C C' : Nat → Nat × Nat} {n k s0 p q : Nat} {x : Nat × Nat × Nat × Nat × Nat} (h : okN C s.2.2 n k s0 p q) (hk : k < b + s.2.1) (hC : frC q C' C) : okN C' (ndP b x s).2.2 n k s0 p q := h.fr (fun j _ y => nd_n (by omega)) (fun j _ y => hC j y)
theorem sim_th (hx : ∀ i, e ≤ i → sx i = 256) (I : simA sx b f) (h : thF sx b (pars sx b f) s = some (r, s')) : sim0 sx b s r s' := by
  intro q C W l
  unfold thF at h
  split at h
  · rename_i c
    cases h
    have c' := isDg_t.mp c
    refine ⟨fun z => (nomatch z), fun k hk => ?_⟩
    cases hk
    refine ⟨q + 1, upc C q (0, (dgs sx 4 s.1 0).1), 1, Rch.one ?_, okN_num nd_s ?_ upc_s, ?_, frC.rf.up (Nat.le_refl _)⟩
    · rw [st_w]
      unfold stB
      rw [if_neg (by omega), if_neg (by omega), if_neg (by omega), if_pos c]
      rfl
    · have := (dgs_v (sx := sx) 4 s.1 0).2
      omega
    · show 1 ≤ s.2.1 + 1 - s.2.1; omega
  rename_i c0
  split at h
  · rename_i c
    cases h
    have e1 : sx s.1 ≠ 45 := fun z => by rw [z] at c; revert c; decide
    have e2 : sx s.1 ≠ 65 := fun z => by rw [z] at c; revert c; decide
    have e3 : sx s.1 ≠ 40 := fun z => by rw [z] at c; revert c; decide
    refine ⟨fun z => (nomatch z), fun k hk => ?_⟩
    cases hk
    refine ⟨q + 1, upc C q (1, letN (sx s.1)), 1, Rch.one ?_, okN_let nd_s c upc_s, ?_, frC.rf.up (Nat.le_refl _)⟩
    · rw [st_w]
      unfold stB
      rw [if_neg e1, if_neg e2, if_neg e3, if_neg c0, if_pos c]
      rfl
    · show 1 ≤ s.2.1 + 1 - s.2.1; omega
  rename_i c1
  split at h
  · rename_i c
    obtain ⟨m, hm, st⟩ : ∃ m, (m = if sx s.1 = 45 then 2 else 3) ∧ stA sx (s.1, true, (q, C, W), l) = some (s.1 + 1, true, (q, C, (m, 0) :: W), l) := by
      refine ⟨_, rfl, ?_⟩
      rw [st_w]
      unfold stB
      rcases c with c | c
      · rw [if_pos c, if_pos c]; rfl
      · rw [if_neg (by omega), if_pos c, if_neg (by omega)]; rfl
    have hm' : m = 2 ∨ m = 3 := by rw [hm]; split; exact Or.inl rfl; exact Or.inr rfl
    rcases bnd_some h with ⟨h1, rfl⟩ | ⟨a, s1, h1, h2⟩
    · exact ⟨fun _ => FailA.of (Rch.one st) (((I _ _ _).1 h1 q C ((m, 0) :: W) l).1 rfl), fun k hk => (nomatch hk)⟩
    · cases h2
      refine ⟨fun z => (nomatch z), fun k hk => ?_⟩
      cases hk
      obtain ⟨q1, C1, n1, R1, O1, L1, f1⟩ := ((I _ _ _).1 h1 q C ((m, 0) :: W) l).2 a rfl
      obtain ⟨G, K⟩ := pars_g hx _ _ _ _ _ _ h1
      have K := (K _ rfl).1 (by decide)
      have g2 : s.2.1 ≤ s1.2.1 := G.2.1
      have O1 : okN C1 s1.2.2 n1 a (b + s.2.1) q q1 := O1
      have L1 : n1 ≤ s1.2.1 - s.2.1 := L1
      have l1 := O1.pq
      refine ⟨q1 + 1, upc C1 q1 (m, 0), n1 + 1, ?_, okN_un (O1.nd (by omega) (frC.rf.up (Nat.le_refl _))) hm' K.2 ?_ upc_s, ?_, f1.up (by omega)⟩
      · have R1 : Rch sx (s.1 + 1, true, (q, C, (m, 0) :: W), l) (s1.1, false, eyC (q1, C1, (m, 0) :: W), l) := R1
        rw [eyC_un hm'] at R1
        exact Rch.cons st R1
      · rw [hm]; exact nd_s
      · show n1 + 1 ≤ s1.2.1 + 1 - s.2.1; omega
  rename_i c2
  split at h
  · rename_i c
    have st : stA sx (s.1, true, (q, C, W), l) = some (s.1 + 1, true, (q, C, (11, 0) :: W), l) := by
      rw [st_w]
      unfold stB
      rw [if_neg (by omega), if_neg (by omega), if_pos c]; rfl
    have t3 : tp3 ((11, 0) :: W) := ⟨⟨⟨show (11 : Nat) ≠ 2 by decide, show (11 : Nat) ≠ 3 by decide, show (11 : Nat) ≠ 4 by decide⟩, show (11 : Nat) ≠ 6 by decide, show (11 : Nat) ≠ 7 by decide⟩, show (11 : Nat) ≠ 12 by decide⟩
    rcases bnd_some h with ⟨h1, rfl⟩ | ⟨a, s1, h1, h2⟩
    · exact ⟨fun _ => FailA.of (Rch.one st) (((I _ _ _).2.2.2.1 h1 q C ((11, 0) :: W) l t3).1 rfl), fun k hk => (nomatch hk)⟩
    · obtain ⟨c1, q1, C1, n1, m, R1, E1, O1, L1, f1, N1⟩ := ((I _ _ _).2.2.2.1 h1 q C ((11, 0) :: W) l t3).2 a rfl
      have R1 := Rch.cons st R1
      split at h2
      · rename_i c4
        cases h2
        refine ⟨fun z => (nomatch z), fun k hk => ?_⟩
        cases hk
        have e5 : efC c1 = (q1, C1, (11, 0) :: W) := efC_of E1 (show (11 : Nat) ≠ 9 by decide)
        refine ⟨q1, C1, n1, R1.trans (Rch.one ?_), O1, L1, f1⟩
        rw [st_g]
        unfold stG
        rw [if_neg (by omega), if_neg (by omega), if_neg (by omega), if_neg (by omega), if_neg (by omega), if_neg (by omega), if_neg (by omega), if_pos c4, e5, if_pos (by rfl)]
        rfl
      · rename_i c4
        cases h2
        exact ⟨fun _ => FailA.of R1 (stop3 E1 (Or.inl rfl) N1 (fun _ => c4) (fun z => absurd z (by decide))).fail, fun k hk => (nomatch hk)⟩
  · rename_i c3
    cases h
    refine ⟨fun _ => StopA.fail ⟨?_, fpA_w.symm, fun _ => Or.inl rfl⟩, fun k hk => (nomatch hk)⟩
    rw [st_w]
    unfold stB
    rw [if_neg (fun z => c2 (Or.inl z)), if_neg (fun z => c2 (Or.inr z)), if_neg c3, if_neg c0, if_neg c1]
theorem sim_pr (hx : ∀ i, e ≤ i → sx i = 256) (I : simA sx b f) (h : prF (pars sx b f) s = some (r, s')) : sim1 sx b s r s' := by
  intro q C W l hW
  unfold prF at h
  rcases bnd_some h with ⟨h1, rfl⟩ | ⟨a, s1, h1, h2⟩
  · exact ⟨fun _ => ((I _ _ _).1 h1 q C W l).1 rfl, fun k hk => (nomatch hk)⟩
  · obtain ⟨q1, C1, n1, R1, O1, L1, f1⟩ := ((I _ _ _).1 h1 q C W l).2 a rfl
    rw [eyC_id hW] at R1
    obtain ⟨G, K⟩ := pars_g hx _ _ _ _ _ _ h1
    have K := (K _ rfl).1 (by decide)
    have G2 := (pars_g hx _ _ _ _ _ _ h2).1.2.1
    obtain ⟨A, B⟩ := ((I _ _ _).2.2.2.2 a).1 h2 q1 C1 W l q (b + s.2.1) n1 hW O1 K.2
    refine ⟨fun z => FailA.of R1 (A z), fun k hk => ?_⟩
    obtain ⟨q2, C2, n2, R2, O2, L2, f2, N2⟩ := B k hk
    exact ⟨q2, C2, n2, R1.trans R2, O2, by omega, f1.trans f2 (Nat.le_refl _), N2⟩
theorem sim_su (hx : ∀ i, e ≤ i → sx i = 256) (I : simA sx b f) (h : suF (pars sx b f) s = some (r, s')) : sim2 sx b s r s' := by
  intro q C W l hW
  unfold suF at h
  rcases bnd_some h with ⟨h1, rfl⟩ | ⟨a, s1, h1, h2⟩
  · exact ⟨fun _ => ((I _ _ _).2.1 h1 q C W l hW.1).1 rfl, fun k hk => (nomatch hk)⟩
  · obtain ⟨q1, C1, n1, R1, O1, L1, f1, N1⟩ := ((I _ _ _).2.1 h1 q C W l hW.1).2 a rfl
    obtain ⟨G, K⟩ := pars_g hx _ _ _ _ _ _ h1
    have K := (K _ rfl).1 (by decide)
    have G2 := (pars_g hx _ _ _ _ _ _ h2).1.2.1
    obtain ⟨A, B⟩ := ((I _ _ _).2.2.2.2 a).2 h2 (q1, C1, W) q1 C1 W l q (b + s.2.1) n1 (esC_id hW.2.1 hW.2.2) hW O1 K.2 N1
    refine ⟨fun z => FailA.of R1 (A z), fun k hk => ?_⟩
    obtain ⟨c2, q2, C2, n2, R2, E2, O2, L2, f2, N2⟩ := B k hk
    exact ⟨c2, q2, C2, n2, R1.trans R2, E2, O2, by omega, f1.trans f2 (Nat.le_refl _), N2⟩
theorem sim_pl (hx : ∀ i, e ≤ i → sx i = 256) (I : simA sx b f) {a : Nat} (h : plF sx b (pars sx b f) a s = some (r, s')) : sim4 sx b a s r s' := by
  intro q C W l q0 s0 n0 hW O hk0
  have l0 := O.pq
  unfold plF at h
  split at h
  · rename_i c
    have st : stA sx (s.1, false, (q, C, W), l) = some (s.1 + 1, true, (q, C, (4, 0) :: W), l) := by
      rw [st_g]
      unfold stG
      rw [if_neg (by omega), if_pos c]; rfl
    rcases bnd_some h with ⟨h1, rfl⟩ | ⟨x, s1, h1, h2⟩
    · exact ⟨fun _ => FailA.of (Rch.one st) (((I _ _ _).1 h1 q C ((4, 0) :: W) l).1 rfl), fun k hk => (nomatch hk)⟩
    · obtain ⟨q1, C1, n1, R1, O1, L1, f1⟩ := ((I _ _ _).1 h1 q C ((4, 0) :: W) l).2 x rfl
      rw [eyC_ti] at R1
      have R1 := Rch.cons st R1
      obtain ⟨G, K⟩ := pars_g hx _ _ _ _ _ _ h1
      have K := (K _ rfl).1 (by decide)
      have K1 : s.2.1 < s1.2.1 := K.1
      have G5 : ∀ j, j < b + s.2.1 → s1.2.2 j = s.2.2 j := G.2.2.2.2
      have L1 : n1 ≤ s1.2.1 - s.2.1 := L1
      have O1 : okN C1 s1.2.2 n1 x (a + 1) q q1 := by rw [hk0]; exact O1
      have l1 := O1.pq
      have O0 : okN C1 s1.2.2 n0 a s0 q0 q := O.fr (fun j _ y => G5 j (by omega)) (fun j _ y => f1 j y)
      have O2 : okN (upc C1 q1 (4, 0)) (ndP b (6, a, x, 0, 0) s1).2.2 (n0 + n1) (b + s1.2.1) s0 q0 (q1 + 1) := okN_bin (O0.nd (by omega) (frC.rf.up (by omega))) (O1.nd (by omega) (frC.rf.up (by omega))) (Or.inr (Or.inr ⟨rfl, rfl⟩)) K.2 nd_s upc_s
      have G2 : s1.2.1 + 1 ≤ s'.2.1 := (pars_g hx _ _ _ _ _ _ h2).1.2.1
      obtain ⟨A, B⟩ := ((I _ _ _).2.2.2.2 _).1 h2 (q1 + 1) (upc C1 q1 (4, 0)) W l q0 s0 (n0 + n1) hW O2 rfl
      refine ⟨fun z => FailA.of R1 (A z), fun k hk => ?_⟩
      obtain ⟨q2, C2, n2, R2, O2, L2, f2, N2⟩ := B k hk
      have L2 : n2 ≤ n0 + n1 + (s'.2.1 - (s1.2.1 + 1)) := L2
      exact ⟨q2, C2, n2, R1.trans R2, O2, by omega, fun j hj => (f2 j hj).trans ((upc_n (by omega)).trans (f1 j (by omega))), N2⟩
  rename_i c0
  split at h
  · rename_i c
    split at h
    · rename_i c2
      have st : stA sx (s.1, false, (q, C, W), l) = some ((dgs sx 3 (s.1 + 1) 0).2, false, (q + 1, upc C q (5, (dgs sx 3 (s.1 + 1) 0).1), W), l) := by
        rw [st_g]
        unfold stG
        rw [if_pos c, if_pos c2]; rfl
      have v2 := (dgs_v (sx := sx) 3 (s.1 + 1) 0).2
      have v1 : 1 ≤ (dgs sx 3 (s.1 + 1) 0).1 := dgs_1 c2
      have hd : okN (upc C q (5, (dgs sx 3 (s.1 + 1) 0).1)) (ndP b (7, a, (dgs sx 3 (s.1 + 1) 0).1, 0, 0) ((dgs sx 3 (s.1 + 1) 0).2, s.2)).2.2 n0 a s0 q0 q := okN.nd (s := ((dgs sx 3 (s.1 + 1) 0).2, s.2)) O (by show a < b + s.2.1; omega) (frC.rf.up (Nat.le_refl _))
      have O2 : okN (upc C q (5, (dgs sx 3 (s.1 + 1) 0).1)) (ndP b (7, a, (dgs sx 3 (s.1 + 1) 0).1, 0, 0) ((dgs sx 3 (s.1 + 1) 0).2, s.2)).2.2 (n0 + 1) (b + s.2.1) s0 q0 (q + 1) := okN_div hd hk0 nd_s v1 (by omega) upc_s
      have G2 : s.2.1 + 1 ≤ s'.2.1 := (pars_g hx _ _ _ _ _ _ h).1.2.1
      obtain ⟨A, B⟩ := ((I _ _ _).2.2.2.2 _).1 h (q + 1) _ W l q0 s0 (n0 + 1) hW O2 rfl
      refine ⟨fun z => FailA.of (Rch.one st) (A z), fun k hk => ?_⟩
      obtain ⟨q2, C2, n2, R2, O2, L2, f2, N2⟩ := B k hk
      have L2 : n2 ≤ n0 + 1 + (s'.2.1 - (s.2.1 + 1)) := L2
      exact ⟨q2, C2, n2, Rch.cons st R2, O2, by omega, fun j hj => (f2 j hj).trans (upc_n (by omega)), N2⟩
    · rename_i c2
      cases h
      refine ⟨fun _ => StopA.fail ⟨?_, ?_, fun z => ?_⟩, fun k hk => (nomatch hk)⟩
      · rw [st_g]
        unfold stG
        rw [if_pos c, if_neg c2]
      · exact (if_pos ⟨rfl, c⟩).symm
      · have z : sx s.1 = 256 := z
        omega
  · rename_i c
    cases h
    refine ⟨fun z => (nomatch z), fun k hk => ?_⟩
    cases hk
    exact ⟨q, C, n0, Rch.rf, O, by omega, frC.rf, c0, c⟩
theorem sim_sl (hx : ∀ i, e ≤ i → sx i = 256) (I : simA sx b f) {a : Nat} (h : slF sx b (pars sx b f) a s = some (r, s')) : sim5 sx b a s r s' := by
  intro c q C W l q0 s0 n0 hE hW O hk0 hN
  have l0 := O.pq
  unfold slF at h
  split at h
  · rename_i c1
    obtain ⟨m, kd, hm, hkd, st⟩ : ∃ m kd, ((kd = 4 ∧ m = 6) ∨ (kd = 5 ∧ m = 7)) ∧ (kd = if sx s.1 = 43 then 4 else 5) ∧ stA sx (s.1, false, c, l) = some (s.1 + 1, true, (q, C, (m, 0) :: W), l) := by
      by_cases c2 : sx s.1 = 43
      · refine ⟨6, 4, Or.inl ⟨rfl, rfl⟩, (if_pos c2).symm, ?_⟩
        rw [st_g]
        unfold stG
        rw [if_neg (by omega), if_neg (by omega), if_pos c2, hE]; rfl
      · refine ⟨7, 5, Or.inr ⟨rfl, rfl⟩, (if_neg c2).symm, ?_⟩
        rw [st_g]
        unfold stG
        rw [if_neg (by omega), if_neg (by omega), if_neg c2, if_pos (by omega), hE]; rfl
    have hm' : m = 6 ∨ m = 7 := by omega
    have hnt : ntW ((m, 0) :: W) := ⟨show m ≠ 2 by omega, show m ≠ 3 by omega, show m ≠ 4 by omega⟩
    rcases bnd_some h with ⟨h1, rfl⟩ | ⟨x, s1, h1, h2⟩
    · exact ⟨fun _ => FailA.of (Rch.one st) (((I _ _ _).2.1 h1 q C ((m, 0) :: W) l hnt).1 rfl), fun k hk => (nomatch hk)⟩
    · obtain ⟨q1, C1, n1, R1, O1, L1, f1, N1⟩ := ((I _ _ _).2.1 h1 q C ((m, 0) :: W) l hnt).2 x rfl
      have R1 := Rch.cons st R1
      obtain ⟨G, K⟩ := pars_g hx _ _ _ _ _ _ h1
      have K := (K _ rfl).1 (by decide)
      have K1 : s.2.1 < s1.2.1 := K.1
      have G5 : ∀ j, j < b + s.2.1 → s1.2.2 j = s.2.2 j := G.2.2.2.2
      have L1 : n1 ≤ s1.2.1 - s.2.1 := L1
      have O1 : okN C1 s1.2.2 n1 x (a + 1) q q1 := by rw [hk0]; exact O1
      have l1 := O1.pq
      have O0 : okN C1 s1.2.2 n0 a s0 q0 q := O.fr (fun j _ y => G5 j (by omega)) (fun j _ y => f1 j y)
      have O2 : okN (upc C1 q1 (m, 0)) (ndP b (kd, a, x, 0, 0) s1).2.2 (n0 + n1) (b + s1.2.1) s0 q0 (q1 + 1) := okN_bin (O0.nd (by omega) (frC.rf.up (by omega))) (O1.nd (by omega) (frC.rf.up (by omega))) (by omega) K.2 nd_s upc_s
      rw [← hkd] at h2
      have G2 : s1.2.1 + 1 ≤ s'.2.1 := (pars_g hx _ _ _ _ _ _ h2).1.2.1
      obtain ⟨A, B⟩ := ((I _ _ _).2.2.2.2 _).2 h2 (q1, C1, (m, 0) :: W) (q1 + 1) (upc C1 q1 (m, 0)) W l q0 s0 (n0 + n1) (esC_pm hm') hW O2 rfl N1
      refine ⟨fun z => FailA.of R1 (A z), fun k hk => ?_⟩
      obtain ⟨c2, q2, C2, n2, R2, E2, O2, L2, f2, N2⟩ := B k hk
      have L2 : n2 ≤ n0 + n1 + (s'.2.1 - (s1.2.1 + 1)) := L2
      exact ⟨c2, q2, C2, n2, R1.trans R2, E2, O2, by omega, fun j hj => (f2 j hj).trans ((upc_n (by omega)).trans (f1 j (by omega))), N2⟩
  · rename_i c1
    cases h
    refine ⟨fun z => (nomatch z), fun k hk => ?_⟩
    cases hk
    exact ⟨c, q, C, n0, Rch.rf, hE, O, by omega, frC.rf, hN.1, hN.2, fun z => c1 (Or.inl z), fun z => c1 (Or.inr z)⟩
theorem sim_fo (hx : ∀ i, e ≤ i → sx i = 256) (I : simA sx b f) (h : foF sx b (pars sx b f) s = some (r, s')) : sim3 sx b s r s' := by
  intro q C W l hW
  unfold foF at h
  rcases bnd_some h with ⟨h1, rfl⟩ | ⟨a, s1, h1, h2⟩
  · exact ⟨fun _ => ((I _ _ _).2.2.1 h1 q C W l hW.1).1 rfl, fun k hk => (nomatch hk)⟩
  obtain ⟨c1, q1, C1, n1, R1, E1, O1, L1, f1, N1⟩ := ((I _ _ _).2.2.1 h1 q C W l hW.1).2 a rfl
  obtain ⟨G1, K1⟩ := pars_g hx _ _ _ _ _ _ h1
  have K1 := (K1 _ rfl).1 (by decide)
  split at h2
  · rename_i d1
    have st1 : stA sx (s1.1, false, c1, l) = some (s1.1 + 1, true, (q1, C1, (12, 0) :: W), l) := by
      rw [st_g]
      unfold stG
      rw [if_neg (by omega), if_neg (by omega), if_neg (by omega), if_neg (by omega), if_pos d1, E1, if_neg hW.2]; rfl
    have R1 := R1.trans (Rch.one st1)
    have t2 : tp2 ((12, 0) :: W) := ⟨⟨show (12 : Nat) ≠ 2 by decide, show (12 : Nat) ≠ 3 by decide, show (12 : Nat) ≠ 4 by decide⟩, show (12 : Nat) ≠ 6 by decide, show (12 : Nat) ≠ 7 by decide⟩
    rcases bnd_some h2 with ⟨h3, rfl⟩ | ⟨x, s2, h3, h4⟩
    · exact ⟨fun _ => FailA.of R1 (((I _ _ _).2.2.1 h3 q1 C1 ((12, 0) :: W) l t2).1 rfl), fun k hk => (nomatch hk)⟩
    obtain ⟨c2, q2, C2, n2, R2, E2, O2, L2, f2, N2⟩ := ((I _ _ _).2.2.1 h3 q1 C1 ((12, 0) :: W) l t2).2 x rfl
    have R2 := R1.trans R2
    obtain ⟨G2, K2⟩ := pars_g hx _ _ _ _ _ _ h3
    have K2 := (K2 _ rfl).1 (by decide)
    split at h4
    · rename_i d2
      have st2 : stA sx (s2.1, false, c2, l) = some (s2.1 + 1, true, (q2 + 1, upc C2 q2 (8, 0), (8, q2) :: W), l) := by
        rw [st_g]
        unfold stG
        rw [if_neg (by omega), if_neg (by omega), if_neg (by omega), if_neg (by omega), if_neg (by omega), if_pos d2, E2, if_pos (by rfl)]; rfl
      have R2 := R2.trans (Rch.one st2)
      have t3 : tp3 ((8, q2) :: W) := ⟨⟨⟨show (8 : Nat) ≠ 2 by decide, show (8 : Nat) ≠ 3 by decide, show (8 : Nat) ≠ 4 by decide⟩, show (8 : Nat) ≠ 6 by decide, show (8 : Nat) ≠ 7 by decide⟩, show (8 : Nat) ≠ 12 by decide⟩
      rcases bnd_some h4 with ⟨h5, rfl⟩ | ⟨y, s3, h5, h6⟩
      · exact ⟨fun _ => FailA.of R2 (((I _ _ _).2.2.2.1 h5 (q2 + 1) (upc C2 q2 (8, 0)) ((8, q2) :: W) l t3).1 rfl), fun k hk => (nomatch hk)⟩
      obtain ⟨c3, q3, C3, n3, m3, R3, E3, O3, L3, f3, N3⟩ := ((I _ _ _).2.2.2.1 h5 (q2 + 1) (upc C2 q2 (8, 0)) ((8, q2) :: W) l t3).2 y rfl
      have R3 := R2.trans R3
      obtain ⟨G3, K3⟩ := pars_g hx _ _ _ _ _ _ h5
      have K3 := (K3 _ rfl).1 (by decide)
      have l1 := O1.pq
      have l2 := O2.pq
      have l3 := O3.pq
      split at h6
      · rename_i d3
        have e3 : efC c3 = (q3, C3, (8, q2) :: W) := efC_of E3 (show (8 : Nat) ≠ 9 by decide)
        have e8 : C3 q2 = (8, 0) := (f3 q2 (by omega)).trans upc_s
        obtain ⟨C4, hC4⟩ : ∃ C4, C4 = upc (upc C3 q3 (9, 0)) q2 (8, q3 + 1) := ⟨_, rfl⟩
        have st3 : stA sx (s3.1, false, c3, l) = some (s3.1 + 1, true, (q3 + 1, C4, (9, q3) :: W), l) := by
          have eb : b9C (q3, C3, (8, q2) :: W) = (q3 + 1, C4, (9, q3) :: W) := by
            show (if q2 < q3 + 1 then (q3 + 1, upc (upc C3 q3 (9, 0)) q2 ((upc C3 q3 (9, 0) q2).1, q3 + 1), (9, q3) :: W) else (q3 + 1, upc C3 q3 (9, 0), (9, q3) :: W)) = _
            rw [if_pos (by omega), upc_n (show q2 ≠ q3 by omega), e8, hC4]
          rw [st_g]
          unfold stG
          rw [if_neg (by omega), if_neg (by omega), if_neg (by omega), if_neg (by omega), if_neg (by omega), if_neg (by omega), if_pos d3, e3, if_pos (by rfl), eb]
        have R3 := R3.trans (Rch.one st3)
        have t4 : tp3 ((9, q3) :: W) := ⟨⟨⟨show (9 : Nat) ≠ 2 by decide, show (9 : Nat) ≠ 3 by decide, show (9 : Nat) ≠ 4 by decide⟩, show (9 : Nat) ≠ 6 by decide, show (9 : Nat) ≠ 7 by decide⟩, show (9 : Nat) ≠ 12 by decide⟩
        rcases bnd_some h6 with ⟨h7, rfl⟩ | ⟨z, s4, h7, h8⟩
        · exact ⟨fun _ => FailA.of R3 (((I _ _ _).2.2.2.1 h7 (q3 + 1) C4 ((9, q3) :: W) l t4).1 rfl), fun k hk => (nomatch hk)⟩
        obtain ⟨c4, q4, C5, n4, m4, R4, E4, O4, L4, f4, N4⟩ := ((I _ _ _).2.2.2.1 h7 (q3 + 1) C4 ((9, q3) :: W) l t4).2 z rfl
        have R4 := R3.trans R4
        obtain ⟨G4, K4⟩ := pars_g hx _ _ _ _ _ _ h7
        have K4 := (K4 _ rfl).1 (by decide)
        have l4 := O4.pq
        cases h8
        refine ⟨fun z => (nomatch z), fun k hk => ?_⟩
        cases hk
        have e9 : C5 q3 = (9, 0) := by rw [f4 q3 (by omega), hC4, upc_n (by omega), upc_s]
        have eC4 : ∀ j, j ≠ q2 → j ≠ q3 → C4 j = C3 j := fun j x y => by rw [hC4, upc_n x, upc_n y]
        have e88 : C4 q2 = (8, q3 + 1) := by rw [hC4, upc_s]
        obtain ⟨C6, hC6⟩ : ∃ C6, C6 = upc (upc C5 q4 (10, 0)) q3 (9, q4 + 1) := ⟨_, rfl⟩
        have eC6 : ∀ j, j ≠ q3 → j < q4 → C6 j = C5 j := fun j x y => by rw [hC6, upc_n x, upc_n (by omega)]
        have ep : p9C (q4, C5, (9, q3) :: W) = (q4 + 1, C6, W) := by
          show (if q3 < q4 + 1 then (q4 + 1, upc (upc C5 q4 (10, 0)) q3 ((upc C5 q4 (10, 0) q3).1, q4 + 1), W) else (q4 + 1, upc C5 q4 (10, 0), W)) = _
          rw [if_pos (by omega), upc_n (show q3 ≠ q4 by omega), e9, hC6]
        have E5 := itO_snoc E4 (show (9 : Nat) = 9 from rfl)
        rw [ep] at E5
        have g1 : s.2.1 < s1.2.1 := K1.1
        have g2 : s1.2.1 < s2.2.1 := K2.1
        have g3 : s2.2.1 < s3.2.1 := K3.1
        have g4 : s3.2.1 < s4.2.1 := K4.1
        have T1 : ∀ j, j < b + s1.2.1 → s2.2.2 j = s1.2.2 j := G2.2.2.2.2
        have T2 : ∀ j, j < b + s2.2.1 → s3.2.2 j = s2.2.2 j := G3.2.2.2.2
        have T3 : ∀ j, j < b + s3.2.1 → s4.2.2 j = s3.2.2 j := G4.2.2.2.2
        have TN : ∀ j, j < b + s4.2.1 → (ndP b (8, a, x, y, z) s4).2.2 j = s4.2.2 j := fun j hj => nd_n hj
        have L1 : n1 ≤ s1.2.1 - s.2.1 := L1
        have L2 : n2 ≤ s2.2.1 - s1.2.1 := L2
        have L3 : n3 ≤ s3.2.1 - s2.2.1 := L3
        have L4 : n4 ≤ s4.2.1 - s3.2.1 := L4
        have F2 : frC q1 C2 C1 := f2
        have F3 : frC (q2 + 1) C3 (upc C2 q2 (8, 0)) := f3
        have F4 : frC (q3 + 1) C5 C4 := f4
        have A1 : okN C6 (ndP b (8, a, x, y, z) s4).2.2 n1 a (b + s.2.1) q q1 := O1.fr (fun j _ y => by rw [TN j (by omega), T3 j (by omega), T2 j (by omega), T1 j (by omega)]) (fun j _ y => by rw [eC6 j (by omega) (by omega), F4 j (by omega), eC4 j (by omega) (by omega), F3 j (by omega), upc_n (by omega), F2 j (by omega)])
        have O2 : okN C2 s2.2.2 n2 x (a + 1) q1 q2 := by rw [K1.2]; exact O2
        have A2 : okN C6 (ndP b (8, a, x, y, z) s4).2.2 n2 x (a + 1) q1 q2 := O2.fr (fun j _ y => by rw [TN j (by omega), T3 j (by omega), T2 j (by omega)]) (fun j _ y => by rw [eC6 j (by omega) (by omega), F4 j (by omega), eC4 j (by omega) (by omega), F3 j (by omega), upc_n (by omega)])
        have O3 : okN C3 s3.2.2 n3 y (x + 1) (q2 + 1) q3 := by rw [K2.2]; exact O3
        have A3 : okN C6 (ndP b (8, a, x, y, z) s4).2.2 n3 y (x + 1) (q2 + 1) q3 := O3.fr (fun j _ y => by rw [TN j (by omega), T3 j (by omega)]) (fun j _ y => by rw [eC6 j (by omega) (by omega), F4 j (by omega), eC4 j (by omega) (by omega)])
        have O4 : okN C5 s4.2.2 n4 z (y + 1) (q3 + 1) q4 := by rw [K3.2]; exact O4
        have A4 : okN C6 (ndP b (8, a, x, y, z) s4).2.2 n4 z (y + 1) (q3 + 1) q4 := O4.fr (fun j _ y => by rw [TN j (by omega)]) (fun j _ y => by rw [eC6 j (by omega) (by omega)])
        refine ⟨c4, q4 + 1, C6, n1 + n2 + n3 + n4, m4 + 1, R4, E5, okN_tst A1 A2 A3 A4 K4.2 nd_s ?_ ?_ ?_, ?_, ?_, N4⟩
        · rw [eC6 q2 (by omega) (by omega), F4 q2 (by omega), e88]
        · rw [hC6, upc_s]
        · rw [hC6, upc_n (by omega), upc_s]
        · show n1 + n2 + n3 + n4 ≤ s4.2.1 + 1 - s.2.1; omega
        · intro j hj
          rw [eC6 j (by omega) (by omega), F4 j (by omega), eC4 j (by omega) (by omega), F3 j (by omega), upc_n (by omega), F2 j (by omega), f1 j hj]
      · rename_i d3
        cases h6
        exact ⟨fun _ => FailA.of R3 (stop3 E3 (Or.inr rfl) N3 (fun z => absurd z (by decide)) (fun _ => d3)).fail, fun k hk => (nomatch hk)⟩
    · rename_i d2
      cases h4
      exact ⟨fun _ => FailA.of R2 (stop2 E2 N2 d2).fail, fun k hk => (nomatch hk)⟩
  · rename_i d1
    cases h2
    refine ⟨fun z => (nomatch z), fun k hk => ?_⟩
    cases hk
    exact ⟨c1, q1, C1, n1, 0, R1, by rw [E1]; rfl, O1, L1, f1, N1.1, N1.2.1, N1.2.2.1, N1.2.2.2, d1⟩
theorem sim_all (hx : ∀ i, e ≤ i → sx i = 256) : ∀ f, simA sx b f
  | 0 => fun s r s' => ⟨(nomatch ·), (nomatch ·), (nomatch ·), (nomatch ·), fun a => ⟨(nomatch ·), (nomatch ·)⟩⟩
  | f + 1 => fun s r s' => ⟨fun h => sim_th hx (sim_all hx f) h, fun h => sim_pr hx (sim_all hx f) h, fun h => sim_su hx (sim_all hx f) h, fun h => sim_fo hx (sim_all hx f) h, fun a => ⟨fun h => sim_pl hx (sim_all hx f) h, fun h => sim_sl hx (sim_all hx f) h⟩⟩
end SIM
