/-! THE CALL map: class and model answer alike -/
section TRC
variable {C : Nat → Nat × Nat} {T : NT}
theorem tr_cmp : ∀ (n m k s p q : Nat), trN T n k s → cmpN C T m k p q → k + 1 + p ≤ q + s := by
  intro n
  induction n with
  | zero => intro m k s p q h _; exact h.elim
  | succ n ih =>
    intro m k s p q h c
    cases m with
    | zero => exact c.elim
    | succ m =>
      unfold trN at h
      unfold cmpN at c
      split at h
      · rename_i a w ee; rw [ee] at c; obtain ⟨v, -, -, -, c4⟩ := c; have := h.1; omega
      · rename_i a w ee; rw [ee] at c; obtain ⟨-, -, c4⟩ := c; have := h.1; omega
      · rename_i a w ee; rw [ee] at c; obtain ⟨r, c1, -, c3⟩ := c; have := ih _ _ _ _ _ h.2 c1; have := h.1; omega
      · rename_i a w ee; rw [ee] at c; obtain ⟨r, c1, -, c3⟩ := c; have := ih _ _ _ _ _ h.2 c1; have := h.1; omega
      · rename_i a b w ee; rw [ee] at c; obtain ⟨r, s', c1, c2, -, c4⟩ := c; obtain ⟨h1, t, h2, h3, h4⟩ := h; have := ih _ _ _ _ _ h4 c1; have := ih _ _ _ _ _ h2 c2; omega
      · rename_i a b w ee; rw [ee] at c; obtain ⟨r, s', c1, c2, -, c4⟩ := c; obtain ⟨h1, t, h2, h3, h4⟩ := h; have := ih _ _ _ _ _ h4 c1; have := ih _ _ _ _ _ h2 c2; omega
      · rename_i a b w ee; rw [ee] at c; obtain ⟨r, s', c1, c2, -, c4⟩ := c; obtain ⟨h1, t, h2, h3, h4⟩ := h; have := ih _ _ _ _ _ h4 c1; have := ih _ _ _ _ _ h2 c2; omega
      · rename_i a b w ee; rw [ee] at c; obtain ⟨r, c1, -, -, -, c5⟩ := c; obtain ⟨h1, -, -, h4⟩ := h; have := ih _ _ _ _ _ h4 c1; omega
      · rename_i a b c' e ee; rw [ee] at c; obtain ⟨r, s', t, u, c1, c2, -, c4, -, c6, -, c8⟩ := c; obtain ⟨h1, r', t', u', h2, h3, h4, h5, h6, h7, h8⟩ := h
        have := ih _ _ _ _ _ h8 c1; have := ih _ _ _ _ _ h6 c2; have := ih _ _ _ _ _ h4 c4; have := ih _ _ _ _ _ h2 c6; omega
      · exact h.elim
theorem cmpN_62 : ∀ (j n k p q : Nat), n + j = 62 → cmpN C T n k p q → cmpN C T 62 k p q
  | 0, n, k, p, q, e, c => by rw [← e]; exact c
  | j + 1, n, k, p, q, e, c => cmpN_62 j (n + 1) k p q (by omega) (cmpN_up n k p q c)
end TRC
theorem sx_e {sg : Nat → Nat} {e : Nat} : sxE sg e e = 256 := by
  unfold sxE
  exact if_neg (Nat.lt_irrefl _)
theorem avo_new {K L : List Nat} {n : Nat} (hn : 118 ≤ n) (q : avo K L = true) (hK : low 118 K = true) : avo K (L ++ [n, n + 1]) = true := avo_i fun x hx z => by
  rcases List.mem_append.mp hx with a | a
  · exact absurd a (avo_n q z)
  · have := low_n hK x (List.contains_iff_mem.mp z)
    simp only [List.mem_cons, List.not_mem_nil, or_false] at a
    omega
section MAPK
variable {h h1 h2 : AH} {L L1 L2 S2 : List Nat} {nm nm' fk np nb : Nat} {uz uz' : Int} {M M' : MPT} {E : LE} {g : GT} {ps : Nat → Int} {X : ST4} {f t : Nat → Nat} {b : Bool} {x : SP} {tp : Nat → Int32} {sg : Nat → Nat}
theorem ClB.lt {n mo i : Nat} {m : MP1} (c : ClB h n mo m) (d : MapM h1 m.1 i m.2.1 m.2.2.1 m.2.2.2) : m.2.1 < 62 * i + 60 ∧ (m.2.2.2 = true → m.2.2.1 < 62 * i + 60) := by
  obtain ⟨co, len, f, C, -, -, l60, c, -, -⟩ := c
  obtain ⟨-, -, -, -, -, t1, t2, -⟩ := d
  rcases c with ⟨pl, c⟩ | ⟨pl, q, c1, c2⟩
  · have := tr_cmp _ _ _ _ _ _ t1 c
    exact ⟨by omega, fun z => by rw [pl] at z; cases z⟩
  · have := tr_cmp _ _ _ _ _ _ t1 c1
    have k := cmpN_pq _ _ _ _ c2
    have := tr_cmp _ _ _ _ _ _ (t2 pl) c2
    exact ⟨by omega, fun _ => by omega⟩
theorem MapM.tab {T : NT} {i rx ry : Nat} {pl : Bool} (d : MapM h T i rx ry pl) (r : rx < 62 * i + 60 ∧ (pl = true → ry < 62 * i + 60)) (t1 : ∀ j, j < 62 * i + 62 → ai h2 81 j = ai h 81 j ∧ ai h2 82 j = ai h 82 j ∧ ai h2 83 j = ai h 83 j ∧ ai h2 84 j = ai h 84 j ∧ ai h2 85 j = ai h 85 j) (t2 : ai h2 86 i = ai h 86 i ∧ ai h2 87 i = ai h 87 i) : MapM h2 T i rx ry pl := by
  obtain ⟨m1, m2, m3, m4, m5, m6, m7, m8⟩ := d
  refine ⟨t2.1.trans m1, t2.2.trans m2, m3, m4, m5, m6, m7, fun j j1 j2 => ?_⟩
  obtain ⟨a1, a2, a3, a4, a5⟩ := m8 j j1 j2
  have hj : j < 62 * i + 62 := by
    have := r.2
    cases pl
    · rw [if_neg (by decide)] at j2; omega
    · rw [if_pos rfl] at j2; have := r.2 rfl; omega
  obtain ⟨b1, b2, b3, b4, b5⟩ := t1 j hj
  exact ⟨b1.trans a1, b2.trans a2, b3.trans a3, b4.trans a4, b5.trans a5⟩
theorem tap0 (F2 : FM L2 S2 h1 h2) (k : gi h1 1 1 = 0) (q : avo [1] L2 = true) (m : gi h2 78 2 = 0) (H : ∀ i, ∃ s, s < 256 ∧ tp i = nI s) : BTap h2 := ⟨0, tp, ⟨by rw [gi_of_ag (F2.1.2.1 1 (avo_n q rfl))]; exact k, Nat.zero_le _, fun i hi => absurd hi (Nat.not_lt_zero _)⟩, ⟨m, Nat.zero_le _, fun i hi => absurd hi (Nat.not_lt_zero _)⟩, H⟩
theorem SX.hi (Y : SX h) (F : Hi h h1) : SX h1 := fun t ht => ⟨(F _ (by omega)).trans (Y t ht).1, (F _ (by omega)).trans (Y t ht).2⟩
def MPM : List Nat := 86 :: 87 :: PML
/-- the model's half behind map -/
theorem CoM.map (D : CoM h1 nm uz M E g fk ps np X nb f t b x) (F : FM MPM MMS h1 h2) (k5 : gi h2 78 5 = nI nm') (k6 : gi h2 78 6 = I uz') (mm : MpsM h2 nm' M') : CoM h2 nm' uz' M' E g fk ps np X nb f t b x := by
  obtain ⟨-, a4, a5, a6, a7, a8, a9, a10⟩ := D
  exact ⟨⟨k5, k6, mm⟩, a4.keep F (by decide), a5.keep F (by decide), by rw [F.fi (by decide)]; exact a6, a7.keep F (by decide) (by decide), a8.keep F (by decide), a9.keep F (by decide) (by decide) (by decide), a10.keep F (by decide) (by decide)⟩
/-- the maps of before -/
theorem mps_old (D : MpsM h1 nm M) (C : MpsC h h.1 nm M) (t1 : ∀ j, j < 62 * nm → ai h2 81 j = ai h1 81 j ∧ ai h2 82 j = ai h1 82 j ∧ ai h2 83 j = ai h1 83 j ∧ ai h2 84 j = ai h1 84 j ∧ ai h2 85 j = ai h1 85 j) (t2 : ∀ j, j ≠ nm → ai h2 86 j = ai h1 86 j ∧ ai h2 87 j = ai h1 87 j) : MpsM h2 nm M := fun i hi => by
  obtain ⟨mo, -, c⟩ := C i hi
  exact (D i hi).tab (c.lt (D i hi)) (fun j hj => t1 j (by omega)) (t2 i (by omega))
end MAPK
section OPMAP
variable {h : AH}
set_option maxHeartbeats 1000000 in
theorem op_map (In : Inv h) (hz : h.1 + 1 < 700000) : OP 120 202 [] h := by
  obtain ⟨l, tp, T1, T2, H⟩ := In.2.2.1
  obtain ⟨nm, uz, M, E, g, fk, ps, np, X, nb, bf, bt, sb, sx, P, C, D⟩ := id In.core
  have hS := In.1
  obtain ⟨sg, hsg⟩ := Classical.axiomOfChoice H
  have hg : ∀ i, sg i < 256 := fun i => (hsg i).1
  have hs1 : ∀ i, i < l → ai h 2 i = nI (sg i) := fun i hi => (T1.2.2 i hi).trans (hsg i).2
  have hs2 : ∀ i, i < l → ai h 79 i = nI (sg i) := fun i hi => (T2.2.2 i hi).trans (hsg i).2
  have l100 := T1.2.1
  have z00 : nI 0 = 0 := rfl
  by_cases c4 : nm = 4
  · have gm1 : gi h 0 2 = nI 4 := by rw [← c4]; exact C.1.1
    have gm2 : gi h 78 5 = nI 4 := by rw [← c4]; exact D.1.1
    have e1 := c_mapF (d := 598) hS gm1 T1.1 l100
    have F1 : Fr [1] h (wi h 1 1 0) := (Fr.rf hS _).swi (by decide)
    have e2 := m_mapF (x := 599) (h := wi h 1 1 0) F1.1 (by rw [gi_wi_n (by decide)]; exact gm2)
    have F2 : FM [78] [0, 2] (wi h 1 1 0) (wi (wi (wi h 1 1 0) 78 0 0) 78 2 0) := ((FM.rf F1.1 _ _).swi (by decide) (by decide)).swi (by decide) (by decide)
    have k := g0k F1 (by decide)
    exact ⟨_, OPv.fr e1 e2 F1 F2 rfl rfl ⟨F2.s, In.x2 F1 F2 rfl rfl, tap0 F2 (g1_1 hS) rfl (g78_2 (SH_wi F1.1)) H, In.told.k2 F1 F2 rfl rfl rfl, In.2.2.2.2.1.k2 F1 F2 (k 6) rfl rfl rfl, In.2.2.2.2.2.1.k2 F1 F2 (k 19) rfl rfl rfl, In.2.2.2.2.2.2.1.k2 F1 F2 rfl rfl, In.core.k2 F1 F2 (k 2) (k 3) (k 9) rfl rfl rfl rfl rfl⟩⟩
  have hm : nm < 4 := by have := P.1; omega
  obtain ⟨h9, is, v, -, -, -, -, -, v9, -, -, out⟩ := m_map (x := 589) hS In.2.1 hg T2.1 l100 hs2 D.1.1 hm (by decide) (fun _ => (0, 0))
  /- what the model does on another heap -/
  have MM : ∀ h1 : AH, SH h1 → SX h1 → gi h1 78 2 = nI l → (∀ i, i < l → ai h1 79 i = nI (sg i)) → gi h1 78 5 = nI nm → ∃ h' is v, aCall 600 202 [.ref 78] h1 = some (some (.int (mapO is l nm v)), h') ∧ FM (86 :: 87 :: PML) MMS h1 h' ∧ (∀ j, j < 62 * nm → ai h' 81 j = ai h1 81 j ∧ ai h' 82 j = ai h1 82 j ∧ ai h' 83 j = ai h1 83 j ∧ ai h' 84 j = ai h1 84 j ∧ ai h' 85 j = ai h1 85 j) ∧ (∀ j, j ≠ nm → ai h' 86 j = ai h1 86 j ∧ ai h' 87 j = ai h1 87 j) ∧ gi h' 78 2 = 0 ∧ v ≤ min l 60 ∧ (is = true ∧ l ≤ 60 → gi h' 78 5 = nI (nm + 1) ∧ gi h' 78 6 = nI nm) ∧ (¬ (is = true ∧ l ≤ 60) → gi h' 78 5 = nI nm ∧ gi h' 78 6 = gi h1 78 6) ∧ ((is = false ∧ FailA (sxE sg (min l 60)) (AS0 fun _ => (0, 0)) v) ∨ (is = true ∧ v = min l 60 ∧ ∃ T rx ry pl, RdOk (sxE sg (min l 60)) (min l 60) nm (fun _ => (0, 0)) T rx ry pl ∧ MapM h' T nm rx ry pl)) := fun h1 s1 x1 a b c => m_map (x := 589) s1 x1 hg a l100 b c hm (by decide) (fun _ => (0, 0))
  /- the wrong place v is told by both -/
  have WR : ∀ v : Nat, v ≤ 60 → ∀ h1 : AH, aCall 599 59 [.ref 1] h = some (some (.int (nI v)), h1) → FrS h h1 → (∀ (is : Bool) (v' : Nat), ((is = false ∧ FailA (sxE sg (min l 60)) (AS0 fun _ => (0, 0)) v') ∨ (is = true ∧ v' = min l 60 ∧ ∃ T rx ry pl, RdOk (sxE sg (min l 60)) (min l 60) nm (fun _ => (0, 0)) T rx ry pl)) → v' ≤ min l 60 → mapO is l nm v' = -1 - nI v ∧ ¬ (is = true ∧ l ≤ 60)) → OP 120 202 [] h := fun v hv h1 e1 F1 K => by
    have d1 := c_mapW (d := 592) hS C.1.1 hm T1.1 l100 hv e1 F1
    have F1' : Fr [1, 3, 4] h (wi h1 1 1 0) := F1.1.swi (by decide)
    have F0 := F1'.toFM (by decide) []
    have g11 : gi (wi h1 1 1 0) 1 1 = 0 := g1_1 F1.1.1
    generalize wi h1 1 1 0 = h3 at d1 F1' F0 g11
    have a78 := F1'.2.1 78 (by decide)
    obtain ⟨h2, is, v', e2, F2, t1, t2, z2, v9', -, y2, out'⟩ := MM h3 F1'.1 (In.2.1.keep F1' (by decide)) (by rw [gi_of_ag a78]; exact T2.1) (fun i hi => by rw [F0.ai (by decide)]; exact hs2 i hi) (by rw [gi_of_ag a78]; exact D.1.1)
    obtain ⟨k1, k2⟩ := K is v' (by
      rcases out' with z | ⟨z1, z2, T, rx, ry, pl, z3, -⟩
      · exact Or.inl z
      · exact Or.inr ⟨z1, z2, T, rx, ry, pl, z3⟩) v9'
    rw [k1] at e2
    obtain ⟨y5, y6⟩ := y2 k2
    have k := g0k F1' (by decide)
    have D1 := D.c F1' rfl
    have C1 := C.k0 F1' rfl rfl (k 2) (k 3) (k 9)
    have D2 : CoM h2 nm uz M E g fk ps np X nb bf bt sb sx := D1.map F2 y5 (y6.trans D1.1.2.1) (mps_old D1.1.2.2 C1.1.2.2 t1 t2)
    exact ⟨_, OPv.fr d1 e2 F1' F2 rfl rfl ⟨F2.s, In.x2 F1' F2 rfl rfl, tap0 F2 g11 rfl z2 H, In.told.k2 F1' F2 rfl rfl rfl, In.2.2.2.2.1.k2 F1' F2 (k 6) rfl rfl rfl, In.2.2.2.2.2.1.k2 F1' F2 (k 19) rfl rfl rfl, In.2.2.2.2.2.2.1.k2 F1' F2 rfl rfl, ⟨nm, uz, M, E, g, fk, ps, np, X, nb, bf, bt, sb, sx, P, C1.m F2.1 rfl, D2⟩⟩⟩
  rcases out with ⟨-, Q⟩ | ⟨-, -, T, rx, ry, pl, ⟨c1, q, C', n, r1, r2, -⟩, -⟩
  · obtain ⟨h1, e1, F1, v60⟩ := c_wrong (d := 592) hS In.2.1 hg T1.1 l100 hs1 Q
    refine WR v v60 h1 e1 F1 fun is v' o v9' => ?_
    rcases o with ⟨a, b⟩ | ⟨-, -, T', rx', ry', pl', ⟨c1, q, C', n, r1, r2, -⟩⟩
    · have e := fail_one b Q
      subst e
      subst a
      refine ⟨?_, fun z => nomatch z.1⟩
      unfold mapO
      split
      · rename_i z
        have : v' = 60 := by
          rcases z.2 with w | w
          · cases w
          · omega
        rw [this]
      · rfl
    · exact (fail_not sx_e Q r1 r2).elim
  · obtain ⟨h1, e1, F1, f1, q60⟩ := c_right (d := 592) hS In.2.1 hg T1.1 l100 hs1 r1 r2
    by_cases l60 : 60 < l
    · rw [if_pos l60] at e1
      refine WR 60 (Nat.le_refl _) h1 e1 F1 fun is v' o v9' => ?_
      rcases o with ⟨-, b⟩ | ⟨a, -, -⟩
      · exact (fail_not sx_e b r1 r2).elim
      · subst a
        refine ⟨?_, fun z => by omega⟩
        unfold mapO
        exact if_pos ⟨l60, Or.inl rfl⟩
    · have l60 : l ≤ 60 := by omega
      obtain ⟨h3, cf, d1, FF, g2, g3, g0, a5, m1, m2, m3, z1, fl, w4, -, wg⟩ := c_mapR (d := 592) hS In.2.1 hg hz C.1.1 hm T1.1 l60 hs1 r1 r2
      have h118 := hS.1
      have S3 := FF.1
      have n3 : h3.1 = h.1 + 2 := FF.2.2.1
      obtain ⟨hh, dh⟩ : ∃ hh : AH, hh = (h3.1, h3.2.1, h.2.2) := ⟨_, rfl⟩
      have ah : ∀ a, ag hh a = ag h a := fun a => by rw [dh]; rfl
      have Fh : Fr (MPL ++ [h.1, h.1 + 1]) hh h3 := by
        refine ⟨S3, fun a ha => ?_, by rw [dh], by rw [dh]⟩
        have z : ¬ (a = h.1 ∨ a = h.1 + 1) := fun z => ha (List.mem_append.mpr (Or.inr (by simp only [List.mem_cons, List.not_mem_nil, or_false]; exact z)))
        rw [ah]
        exact FF.2.1 a (fun z => ha (List.mem_append.mpr (Or.inl z))) (by omega)
      have av : ∀ {K : List Nat}, avo K MPL = true → low 118 K = true → avo K (MPL ++ [h.1, h.1 + 1]) = true := fun a b => avo_new h118 a b
      have FhM : FM (MPL ++ [h.1, h.1 + 1]) [] hh h3 := Fh.toFM (avo_n (av (K := [78]) rfl rfl) rfl) []
      have Dh : CoM hh nm uz M E g fk ps np X nb bf bt sb sx := by rw [dh]; exact D
      have D3 : CoM h3 nm uz M E g fk ps np X nb bf bt sb sx := Dh.keep FhM (av rfl rfl) rfl (av rfl rfl)
      have hi3 : Hi h h3 := fun a ha => FF.2.1 a (fun z => by revert z; simp only [MPL, List.mem_cons, List.not_mem_nil, or_false]; omega) (by omega)
      have X3 := In.2.1.hi hi3
      have lo3 : ∀ {a}, a < 118 → a ∉ MPL → ag h3 a = ag h a := fun {a} ha hl => FF.2.1 a hl (Or.inl (by omega))
      have a78 : ag h3 78 = ag h 78 := lo3 (by decide) (by decide)
      obtain ⟨h2, is, v', e2, F2, t1, t2, z2, v9', y1, -, out'⟩ := MM h3 S3 X3 (by rw [gi_of_ag a78]; exact T2.1) (fun i hi => by rw [ai_of_ag (lo3 (by decide) (by decide))]; exact hs2 i hi) D3.1.1
      rcases out' with ⟨-, b⟩ | ⟨is1, ve, T', rx', ry', pl', ⟨c1', q', C'', n', s1, s2, n62, o1, o2, o3⟩, MT⟩
      · exact (fail_not sx_e b r1 r2).elim
      obtain ⟨rfl, rfl⟩ := right_one sx_e r1 s1
      rw [r2] at s2
      obtain ⟨rfl, rfl⟩ : q = q' ∧ C' = C'' := by cases s2; exact ⟨rfl, rfl⟩
      obtain ⟨y5, y6⟩ := y1 ⟨is1, l60⟩
      obtain ⟨M', dM⟩ : ∃ M' : MPT, M' = fun i => if i = nm then (T', rx', ry', pl) else M i := ⟨_, rfl⟩
      have Mn : M' nm = (T', rx', ry', pl) := by rw [dM]; exact if_pos rfl
      have Mo : ∀ i, i ≠ nm → M' i = M i := fun i hi => by rw [dM]; exact if_neg hi
      have ans : mapO is l nm v' = nI nm := by
        unfold mapO
        rw [if_neg (fun z => by omega), if_pos is1]
      rw [ans] at e2
      have ch : ∀ {K : List Nat}, avo K MPL = true → low 118 K = true → ∀ x, x ∈ K → x ∉ MPL ++ [h.1, h.1 + 1] := fun a b x hx => avo_n (av a b) (List.contains_iff_mem.mpr hx)
      have n1 : ∀ {k : Nat}, avo [k] MPL = true → k < 118 → k ∉ MPL ++ [h.1, h.1 + 1] := fun {k} a b => avo_n (av a (by unfold low; simp only [List.all_cons, List.all_nil, Bool.and_true, decide_eq_true_eq]; exact b)) (by simp)
      have Ch : LetC hh E ∧ gi hh 6 5 = bi false ∧ GCg hh g ∧ PuC hh ps np ∧ SetC hh g X ∧ BxC hh g nb bf bt ∧ StCo hh (nC g) sb sx ∧ ∃ a b, EnR hh a b := by
        rw [dh]
        exact ⟨C.2.1.1, C.2.1.2, C.2.2.1, C.2.2.2.2.1, C.2.2.2.2.2.2.1, C.2.2.2.2.2.2.2.1, C.2.2.2.2.2.2.2.2.1, C.2.2.2.2.2.2.2.2.2.2⟩
      obtain ⟨q1, q2, q3, q5, q6, q7, q8, ea, eb, w1, w2, w3⟩ := Ch
      have x45 := Fh.2.1 45 (n1 rfl (by decide))
      have C3 : CoC h3 (nm + 1) ((nm : Nat) : Int) M' E g fk ps np X nb bf bt sb sx := by
        refine ⟨⟨g2, by rw [I_nI]; exact g3, fun i hi => ?_⟩, ⟨q1.keep Fh (n1 rfl (by decide)) (n1 rfl (by decide)), by rw [gi_of_ag (Fh.2.1 6 (n1 rfl (by decide)))]; exact q2⟩, q3.keep Fh (n1 rfl (by decide)) (n1 rfl (by decide)) (n1 rfl (by decide)), (g0 9 (by decide) (by decide)).trans C.2.2.2.1, q5.keep Fh (n1 rfl (by decide)) (n1 rfl (by decide)), Cch.down fl q5.2.2.1 w4, q6.keep Fh (ch (K := [74, 75, 76, 77]) rfl rfl), q7.keep Fh (n1 rfl (by decide)) (n1 rfl (by decide)) (n1 rfl (by decide)), q8.keep2 Fh (gi_of_ag (Fh.2.1 51 (n1 rfl (by decide)))) (n1 rfl (by decide)) (n1 rfl (by decide)), C.w3g wg, ⟨ea, eb, w1, by rw [gr_of_ag x45]; exact w2, by rw [gr_of_ag x45]; exact w3⟩⟩
        by_cases hin : i = nm
        · subst hin
          rw [Mn]
          refine ⟨h.1, by rw [a5 i, if_pos rfl], h.1 + 1, q, cf, C', m1, m2, m3, ?_, by omega, by omega⟩
          cases pl
          · exact Or.inl ⟨rfl, cmpN_62 (62 - n') n' _ _ _ (by omega) (o2 rfl)⟩
          · obtain ⟨-, p, p1, p2⟩ := o3 rfl
            exact Or.inr ⟨rfl, p, cmpN_62 (62 - n') n' _ _ _ (by omega) p1, cmpN_62 (62 - n') n' _ _ _ (by omega) p2⟩
        · rw [Mo i hin]
          obtain ⟨mo, b1, co, len, f, CC, ⟨c1, c2, c3, c4⟩, c5, c6, c7, c8, c9⟩ := C.1.2.2 i (by omega)
          have no : ∀ a, 118 ≤ a → a ∉ MPL := fun a ha z => by revert z; simp only [MPL, List.mem_cons, List.not_mem_nil, or_false]; omega
          exact ⟨mo, by rw [a5 i, if_neg hin]; exact b1, co, len, f, CC, ⟨by rw [FF.2.1 mo (no mo c3) (Or.inl c8)]; exact c1, by rw [FF.2.1 co (no co c4) (Or.inl c9)]; exact c2, c3, c4⟩, c5, c6, c7, by omega, by omega⟩
      have D4 : CoM h2 (nm + 1) ((nm : Nat) : Int) M' E g fk ps np X nb bf bt sb sx := by
        refine D3.map F2 y5 (by rw [I_nI]; exact y6) fun i hi => ?_
        by_cases hin : i = nm
        · subst hin
          rw [Mn]
          exact MT
        · rw [Mo i hin]
          have dm := D3.1.2.2 i (by omega)
          obtain ⟨mo, -, c⟩ := C.1.2.2 i (by omega)
          exact dm.tab (c.lt dm) (fun j hj => t1 j (by omega)) (t2 i hin)
      have Bh : BTold hh ∧ BDrv hh ∧ BSeen hh ∧ BSgt hh := by
        rw [dh]
        exact ⟨In.told, In.2.2.2.2.1, In.2.2.2.2.2.1, In.2.2.2.2.2.2.1⟩
      have hd : ∀ c, gi hh 0 c = gi h 0 c := fun c => gi_of_ag (ah 0)
      refine ⟨_, h3, h2, d1, e2, ⟨S3, hi3⟩, ⟨F2.s, X3.keep F2.1 (by decide), tap0 F2 z1 rfl z2 H, (Bh.1.keep FhM (av rfl rfl) rfl).keep F2 rfl rfl, (Bh.2.1.keep0 FhM ((g0 6 (by decide) (by decide)).trans (hd 6).symm) (av rfl rfl) rfl).keep F2 rfl rfl, (Bh.2.2.1.keep0 FhM ((g0 19 (by decide) (by decide)).trans (hd 19).symm) (av rfl rfl) rfl).keep F2 rfl rfl, (Bh.2.2.2.keep FhM (av rfl rfl)).keep F2 rfl, ⟨nm + 1, (nm : Int), M', E, g, fk, ps, np, X, nb, bf, bt, sb, sx, ⟨by omega, by omega, by omega, P.2.2.2⟩, C3.m F2.1 rfl, D4⟩⟩, hi3.trans (F2.1.hi rfl), by rw [F2.1.2.2.1, n3]; exact Nat.le_refl _, by rw [F2.1.2.2.2]; exact FF.2.2.2⟩
end OPMAP
