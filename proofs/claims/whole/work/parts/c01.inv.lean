/-! THE INVARIANT of the law's loop: the blocks, and what keeps them -/
def avo (K L : List Nat) : Bool := L.all fun x => !K.contains x
def low (n : Nat) (L : List Nat) : Bool := L.all fun x => decide (x < n)
theorem avo_n {K L : List Nat} (q : avo K L = true) {k : Nat} (hk : K.contains k = true) : k ∉ L := fun z => by
  have t := List.all_eq_true.mp q k z
  rw [hk] at t
  cases t
theorem low_n {n : Nat} {L : List Nat} (q : low n L = true) : ∀ x, x ∈ L → x < n := fun x hx => of_decide_eq_true (List.all_eq_true.mp q x hx)
theorem avo_i {K L : List Nat} (k : ∀ x, x ∈ L → K.contains x = true → False) : avo K L = true := List.all_eq_true.mpr fun x hx => by
  rw [Bool.not_eq_true', ← Bool.not_eq_true]
  exact k x hx
theorem avo_sub {K K' L : List Nat} (q : avo K L = true) (s : (K'.all fun y => K.contains y) = true) : avo K' L = true := avo_i fun x hx z => absurd hx (avo_n q (List.all_eq_true.mp s x (List.contains_iff_mem.mp z)))
theorem avo_m {K K' L : List Nat} (q : avo K L = true) (s : (K'.all fun y => K.contains y) = true) : ∀ x, x ∈ K' → x ∉ L := fun x hx => avo_n q (List.all_eq_true.mp s x hx)
theorem low_le {n m : Nat} {L : List Nat} (q : low n L = true) (h : n ≤ m) : low m L = true := List.all_eq_true.mpr fun y hy => decide_eq_true (Nat.lt_of_lt_of_le (low_n q y hy) h)
theorem low_av {n : Nat} {K L : List Nat} (q : low n L = true) (hK : (K.all fun y => decide (n ≤ y)) = true) : avo K L = true := avo_i fun x hx z => by
  have t := of_decide_eq_true (List.all_eq_true.mp hK x (List.contains_iff_mem.mp z))
  have := low_n q x hx
  omega
/-- the model's cells -/
def hiM (L : List Nat) : Bool := L.all fun y => decide (78 ≤ y) && decide (y < 118)
theorem hiM_n {L : List Nat} (q : hiM L = true) {k : Nat} (hk : k < 78) : k ∉ L := fun z => by
  have t := List.all_eq_true.mp q k z
  rw [Bool.and_eq_true] at t
  have := of_decide_eq_true t.1
  omega
theorem hiM_l {L : List Nat} (q : hiM L = true) : low 118 L = true := List.all_eq_true.mpr fun y hy => by
  have t := List.all_eq_true.mp q y hy
  rw [Bool.and_eq_true] at t
  exact t.2
theorem hiM_av {K L : List Nat} (q : hiM L = true) (hK : (K.all fun y => decide (y < 78)) = true) : avo K L = true := avo_i fun x hx z => absurd hx (hiM_n q (of_decide_eq_true (List.all_eq_true.mp hK x (List.contains_iff_mem.mp z))))
abbrev MP1 : Type := NT × Nat × Nat × Bool
abbrev MPT : Type := Nat → MP1
def ClB (h : AH) (n mo : Nat) (m : MP1) : Prop := ∃ (co len : Nat) (f : Nat → Int32) (C : Nat → Nat × Nat), MapIs h mo co len f m.2.2.2 ∧ CodeIs f C len ∧ len ≤ 60 ∧ ((m.2.2.2 = false ∧ cmpN C m.1 62 m.2.1 0 len) ∨ (m.2.2.2 = true ∧ ∃ q, cmpN C m.1 62 m.2.1 0 q ∧ cmpN C m.1 62 m.2.2.1 q len)) ∧ mo < n ∧ co < n
def MpsC (h : AH) (n nm : Nat) (M : MPT) : Prop := ∀ i, i < nm → ∃ mo, ar h 5 i = some mo ∧ ClB h n mo (M i)
def MpsM (h : AH) (nm : Nat) (M : MPT) : Prop := ∀ i, i < nm → MapM h (M i).1 i (M i).2.1 (M i).2.2.1 (M i).2.2.2
def Cch (h : AH) (g : GT) (m : MP1) (E : LE) (fk : Nat) (ps : Nat → Int) (np : Nat) : Prop := CaP h g m.1 E m.2.1 m.2.2.1 fk ps np ∧ CacheW h (nC g) (war (arS g (m.1, E, m.2.1, m.2.2.1, fk)) (nC g))
def CoP (nm : Nat) (uz : Int) (E : LE) (g : GT) (fk : Nat) : Prop := nm ≤ 4 ∧ -1 ≤ uz ∧ uz < (nm : Int) ∧ LEB E ∧ E 4 = (0, 0) ∧ (-1000000 ≤ (E 2).1 ∧ (E 2).1 ≤ (E 2).2 ∧ (E 2).2 ≤ 1000000) ∧ GBg g ∧ fk ≤ 2
def CoC (h : AH) (nm : Nat) (uz : Int) (M : MPT) (E : LE) (g : GT) (fk : Nat) (ps : Nat → Int) (np : Nat) (X : ST4) (nb : Nat) (f t : Nat → Nat) (b : Bool) (x : SP) : Prop := (gi h 0 2 = nI nm ∧ gi h 0 3 = I uz ∧ MpsC h h.1 nm M) ∧ (LetC h E ∧ gi h 6 5 = bi false) ∧ GCg h g ∧ gi h 0 9 = nI fk ∧ PuC h ps np ∧ Cch h g (M uz.toNat) E fk ps np ∧ SetC h g X ∧ BxC h g nb f t ∧ StCo h (nC g) b x ∧ (∃ p s r, T3 p s r ∧ Wr3 h p s r) ∧ ∃ a b, EnR h a b
def CoM (h : AH) (nm : Nat) (uz : Int) (M : MPT) (E : LE) (g : GT) (fk : Nat) (ps : Nat → Int) (np : Nat) (X : ST4) (nb : Nat) (f t : Nat → Nat) (b : Bool) (x : SP) : Prop := (gi h 78 5 = nI nm ∧ gi h 78 6 = I uz ∧ MpsM h nm M) ∧ LetM h E ∧ MGg h g ∧ gi h 78 43 = nI fk ∧ PuM h ps np ∧ SetM h g X ∧ BxM h g nb f t ∧ StM h (nC g) (stO b x)
def BTap (h : AH) : Prop := ∃ l tp, TapC h l tp ∧ TapM h l tp ∧ ∀ i, ∃ s, s < 256 ∧ tp i = nI s
def BTold (h : AH) : Prop := ∃ l, Told h l ∧ ToldM h l
def BDrv (h : AH) : Prop := ∃ dr nd, DrvC h dr nd ∧ DrvM h dr nd ∧ drB dr
def BSeen (h : AH) : Prop := ∃ l, SeenC h l ∧ SeenM h l
def BSgt (h : AH) : Prop := ∃ sv, SgtC h sv ∧ ∀ c, c < 128 → ai h 114 c = sv c
def BCore (h : AH) : Prop := ∃ nm uz M E g fk ps np X nb f t b x, CoP nm uz E g fk ∧ CoC h nm uz M E g fk ps np X nb f t b x ∧ CoM h nm uz M E g fk ps np X nb f t b x
def Inv (h : AH) : Prop := SH h ∧ SX h ∧ BTap h ∧ BTold h ∧ BDrv h ∧ BSeen h ∧ BSgt h ∧ BCore h
def Hi (h h' : AH) : Prop := ∀ a, 1000000 ≤ a → ag h' a = ag h a
section INV
variable {h h1 h2 : AH} {L S : List Nat} {nm fk np nb : Nat} {uz : Int} {M : MPT} {E : LE} {g : GT} {ps : Nat → Int} {X X' : ST4} {f t : Nat → Nat} {b : Bool} {x : SP}
theorem ClB.to {n mo : Nat} {m : MP1} (M : ClB h n mo m) : ClM h mo m.2.2.2 m.1 m.2.1 m.2.2.1 := by
  obtain ⟨co, len, f, C, a, b, c, e, -, -⟩ := M
  exact ⟨co, len, f, C, a, b, c, e⟩
theorem ClB.keep {n mo : Nat} {m : MP1} (M : ClB h n mo m) (F : Fr L h h1) (hL : ∀ x, x ∈ L → x < 118) : ClB h1 n mo m := by
  obtain ⟨co, len, f, C, a, r⟩ := M
  exact ⟨co, len, f, C, a.keep F hL, r⟩
theorem Fr.toFM (F : Fr L h h1) (k : 78 ∉ L) (S : List Nat) : FM L S h h1 := ⟨F, fun b _ => ⟨gi_of_ag (F.2.1 78 k), gj_of_ag (F.2.1 78 k)⟩⟩
theorem Fr.hi (F : Fr L h h1) (hL : low 118 L = true) : Hi h h1 := fun a ha => F.2.1 a (fun z => by have := low_n hL a z; omega)
theorem Hi.trans (a : Hi h h1) (b : Hi h1 h2) : Hi h h2 := fun x hx => (b x hx).trans (a x hx)
theorem TapC.keep {l : Nat} {tp : Nat → Int32} (P : TapC h l tp) (F : Fr L h h1) (k1 : 1 ∉ L) (k2 : 2 ∉ L) : TapC h1 l tp := ⟨by rw [gi_of_ag (F.2.1 1 k1)]; exact P.1, P.2.1, fun i hi => by rw [ai_of_ag (F.2.1 2 k2)]; exact P.2.2 i hi⟩
theorem TapM.keep {l : Nat} {tp : Nat → Int32} (P : TapM h l tp) (F : FM L S h h1) (k1 : 2 ∉ S) (k2 : 79 ∉ L) : TapM h1 l tp := ⟨by rw [F.fi k1]; exact P.1, P.2.1, fun i hi => by rw [F.ai k2]; exact P.2.2 i hi⟩
theorem BTap.keep (B : BTap h) (F : FM L S h h1) (q : avo [1, 2, 79] L = true) (s : avo [2] S = true) : BTap h1 := by
  obtain ⟨l, tp, a, c, e⟩ := B
  exact ⟨l, tp, a.keep F.1 (avo_n q rfl) (avo_n q rfl), c.keep F (avo_n s rfl) (avo_n q rfl), e⟩
theorem BTold.keep (B : BTold h) (F : FM L S h h1) (q : avo [16, 17, 97] L = true) (s : avo [34] S = true) : BTold h1 := by
  obtain ⟨l, a, c⟩ := B
  exact ⟨l, a.keep F.1 (avo_n q rfl) (avo_n q rfl), c.keep F (avo_n s rfl) (avo_n q rfl)⟩
theorem BDrv.keep (B : BDrv h) (F : FM L S h h1) (q : avo [0, 15, 91] L = true) (s : avo [20] S = true) : BDrv h1 := by
  obtain ⟨dr, nd, a, c, e⟩ := B
  exact ⟨dr, nd, a.keep F.1 (avo_n q rfl) (avo_n q rfl), c.keep F (avo_n s rfl) (avo_n q rfl), e⟩
theorem BDrv.keep0 (B : BDrv h) (F : FM L S h h1) (k : gi h1 0 6 = gi h 0 6) (q : avo [15, 91] L = true) (s : avo [20] S = true) : BDrv h1 := by
  obtain ⟨dr, nd, a, c, e⟩ := B
  exact ⟨dr, nd, ⟨k.trans a.1, a.2.1, fun t ht => by rw [ai_of_ag (F.1.2.1 15 (avo_n q rfl))]; exact a.2.2 t ht⟩, c.keep F (avo_n s rfl) (avo_n q rfl), e⟩
theorem BSeen.keep (B : BSeen h) (F : FM L S h h1) (q : avo [0, 57, 115] L = true) (s : avo [71] S = true) : BSeen h1 := by
  obtain ⟨l, a, c⟩ := B
  exact ⟨l, a.keep F.1 (avo_n q rfl) (avo_n q rfl), c.keep F (avo_n s rfl) (avo_n q rfl)⟩
theorem BSeen.keep0 (B : BSeen h) (F : FM L S h h1) (k : gi h1 0 19 = gi h 0 19) (q : avo [57, 115] L = true) (s : avo [71] S = true) : BSeen h1 := by
  obtain ⟨l, a, c⟩ := B
  exact ⟨l, ⟨k.trans a.1, a.2.1, fun i v hv => by rw [ai_of_ag (F.1.2.1 57 (avo_n q rfl))]; exact a.2.2 i v hv⟩, c.keep F (avo_n s rfl) (avo_n q rfl)⟩
theorem BSgt.keep (B : BSgt h) (F : FM L S h h1) (q : avo [56, 114] L = true) : BSgt h1 := by
  obtain ⟨sv, a, c⟩ := B
  exact ⟨sv, a.keep F.1 (avo_n q rfl), fun i hi => by rw [F.ai (avo_n q rfl)]; exact c i hi⟩
/-- the model's half -/
def KML : List Nat := [81, 82, 83, 84, 85, 86, 87, 90, 106, 107, 111, 112]
def KMS : List Nat := [5, 6, 18, 36, 37, 38, 39, 40, 41, 42, 43, 61]
theorem MpsM.keep (D : MpsM h nm M) (F : FM L S h h1) (q : avo [81, 82, 83, 84, 85, 86, 87] L = true) : MpsM h1 nm M := fun i hi => (D i hi).keep F (avo_m q rfl)
theorem CoM.go (D : CoM h nm uz M E g fk ps np X nb f t b x) (F : FM L S h h1) (q : avo KML L = true) (s : avo KMS S = true) (l : LetM h1 E) (Y : SetM h1 g X') : CoM h1 nm uz M E g fk ps np X' nb f t b x := by
  obtain ⟨⟨a1, a2, a3⟩, -, a5, a6, a7, -, a9, a10⟩ := D
  refine ⟨⟨by rw [F.fi (avo_n s rfl)]; exact a1, by rw [F.fi (avo_n s rfl)]; exact a2, fun i hi => (a3 i hi).keep F (avo_m q rfl)⟩, l, a5.keep F (avo_m s rfl), by rw [F.fi (avo_n s rfl)]; exact a6, a7.keep F (avo_n s rfl) (avo_n q rfl), Y, a9.keep F (avo_n s rfl) (avo_n q rfl) (avo_n q rfl), a10.keep F (avo_n q rfl) (avo_n q rfl)⟩
theorem CoM.keep (D : CoM h nm uz M E g fk ps np X nb f t b x) (F : FM L S h h1) (q : avo KML L = true) (s : avo KMS S = true) (q2 : avo [88, 89, 101] L = true) : CoM h1 nm uz M E g fk ps np X nb f t b x := D.go F q s (D.2.1.keep F (avo_m q2 rfl)) (D.2.2.2.2.2.1.keep F (avo_n q2 rfl))
theorem CoM.c (D : CoM h nm uz M E g fk ps np X nb f t b x) (F : Fr L h h1) (q : low 78 L = true) : CoM h1 nm uz M E g fk ps np X nb f t b x := by
  exact D.keep (F.toFM (fun z => by have := low_n q _ z; omega) []) (low_av q rfl) rfl (low_av q rfl)
/-- the class's half -/
theorem CoC.go (C : CoC h nm uz M E g fk ps np X nb f t b x) (F : Fr L h h1) (hx : low 118 L = true) (q : avo [0, 5, 45, 46, 47, 51, 52, 53, 54] L = true) (l : LetC h1 E) (sl : gi h1 6 5 = bi false) (G : GCg h1 g) (c : Cch h1 g (M uz.toNat) E fk ps np) (Y : SetC h1 g X') (W : ∃ p s r, T3 p s r ∧ Wr3 h1 p s r) : CoC h1 nm uz M E g fk ps np X' nb f t b x := by
  obtain ⟨⟨a1, a2, a3⟩, -, -, a6, a7, -, -, a9, a10, -, a, b', e1, e2, e3⟩ := C
  refine ⟨⟨by rw [gi_of_ag (F.2.1 0 (avo_n q rfl))]; exact a1, by rw [gi_of_ag (F.2.1 0 (avo_n q rfl))]; exact a2, fun i hi => ?_⟩, ⟨l, sl⟩, G, by rw [gi_of_ag (F.2.1 0 (avo_n q rfl))]; exact a6, a7.keep F (avo_n q rfl) (avo_n q rfl), c, Y, a9.keep F (avo_n q rfl) (avo_n q rfl) (avo_n q rfl), ⟨by rw [gi_of_ag (F.2.1 51 (avo_n q rfl))]; exact a10.1, fun z c' hc => ?_⟩, W, a, b', e1, by rw [gr_of_ag (F.2.1 45 (avo_n q rfl))]; exact e2, by rw [gr_of_ag (F.2.1 45 (avo_n q rfl))]; exact e3⟩
  · obtain ⟨mo, m1, m2⟩ := a3 i hi
    refine ⟨mo, by rw [ar_of_ag (F.2.1 5 (avo_n q rfl))]; exact m1, ?_⟩
    rw [F.2.2.1]
    exact m2.keep F (low_n hx)
  · rw [ai_of_ag (F.2.1 53 (avo_n q rfl)), ai_of_ag (F.2.1 54 (avo_n q rfl))]
    exact a10.2 z c' hc
theorem Cch.keep {m : MP1} (c : Cch h g m E fk ps np) (F : Fr L h h1) (hn : np ≤ 4) (q : avo [23, 25, 26, 28, 29, 58, 59, 60, 61, 62, 63, 64, 65, 66, 67, 68, 69, 70, 71, 72, 73] L = true) : Cch h1 g m E fk ps np := ⟨c.1.keep F hn (fun x hx => by
    by_cases k1 : x < 58
    · exact Or.inl k1
    · by_cases k2 : 73 < x
      · exact Or.inr k2
      · refine absurd hx (avo_n q (k := x) (List.contains_iff_mem.mpr ?_))
        simp only [List.mem_cons, List.not_mem_nil, or_false]
        omega), c.2.keep F (avo_m q rfl)⟩
/-- a net call: net 58 was made ready -/
theorem Cch.net {m : MP1} (c : Cch h g m E fk ps np) (F : Fr L h h1) (hn : 1 ≤ np ∧ np ≤ 4) (h4 : E 4 = (0, 0)) (p0 : ps 0 = 0) (q : avo [62, 63, 64, 65, 66, 67, 68, 69, 70, 71, 72, 73] L = true) (K : Cache h1 58 g (arS g (m.1, E, m.2.1, m.2.2.1, fk)) (leS g (m.1, E, m.2.1, m.2.2.1, fk))) (W : CacheW h1 (nC g) (war (arS g (m.1, E, m.2.1, m.2.2.1, fk)) (nC g))) : Cch h1 g m E fk ps np := by
  have o : ∀ k, 1 ≤ k → k < 4 → 58 + 4 * k ∉ L ∧ 58 + 4 * k + 1 ∉ L ∧ 58 + 4 * k + 2 ∉ L ∧ 58 + 4 * k + 3 ∉ L := fun k h1 h2 => by
    rcases (by omega : k = 1 ∨ k = 2 ∨ k = 3) with z | z | z <;> subst z <;> exact ⟨avo_n q rfl, avo_n q rfl, avo_n q rfl, avo_n q rfl⟩
  have e := aP_0 (g := g) (T := m.1) (rx := m.2.1) (ry := m.2.2.1) (fk := fk) h4 p0
  refine ⟨⟨fun k hk => ?_, fun k q1 q2 => by rw [gi_of_ag (F.2.1 _ (o k (by omega) q2).1)]; exact c.1.2 k q1 q2⟩, W⟩
  by_cases k0 : k = 0
  · subst k0
    rw [e.1, e.2]
    exact K
  · obtain ⟨o1, o2, o3, o4⟩ := o k (by omega) (by omega)
    rcases c.1.1 k hk with z | ⟨z, N⟩
    · exact Or.inl (by rw [gi_of_ag (F.2.1 _ o1)]; exact z)
    · exact Or.inr ⟨by rw [gi_of_ag (F.2.1 _ o1)]; exact z, N.keep F o2 o3 o4⟩
end INV
