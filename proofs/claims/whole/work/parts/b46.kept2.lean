/-! WHAT IS KEPT by calls: the rows that change places, of WAYS and of BOXES -/
section KEPT2
variable {r0 c0 b0 : Nat} {v0 : Option Value} {bad : List Nat}
theorem aX_kp (h0 : r0 < 118) (G : goodK c0 b0 bad = true) (hl : ∀ x, x ∈ bad → x < 9000) : ∀ (f d m pc : Nat) (lv : LV) (st : List Value) (h : AH) (o : OU), bad.contains m = false → KpR r0 c0 b0 v0 h → aX f d (m, pc, lv, st, h) = some o → KpR r0 c0 b0 v0 o.2 := by
  intro f
  induction f with
  | zero => intro d m pc lv st h o _ _ q; cases q
  | succ f ih =>
    intro d m pc lv st h o hm K q
    rw [aX] at q
    have key : ∀ r, aS m pc lv st h = some r → ∃ e, KM m pc = some e ∧ KpT (KpR r0 c0 b0 v0) m e r := fun r hr => by
      unfold aS at hr
      obtain ⟨e, he, hr⟩ := ob_s hr
      exact ⟨e, he, aI_kp h0 (good_of G hm he).1 K hr⟩
    split at q
    · cases q
    · rename_i c hs
      obtain ⟨e, -, e1, k⟩ := key _ hs
      obtain ⟨m1, pc1, lv1, st1, h1⟩ := c
      have e1 : m1 = m := e1
      subst e1
      exact ih _ _ _ _ _ _ _ hm k q
    · rename_i b c1 c2 hs
      obtain ⟨e, -, ⟨e1, k1⟩, e2, k2⟩ := key _ hs
      obtain ⟨m1, pc1, lv1, st1, h1⟩ := c1
      obtain ⟨m2, pc2, lv2, st2, h2⟩ := c2
      have e1 : m1 = m := e1
      have e2 : m2 = m := e2
      split at q
      · rw [e1] at q; exact ih _ _ _ _ _ _ _ hm k1 q
      · rw [e2] at q; exact ih _ _ _ _ _ _ _ hm k2 q
    · rename_i y as m2 pc2 lv2 st2 h2 hs
      obtain ⟨e, he, ⟨e2, k⟩, hy⟩ := key _ hs
      have e2 : m2 = m := e2
      cases d with
      | zero => cases q
      | succ d =>
        dsimp only at q
        obtain ⟨o1, q1, q2⟩ := ob_s q
        have hb : bad.contains y = false := by
          rcases (good_of G hm he).2 y hy with z | z
          · cases w : bad.contains y
            · rfl
            · have := hl y (List.contains_iff_mem.mp w)
              omega
          · exact z
        have k' := ih _ _ _ _ _ _ _ hb k q1
        rw [e2] at q2
        exact ih _ _ _ _ _ _ _ hm k' q2
    · rename_i o' hs
      obtain ⟨e, -, k⟩ := key _ hs
      cases q
      exact k
theorem call_kp (h0 : r0 < 118) (G : goodK c0 b0 bad = true) (hl : ∀ x, x ∈ bad → x < 9000) {d y : Nat} {as : List Value} {h : AH} {o : OU} (hy : bad.contains y = false) (K : KpR r0 c0 b0 v0 h) (q : aCall d y as h = some o) : KpR r0 c0 b0 v0 o.2 := by
  unfold aCall at q
  split at q
  · cases q
  · obtain ⟨f, hf⟩ := aAt_iff.mp q
    exact aX_kp h0 G hl f _ _ _ _ _ _ _ hy K hf
def bad23 : List Nat := [112, 116, 151, 117, 310]
def bad45 : List Nat := [7, 12, 155, 117, 310]
set_option maxRecDepth 100000 in
theorem g23_5k : goodK 10 5 bad23 = true := by decide +kernel
set_option maxRecDepth 100000 in
theorem g23_6k : goodK 10 6 bad23 = true := by decide +kernel
set_option maxRecDepth 100000 in
theorem g23_7k : goodK 10 7 bad23 = true := by decide +kernel
set_option maxRecDepth 100000 in
theorem g45_4k : goodK 1 4 bad45 = true := by decide +kernel
set_option maxRecDepth 100000 in
theorem g45_5k : goodK 1 5 bad45 = true := by decide +kernel
theorem gr_kp {h h1 : AH} {r c b : Nat} {ps : List Value} (hS : SH h) (hp : PL[r]? = some (cO c ps)) {d y : Nat} {as : List Value} {v : Option Value} (h0 : r < 118) (G : goodK c b bad = true) (hl : ∀ x, x ∈ bad → x < 9000) (hy : bad.contains y = false) (q : aCall d y as h = some (v, h1)) : gr h1 r b = gr h r b := by
  obtain ⟨s1, s2⟩ := hS
  obtain ⟨fs, e, -⟩ := s2 r _ hp
  have K : KpR r c b (fs[b]?) h := ⟨s1, fs, e, rfl⟩
  obtain ⟨-, gs, e', k⟩ := call_kp h0 G hl hy K q
  have e' : ag h1 r = some (.inr (c, gs)) := e'
  unfold gr
  rw [e, e']
  dsimp only
  rw [k]
/-- the rows of WAYS change places in returning alone, those of BOXES in wordsFrom alone -/
theorem wr_kp {h h1 : AH} (hS : SH h) {d y : Nat} {as : List Value} {v : Option Value} (hy : bad23.contains y = false) (q : aCall d y as h = some (v, h1)) {p s r : Nat} (W : Wr3 h p s r) : Wr3 h1 p s r := ⟨by rw [gr_kp hS pl23 (by decide) g23_5k (by decide) hy q]; exact W.1, by rw [gr_kp hS pl23 (by decide) g23_6k (by decide) hy q]; exact W.2.1, by rw [gr_kp hS pl23 (by decide) g23_7k (by decide) hy q]; exact W.2.2⟩
theorem en_kp {h h1 : AH} (hS : SH h) {d y : Nat} {as : List Value} {v : Option Value} (hy : bad45.contains y = false) (q : aCall d y as h = some (v, h1)) {a b : Nat} (W : EnR h a b) : EnR h1 a b := ⟨W.1, by rw [gr_kp hS pl45 (by decide) g45_4k (by decide) hy q]; exact W.2.1, by rw [gr_kp hS pl45 (by decide) g45_5k (by decide) hy q]; exact W.2.2⟩
end KEPT2
