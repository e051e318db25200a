/-! THE CLASS: the image of a box, of either kind -/
def LetC (h : AH) (E : LE) : Prop := ∀ a, 2 ≤ a → a < 6 → aj h 7 a = J (E a).1 ∧ aj h 8 a = J (E a).2
def ClM (h : AH) (mo : Nat) (pl : Bool) (T : NT) (rx ry : Nat) : Prop := ∃ (co len : Nat) (f : Nat → Int32) (C : Nat → Nat × Nat), MapIs h mo co len f pl ∧ CodeIs f C len ∧ len ≤ 60 ∧ ((pl = false ∧ cmpN C T 62 rx 0 len) ∨ (pl = true ∧ ∃ q, cmpN C T 62 rx 0 q ∧ cmpN C T 62 ry q len))
section CIMGC
variable {k mo rx ry : Nat} {h h1 : AH} {T : NT} {E : LE} {pl g : Bool}
theorem ClM.keep (M : ClM h mo pl T rx ry) {L : List Nat} (F : Fr L h h1) (hL : ∀ x, x ∈ L → x < 118) : ClM h1 mo pl T rx ry := by
  obtain ⟨co, len, f, C, M, r⟩ := M
  exact ⟨co, len, f, C, M.keep F hL, r⟩
theorem LetC.keep (L : LetC h E) {l : List Nat} (F : Fr l h h1) (h7 : 7 ∉ l) (h8 : 8 ∉ l) : LetC h1 E := fun a p q => by
  rw [aj_of_ag (F.2.1 7 h7), aj_of_ag (F.2.1 8 h8)]
  exact L a p q
def fullE (h : AH) (E : LE) : LE := fun a => if a < 2 then ((aj h 7 a).toInt, (aj h 8 a).toInt) else E a
theorem fullE_is (L : LetC h E) : LetIs h (fullE h E) := by
  intro a ha
  unfold fullE
  by_cases q : a < 2
  · rw [if_pos q]; exact ⟨(J_of _).symm, (J_of _).symm⟩
  · rw [if_neg q]; exact L a (by omega) ha
theorem fullE_im {l r b c : Int} : setE (setE (fullE h E) 0 l r) 1 (if pl then b else 0) (if pl then c else 0) = imE E pl l r b c := by
  funext a
  unfold imE setE fullE
  by_cases q1 : a = 1
  · rw [if_pos q1, if_pos q1]
  · rw [if_neg q1, if_neg q1]
    by_cases q0 : a = 0
    · rw [if_pos q0, if_pos q0]
    · rw [if_neg q0, if_neg q0, if_neg (by omega)]
theorem LetIs.toC {l r b c : Int} (L : LetIs h (imE E pl l r b c)) : LetC h E := fun a p q => by
  have := L a q
  rw [imE_2 p] at this
  exact this
theorem c_imgC (hS : SH h) (M : ClM h mo pl T rx ry) (L : LetC h E) (hE : LEB E) (hg : gi h 6 5 = bi g) {l r b c : Int} (hl : bB l) (hr : bB r) (hb : bB b) (hc : bB c) :
    ∃ h', aCall (k + 4) 83 [.ref 6, .ref mo, .long (J l), .long (J r), .long (J b), .long (J c)] h = some (some (.int (nI (imV T E rx ry pl l r b c).2)), h') ∧ Fr IML h h' ∧ LetC h' E ∧ CIv h' (imV T E rx ry pl l r b c).1 ∧ gi h' 6 5 = bi g
      ∧ (g = true → pl = false → aj h' 11 0 = J (evN T (imE E false l r b c) 62 rx).1.2.2.1 ∧ aj h' 12 0 = J (evN T (imE E false l r b c) 62 rx).1.2.2.2.1 ∧ ai h' 13 0 = bi (evN T (imE E false l r b c) 62 rx).1.2.2.2.2) := by
  obtain ⟨co, len, f, C, M, hC, h60, R⟩ := M
  have hE' := imE_b hE (pl := pl) hl hr hb hc
  have L0 := fullE_is L
  rcases R with ⟨rfl, cx⟩ | ⟨rfl, q, cx, cy⟩
  · have e := fullE_im (h := h) (E := E) (pl := false) (l := l) (r := r) (b := b) (c := c)
    have e : setE (setE (fullE h E) 0 l r) 1 0 0 = imE E false l r b c := e
    obtain ⟨h', e1, F, L1, a1, a2, a3, a4, a5, a6⟩ := c_imgL (k := k) (b := b) (c := c) hS M L0 hg h60 (by rw [e]; exact hE') hC cx
    rw [e] at e1 L1 a1 a2 a6
    exact ⟨h', e1, F, L1.toC, ⟨a1, a2, a3, a4⟩, a5, fun q _ => a6 q⟩
  · have e := fullE_im (h := h) (E := E) (pl := true) (l := l) (r := r) (b := b) (c := c)
    have e : setE (setE (fullE h E) 0 l r) 1 b c = imE E true l r b c := e
    obtain ⟨h', e1, F, L1, a1, a2, a3, a4, a5⟩ := c_imgP (k := k) hS M L0 hg h60 (by rw [e]; exact hE') hC cx cy
    rw [e] at e1 L1 a1 a2 a3 a4
    exact ⟨h', e1, F, L1.toC, ⟨a1, a2, a3, a4⟩, a5, fun _ q => by cases q⟩
theorem imV_z (T : NT) (E : LE) (rx ry : Nat) (l r b c : Int) : (imV T E rx ry false l r b c).1.2.2.1 = 0 ∧ (imV T E rx ry false l r b c).1.2.2.2 = 0 := ⟨rfl, rfl⟩
theorem cmpN_b {C : Nat → Nat × Nat} {len : Nat} (hE : LEB E) (R : (pl = false ∧ cmpN C T 62 rx 0 len) ∨ (pl = true ∧ ∃ q, cmpN C T 62 rx 0 q ∧ cmpN C T 62 ry q len)) {l r b c : Int} (hl : bB l) (hr : bB r) (hb : bB b) (hc : bB c) : bB4 (imV T E rx ry pl l r b c).1 := by
  have hE' := imE_b hE (pl := pl) hl hr hb hc
  rcases R with ⟨rfl, cx⟩ | ⟨rfl, q, cx, cy⟩
  · have v1 := evN_b hE' _ _ _ _ cx
    exact ⟨v1.1, v1.2.1, bB0, bB0⟩
  · have v1 := evN_b hE' _ _ _ _ cx
    have v2 := evN_b hE' _ _ _ _ cy
    exact ⟨v1.1, v1.2.1, v2.1, v2.2.1⟩
end CIMGC
