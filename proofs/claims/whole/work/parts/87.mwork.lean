/-! THE MODEL: one node behind its parts -/
def NodeR (h h' : AH) (k : Nat) (w : VV) : Prop := FM VL VF h h' ∧ VN h' k w ∧ (∀ j, j ≠ k → sameN h h' j) ∧ gi h' 78 27 = gi h 78 27
theorem putV_R {h : AH} (hS : SH h) {k : Nat} {a b p q : Int} {g : Bool} {v : VV} (h1 : cutI a = v.1) (h2 : cutI b = v.2.1) (h3 : g = !v.2.2.2.2) (h4 : v.2.2.2.2 = false → cutI p = v.2.2.1 ∧ cutI q = v.2.2.2.1) : NodeR h (putV h k a b p q g) k v := by
  refine ⟨putV_FM hS, putV_VN hS h1 h2 h3 h4, fun j hj => putV_same hS hj, ?_⟩
  unfold putV
  simp (maxSteps := 2000000) (disch := first | ((repeat' first | assumption | apply SH_wi | apply SH_wj | apply SH_wAI | apply SH_wAJ); done) | omega | (apply in_n <;> omega) | exact Or.inl rfl | exact Or.inr rfl | exact bi_01 _ | ((simp only [gi_wAI, gi_wAJ, gi_wj, gi_wr, gj_wi, gj_wr, gj_wAI, gj_wAJ, gr_wi, gr_wj, gr_wAI, gr_wAJ, ai_wi, ai_wj, ai_wr, ai_wAJ, aj_wi, aj_wj, aj_wr, aj_wAI, ar_wi, ar_wj, ar_wr, ar_wAI, ar_wAJ, gi_wi_n, gj_wj_n, gr_wr_n, ai_wAI_n, aj_wAJ_n, SH_wi, SH_wj, SH_wAI, SH_wAJ, bi_01, and_false, false_and, ne_eq, if_true, if_false, true_and, and_true, not_true_eq_false, not_false_eq_true, Nat.reduceEqDiff, reduceCtorEq, or_true, true_or]); first | done | assumption)) only [gi_wAI, gi_wAJ, gi_wj, gi_wr, gj_wi, gj_wr, gj_wAI, gj_wAJ, gr_wi, gr_wj, gr_wAI, gr_wAJ, ai_wi, ai_wj, ai_wr, ai_wAJ, aj_wi, aj_wj, aj_wr, aj_wAI, ar_wi, ar_wj, ar_wr, ar_wAI, ar_wAJ, gi_wi_n, gj_wj_n, gr_wr_n, ai_wAI_n, aj_wAJ_n, SH_wi, SH_wj, SH_wAI, SH_wAJ, bi_01, and_false, false_and, ne_eq, if_true, if_false, true_and, and_true, not_true_eq_false, not_false_eq_true, Nat.reduceEqDiff, reduceCtorEq, or_true, true_or]
theorem sw213 : ∀ w, w < 9 → swT 82 403 0 7 #[46, 64, 110, 155, 162, 248, 334, 342] (nI w) = some ([128, 146, 192, 237, 244, 330, 416, 424].getD w 485) := by decide +kernel
section MWORK
variable {d k a b : Nat} {h : AH}
set_option maxRecDepth 100000 in
theorem m_slopes1 (hS : SH h) (hk : k < 310) {p q : Int} (ha : r64 p) (hb : r64 q) : aCall (d + 3) 211 [.ref 78, .int (nI k), .long (J p), .long (J q), .int 1] h = some (none, wAI (wAJ (wAJ h 94 (vp_updL (aj h 94) k (J (cutI p)))) 95 (vp_updL (aj h 95) k (J (cutI q)))) 96 (upd (ai h 96) k (bi true))) := by
  rw [← bi1]
  exact m_slopes hS hk ha hb true
set_option maxRecDepth 100000 in
theorem m_slopes0 (hS : SH h) (hk : k < 310) {p q : Int} (ha : r64 p) (hb : r64 q) : aCall (d + 3) 211 [.ref 78, .int (nI k), .long (J p), .long (J q), .int 0] h = some (none, wAI (wAJ (wAJ h 94 (vp_updL (aj h 94) k (J (cutI p)))) 95 (vp_updL (aj h 95) k (J (cutI q)))) 96 (upd (ai h 96) k (bi false))) := by
  rw [← bi0]
  exact m_slopes hS hk ha hb false
theorem r0 : r64 0 := ⟨by omega, by omega⟩
theorem r1024 : r64 1024 := ⟨by omega, by omega⟩
theorem cut0 : cutI 0 = 0 := cutI_id ⟨by omega, by omega⟩
noncomputable def wk (d k a b : Nat) (h : AH) : Option OU := aAt d 213 76 [some (.ref 78), some (.int (nI k)), some (.int (nI a)), some (.int (nI b))] [] h
end MWORK
section SLX
theorem slX_b (a : Nat) : r64 (slX a) ∧ cutI (slX a) = slX a := by
  unfold slX
  split
  · exact ⟨r1024, cutI_id ⟨by omega, by omega⟩⟩
  · exact ⟨r0, cutI_id ⟨by omega, by omega⟩⟩
end SLX
