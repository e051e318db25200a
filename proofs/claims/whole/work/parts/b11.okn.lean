/-! READING A TEXT: trees and their code, as they grow -/
section OKN
variable {C C' : Nat → Nat × Nat} {T T' : NT}
theorem trN_up : ∀ (n k s : Nat), trN T n k s → trN T (n + 1) k s := by
  intro n
  induction n with
  | zero => intro k s h; exact h.elim
  | succ n ih =>
    intro k s h
    unfold trN at h
    show trN T (n + 1 + 1) k s
    unfold trN
    split at h
    · rename_i a w ee; exact h
    · rename_i a w ee; exact h
    · rename_i a w ee; exact ⟨h.1, ih _ _ h.2⟩
    · rename_i a w ee; exact ⟨h.1, ih _ _ h.2⟩
    · rename_i a b w ee; obtain ⟨h1, r, h2, h3, h4⟩ := h; exact ⟨h1, r, ih _ _ h2, h3, ih _ _ h4⟩
    · rename_i a b w ee; obtain ⟨h1, r, h2, h3, h4⟩ := h; exact ⟨h1, r, ih _ _ h2, h3, ih _ _ h4⟩
    · rename_i a b w ee; obtain ⟨h1, r, h2, h3, h4⟩ := h; exact ⟨h1, r, ih _ _ h2, h3, ih _ _ h4⟩
    · rename_i a b w ee; exact ⟨h.1, h.2.1, h.2.2.1, ih _ _ h.2.2.2⟩
    · rename_i a b c e ee; obtain ⟨h1, r, t, u, h2, h3, h4, h5, h6, h7, h8⟩ := h; exact ⟨h1, r, t, u, ih _ _ h2, h3, ih _ _ h4, h5, ih _ _ h6, h7, ih _ _ h8⟩
    · exact h.elim
theorem cmpN_up : ∀ (n k p q : Nat), cmpN C T n k p q → cmpN C T (n + 1) k p q := by
  intro n
  induction n with
  | zero => intro k p q h; exact h.elim
  | succ n ih =>
    intro k p q h
    unfold cmpN at h
    show cmpN C T (n + 1 + 1) k p q
    unfold cmpN
    split at h
    · rename_i a w ee; exact h
    · rename_i a w ee; exact h
    · rename_i a w ee; obtain ⟨r, h1, h2⟩ := h; exact ⟨r, ih _ _ _ h1, h2⟩
    · rename_i a w ee; obtain ⟨r, h1, h2⟩ := h; exact ⟨r, ih _ _ _ h1, h2⟩
    · rename_i a b w ee; obtain ⟨r, s, h1, h2, h3⟩ := h; exact ⟨r, s, ih _ _ _ h1, ih _ _ _ h2, h3⟩
    · rename_i a b w ee; obtain ⟨r, s, h1, h2, h3⟩ := h; exact ⟨r, s, ih _ _ _ h1, ih _ _ _ h2, h3⟩
    · rename_i a b w ee; obtain ⟨r, s, h1, h2, h3⟩ := h; exact ⟨r, s, ih _ _ _ h1, ih _ _ _ h2, h3⟩
    · rename_i a b w ee; obtain ⟨r, h1, h2⟩ := h; exact ⟨r, ih _ _ _ h1, h2⟩
    · rename_i a b c e ee; obtain ⟨r, s, t, u, h1, h2, h3, h4, h5, h6, h7⟩ := h; exact ⟨r, s, t, u, ih _ _ _ h1, ih _ _ _ h2, h3, ih _ _ _ h4, h5, ih _ _ _ h6, h7⟩
    · exact h.elim
theorem cmpN_pq : ∀ (n k p q : Nat), cmpN C T n k p q → p < q := by
  intro n
  induction n with
  | zero => intro k p q h; exact h.elim
  | succ n ih =>
    intro k p q h
    unfold cmpN at h
    split at h
    · obtain ⟨v, -, -, -, h4⟩ := h; omega
    · obtain ⟨-, -, h4⟩ := h; omega
    · obtain ⟨r, h1, -, h3⟩ := h; have := ih _ _ _ h1; omega
    · obtain ⟨r, h1, -, h3⟩ := h; have := ih _ _ _ h1; omega
    · obtain ⟨r, s, h1, h2, -, h4⟩ := h; have := ih _ _ _ h1; have := ih _ _ _ h2; omega
    · obtain ⟨r, s, h1, h2, -, h4⟩ := h; have := ih _ _ _ h1; have := ih _ _ _ h2; omega
    · obtain ⟨r, s, h1, h2, -, h4⟩ := h; have := ih _ _ _ h1; have := ih _ _ _ h2; omega
    · obtain ⟨r, h1, -, -, -, h5⟩ := h; have := ih _ _ _ h1; omega
    · obtain ⟨r, s, t, u, h1, h2, -, h4, -, h6, -, h8⟩ := h; have := ih _ _ _ h1; have := ih _ _ _ h2; have := ih _ _ _ h4; have := ih _ _ _ h6; omega
    · exact h.elim
def okN (C : Nat → Nat × Nat) (T : NT) (n k s p q : Nat) : Prop := trN T n k s ∧ cmpN C T n k p q
theorem okN.mono {n m k s p q : Nat} (h : okN C T n k s p q) (hm : n ≤ m) : okN C T m k s p q := by
  induction hm with
  | refl => exact h
  | step _ ih => exact ⟨trN_up _ _ _ ih.1, cmpN_up _ _ _ _ ih.2⟩
theorem okN.pos {n k s p q : Nat} (h : okN C T n k s p q) : 1 ≤ n := by
  cases n with
  | zero => exact h.1.elim
  | succ n => omega
theorem okN.le {n k s p q : Nat} (h : okN C T n k s p q) : s ≤ k := trN_le _ _ _ h.1
theorem okN.pq {n k s p q : Nat} (h : okN C T n k s p q) : p < q := cmpN_pq _ _ _ _ h.2
theorem okN_fr : ∀ (n k s p q : Nat), trN T n k s → cmpN C T n k p q → (∀ j, s ≤ j → j ≤ k → T' j = T j) → (∀ j, p ≤ j → j < q → C' j = C j) → trN T' n k s ∧ cmpN C' T' n k p q := by
  intro n
  induction n with
  | zero => intro k s p q h; exact h.elim
  | succ n ih =>
    intro k s p q ht hc hT hC
    have ek : T' k = T k := hT k (trN_le _ _ _ ht) (Nat.le_refl _)
    unfold trN at ht
    unfold cmpN at hc
    unfold trN cmpN
    rw [ek]
    split at ht
    · rename_i a w ee
      rw [ee] at hc ⊢
      obtain ⟨v, h1, h2, h3, h4⟩ := hc
      exact ⟨ht, v, h1, h2, by rw [hC p (Nat.le_refl _) (by omega)]; exact h3, h4⟩
    · rename_i a w ee
      rw [ee] at hc ⊢
      obtain ⟨h2, h3, h4⟩ := hc
      exact ⟨ht, h2, by rw [hC p (Nat.le_refl _) (by omega)]; exact h3, h4⟩
    · rename_i a w ee
      rw [ee] at hc ⊢
      obtain ⟨r, h1, h2, h3⟩ := hc
      have l1 := cmpN_pq _ _ _ _ h1
      have q1 := ih a s p r ht.2 h1 (fun j x y => hT j x (by have := ht.1; omega)) (fun j x y => hC j x (by omega))
      exact ⟨⟨ht.1, q1.1⟩, r, q1.2, by rw [hC r (by omega) (by omega)]; exact h2, h3⟩
    · rename_i a w ee
      rw [ee] at hc ⊢
      obtain ⟨r, h1, h2, h3⟩ := hc
      have l1 := cmpN_pq _ _ _ _ h1
      have q1 := ih a s p r ht.2 h1 (fun j x y => hT j x (by have := ht.1; omega)) (fun j x y => hC j x (by omega))
      exact ⟨⟨ht.1, q1.1⟩, r, q1.2, by rw [hC r (by omega) (by omega)]; exact h2, h3⟩
    · rename_i a b w ee
      rw [ee] at hc ⊢
      obtain ⟨r, t, h1, h2, h3, h4⟩ := hc
      obtain ⟨t1, x, t2, t3, t4⟩ := ht
      have l1 := cmpN_pq _ _ _ _ h1
      have l2 := cmpN_pq _ _ _ _ h2
      have l3 := trN_le _ _ _ t2
      have l4 := trN_le _ _ _ t4
      have q1 := ih a s p r t4 h1 (fun j x y => hT j x (by omega)) (fun j x y => hC j x (by omega))
      have q2 := ih b x r t t2 h2 (fun j x y => hT j (by omega) (by omega)) (fun j x y => hC j (by omega) (by omega))
      exact ⟨⟨t1, x, q2.1, t3, q1.1⟩, r, t, q1.2, q2.2, by rw [hC t (by omega) (by omega)]; exact h3, h4⟩
    · rename_i a b w ee
      rw [ee] at hc ⊢
      obtain ⟨r, t, h1, h2, h3, h4⟩ := hc
      obtain ⟨t1, x, t2, t3, t4⟩ := ht
      have l1 := cmpN_pq _ _ _ _ h1
      have l2 := cmpN_pq _ _ _ _ h2
      have l3 := trN_le _ _ _ t2
      have l4 := trN_le _ _ _ t4
      have q1 := ih a s p r t4 h1 (fun j x y => hT j x (by omega)) (fun j x y => hC j x (by omega))
      have q2 := ih b x r t t2 h2 (fun j x y => hT j (by omega) (by omega)) (fun j x y => hC j (by omega) (by omega))
      exact ⟨⟨t1, x, q2.1, t3, q1.1⟩, r, t, q1.2, q2.2, by rw [hC t (by omega) (by omega)]; exact h3, h4⟩
    · rename_i a b w ee
      rw [ee] at hc ⊢
      obtain ⟨r, t, h1, h2, h3, h4⟩ := hc
      obtain ⟨t1, x, t2, t3, t4⟩ := ht
      have l1 := cmpN_pq _ _ _ _ h1
      have l2 := cmpN_pq _ _ _ _ h2
      have l3 := trN_le _ _ _ t2
      have l4 := trN_le _ _ _ t4
      have q1 := ih a s p r t4 h1 (fun j x y => hT j x (by omega)) (fun j x y => hC j x (by omega))
      have q2 := ih b x r t t2 h2 (fun j x y => hT j (by omega) (by omega)) (fun j x y => hC j (by omega) (by omega))
      exact ⟨⟨t1, x, q2.1, t3, q1.1⟩, r, t, q1.2, q2.2, by rw [hC t (by omega) (by omega)]; exact h3, h4⟩
    · rename_i a b w ee
      rw [ee] at hc ⊢
      obtain ⟨r, h1, h2, h3, h4, h5⟩ := hc
      have l1 := cmpN_pq _ _ _ _ h1
      have q1 := ih a s p r ht.2.2.2 h1 (fun j x y => hT j x (by have := ht.1; omega)) (fun j x y => hC j x (by omega))
      exact ⟨⟨ht.1, ht.2.1, ht.2.2.1, q1.1⟩, r, q1.2, h2, h3, by rw [hC r (by omega) (by omega)]; exact h4, h5⟩
    · rename_i a b c e ee
      rw [ee] at hc ⊢
      obtain ⟨r, t, u, v, h1, h2, h3, h4, h5, h6, h7, h8⟩ := hc
      obtain ⟨t1, x, y, z, t2, t3, t4, t5, t6, t7, t8⟩ := ht
      have l1 := cmpN_pq _ _ _ _ h1
      have l2 := cmpN_pq _ _ _ _ h2
      have l3 := cmpN_pq _ _ _ _ h4
      have l4 := cmpN_pq _ _ _ _ h6
      have k1 := trN_le _ _ _ t2
      have k2 := trN_le _ _ _ t4
      have k3 := trN_le _ _ _ t6
      have k4 := trN_le _ _ _ t8
      have q1 := ih a s p r t8 h1 (fun j x y => hT j x (by omega)) (fun j x y => hC j x (by omega))
      have q2 := ih b x r t t6 h2 (fun j x y => hT j (by omega) (by omega)) (fun j x y => hC j (by omega) (by omega))
      have q3 := ih c y (t + 1) u t4 h4 (fun j x y => hT j (by omega) (by omega)) (fun j x y => hC j (by omega) (by omega))
      have q4 := ih e z (u + 1) v t2 h6 (fun j x y => hT j (by omega) (by omega)) (fun j x y => hC j (by omega) (by omega))
      exact ⟨⟨t1, x, y, z, q4.1, t3, q3.1, t5, q2.1, t7, q1.1⟩, r, t, u, v, q1.2, q2.2, by rw [hC t (by omega) (by omega)]; exact h3, q3.2, by rw [hC u (by omega) (by omega)]; exact h5, q4.2, by rw [hC v (by omega) (by omega)]; exact h7, h8⟩
    · exact ht.elim
theorem okN.fr {n k s p q : Nat} (h : okN C T n k s p q) (hT : ∀ j, s ≤ j → j ≤ k → T' j = T j) (hC : ∀ j, p ≤ j → j < q → C' j = C j) : okN C' T' n k s p q := okN_fr _ _ _ _ _ h.1 h.2 hT hC
theorem okN_num {k p v : Nat} (hT : T k = (0, v * 1024, 0, 0, 0)) (hv : v ≤ 9999) (hC : C p = (0, v)) : okN C T 1 k k p (p + 1) := by
  unfold okN trN cmpN
  rw [hT]
  exact ⟨⟨rfl, by omega⟩, v, rfl, hv, hC, rfl⟩
theorem okN_let {k p a : Nat} (hT : T k = (1, a, 0, 0, 0)) (ha : a < 6) (hC : C p = (1, a)) : okN C T 1 k k p (p + 1) := by
  unfold okN trN cmpN
  rw [hT]
  exact ⟨⟨rfl, ha⟩, ha, hC, rfl⟩
theorem okN_un {n a k s p r m : Nat} (h : okN C T n a s p r) (hm : m = 2 ∨ m = 3) (hk : a + 1 = k) (hT : T k = (m, a, 0, 0, 0)) (hC : C r = (m, 0)) : okN C T (n + 1) k s p (r + 1) := by
  unfold okN trN cmpN
  rw [hT]
  rcases hm with rfl | rfl
  · exact ⟨⟨hk, h.1⟩, r, h.2, hC, rfl⟩
  · exact ⟨⟨hk, h.1⟩, r, h.2, hC, rfl⟩
theorem okN_bin {n n' a x k s p r t kd cd : Nat} (h : okN C T n a s p r) (h' : okN C T n' x (a + 1) r t) (hm : (kd = 4 ∧ cd = 6) ∨ (kd = 5 ∧ cd = 7) ∨ (kd = 6 ∧ cd = 4)) (hk : x + 1 = k) (hT : T k = (kd, a, x, 0, 0)) (hC : C t = (cd, 0)) : okN C T (n + n') k s p (t + 1) := by
  have p1 := h.pos
  have p2 := h'.pos
  obtain ⟨M, hM⟩ : ∃ M, n + n' = M + 1 := ⟨n + n' - 1, by omega⟩
  have k1 := h.mono (m := M) (by omega)
  have k2 := h'.mono (m := M) (by omega)
  rw [hM]
  unfold okN trN cmpN
  rw [hT]
  rcases hm with ⟨rfl, rfl⟩ | ⟨rfl, rfl⟩ | ⟨rfl, rfl⟩
  · exact ⟨⟨hk, a + 1, k2.1, rfl, k1.1⟩, r, t, k1.2, k2.2, hC, rfl⟩
  · exact ⟨⟨hk, a + 1, k2.1, rfl, k1.1⟩, r, t, k1.2, k2.2, hC, rfl⟩
  · exact ⟨⟨hk, a + 1, k2.1, rfl, k1.1⟩, r, t, k1.2, k2.2, hC, rfl⟩
theorem okN_div {n a k s p r v : Nat} (h : okN C T n a s p r) (hk : a + 1 = k) (hT : T k = (7, a, v, 0, 0)) (h1 : 1 ≤ v) (h2 : v ≤ 999) (hC : C r = (5, v)) : okN C T (n + 1) k s p (r + 1) := by
  unfold okN trN cmpN
  rw [hT]
  exact ⟨⟨hk, h1, h2, h.1⟩, r, h.2, h1, h2, hC, rfl⟩
theorem okN_tst {n1 n2 n3 n4 a x y z k s p r u t w : Nat} (h1 : okN C T n1 a s p r) (h2 : okN C T n2 x (a + 1) r u) (h3 : okN C T n3 y (x + 1) (u + 1) t) (h4 : okN C T n4 z (y + 1) (t + 1) w) (hk : z + 1 = k) (hT : T k = (8, a, x, y, z)) (c1 : C u = (8, t + 1)) (c2 : C t = (9, w + 1)) (c3 : C w = (10, 0)) : okN C T (n1 + n2 + n3 + n4) k s p (w + 1) := by
  have p1 := h1.pos
  have p2 := h2.pos
  have p3 := h3.pos
  have p4 := h4.pos
  obtain ⟨M, hM⟩ : ∃ M, n1 + n2 + n3 + n4 = M + 1 := ⟨n1 + n2 + n3 + n4 - 1, by omega⟩
  have k1 := h1.mono (m := M) (by omega)
  have k2 := h2.mono (m := M) (by omega)
  have k3 := h3.mono (m := M) (by omega)
  have k4 := h4.mono (m := M) (by omega)
  rw [hM]
  unfold okN trN cmpN
  rw [hT]
  exact ⟨⟨hk, a + 1, x + 1, y + 1, k4.1, rfl, k3.1, rfl, k2.1, rfl, k1.1⟩, r, u, t, w, k1.2, k2.2, c1, k3.2, c2, k4.2, c3, rfl⟩
end OKN
