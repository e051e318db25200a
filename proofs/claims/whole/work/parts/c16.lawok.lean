/-! THE LAW HOLDS -/
section LAWOK
variable {L i j t n : Nat} {xs : Nat → Int32} {h : AH}
theorem lw_step (In : Inv h) (sc : Sc L xs h) (hL : L ≤ 3584) (hi : i + 7 ≤ L) (hz : h.1 + 1 < 700000) : LwS i h (lwL i h) := by
  obtain ⟨j, hj, c⟩ := lw63 (xs i)
  have K : ∀ t, swT 40 1955 0 48 #[212, 237, 262, 275, 300, 349, 374, 435, 460, 521, 594, 631, 680, 767, 792, 805, 830, 855, 880, 917, 982, 1031, 1056, 1093, 1130, 1179, 1204, 1217, 1242, 1279, 1316, 1341, 1378, 1415, 1440, 1477, 1514, 1551, 1589, 1626, 1675, 1700, 1725, 1762, 1799, 1824, 1837, 1862, 1899] (nI j) = some t → LwS i h (lwT t i h) → LwS i h (lwL i h) := fun t s q => by rw [lw_head sc hL hi c s]; exact q
  clear c
  match j, hj, K with
  | 0, _, K => exact K 252 rfl (lw_0 In sc hL hi)
  | 1, _, K => exact K 277 rfl (lw_1 In sc hL hi)
  | 2, _, K => exact K 302 rfl (lw_2 In sc hL hi hz)
  | 3, _, K => exact K 315 rfl (lw_3 In sc hL hi)
  | 4, _, K => exact K 340 rfl (lw_4 In sc hL hi)
  | 5, _, K => exact K 389 rfl (lw_5 In sc hL hi)
  | 6, _, K => exact K 414 rfl (lw_6 In sc hL hi)
  | 7, _, K => exact K 475 rfl (lw_7 In sc hL hi)
  | 8, _, K => exact K 500 rfl (lw_8 In sc hL hi)
  | 9, _, K => exact K 561 rfl (lw_9 In sc hL hi)
  | 10, _, K => exact K 634 rfl (lw_10 In sc hL hi)
  | 11, _, K => exact K 671 rfl (lw_11 In sc hL hi)
  | 12, _, K => exact K 720 rfl (lw_12 In sc hL hi)
  | 13, _, K => exact K 807 rfl (lw_13 In sc hL hi)
  | 14, _, K => exact K 832 rfl (lw_14 In sc hL hi)
  | 15, _, K => exact K 845 rfl (lw_15 In sc hL hi)
  | 16, _, K => exact K 870 rfl (lw_16 In sc hL hi)
  | 17, _, K => exact K 895 rfl (lw_17 In sc hL hi)
  | 18, _, K => exact K 920 rfl (lw_18 In sc hL hi)
  | 19, _, K => exact K 957 rfl (lw_19 In sc hL hi)
  | 20, _, K => exact K 1022 rfl (lw_20 In sc hL hi)
  | 21, _, K => exact K 1071 rfl (lw_21 In sc hL hi)
  | 22, _, K => exact K 1096 rfl (lw_22 In sc hL hi)
  | 23, _, K => exact K 1133 rfl (lw_23 In sc hL hi)
  | 24, _, K => exact K 1170 rfl (lw_24 In sc hL hi)
  | 25, _, K => exact K 1219 rfl (lw_25 In sc hL hi)
  | 26, _, K => exact K 1244 rfl (lw_26 In sc hL hi)
  | 27, _, K => exact K 1257 rfl (lw_27 In sc hL hi)
  | 28, _, K => exact K 1282 rfl (lw_28 In sc hL hi)
  | 29, _, K => exact K 1319 rfl (lw_29 In sc hL hi)
  | 30, _, K => exact K 1356 rfl (lw_30 In sc hL hi)
  | 31, _, K => exact K 1381 rfl (lw_31 In sc hL hi)
  | 32, _, K => exact K 1418 rfl (lw_32 In sc hL hi)
  | 33, _, K => exact K 1455 rfl (lw_33 In sc hL hi)
  | 34, _, K => exact K 1480 rfl (lw_34 In sc hL hi)
  | 35, _, K => exact K 1517 rfl (lw_35 In sc hL hi)
  | 36, _, K => exact K 1554 rfl (lw_36 In sc hL hi)
  | 37, _, K => exact K 1591 rfl (lw_37 In sc hL hi)
  | 38, _, K => exact K 1629 rfl (lw_38 In sc hL hi)
  | 39, _, K => exact K 1666 rfl (lw_39 In sc hL hi)
  | 40, _, K => exact K 1715 rfl (lw_40 In sc hL hi)
  | 41, _, K => exact K 1740 rfl (lw_41 In sc hL hi)
  | 42, _, K => exact K 1765 rfl (lw_42 In sc hL hi)
  | 43, _, K => exact K 1802 rfl (lw_43 In sc hL hi)
  | 44, _, K => exact K 1839 rfl (lw_44 In sc hL hi)
  | 45, _, K => exact K 1864 rfl (lw_45 In sc hL hi)
  | 46, _, K => exact K 1877 rfl (lw_46 In sc hL hi)
  | 47, _, K => exact K 1902 rfl (lw_47 In sc hL hi)
  | 48, _, K => exact K 1939 rfl (lw_48 In sc hL hi hz)
  | 49, _, K => exact K 1995 rfl (lw_none In (by omega))
  | 50, _, K => exact K 1995 rfl (lw_none In (by omega))
  | 51, _, K => exact K 1995 rfl (lw_none In (by omega))
  | 52, _, K => exact K 1995 rfl (lw_none In (by omega))
  | 53, _, K => exact K 1995 rfl (lw_none In (by omega))
  | 54, _, K => exact K 1995 rfl (lw_none In (by omega))
  | 55, _, K => exact K 1995 rfl (lw_none In (by omega))
  | 56, _, K => exact K 1995 rfl (lw_none In (by omega))
  | 57, _, K => exact K 1995 rfl (lw_none In (by omega))
  | 58, _, K => exact K 1995 rfl (lw_none In (by omega))
  | 59, _, K => exact K 1995 rfl (lw_none In (by omega))
  | 60, _, K => exact K 1995 rfl (lw_none In (by omega))
  | 61, _, K => exact K 1995 rfl (lw_none In (by omega))
  | 62, _, K => exact K 1995 rfl (lw_none In (by omega))
  | 63, _, K => exact K 1995 rfl (lw_none In (by omega))
  | j + 64, hj, _ => exact absurd hj (by omega)
theorem lw_run (hL : L ≤ 3584) : ∀ (n i : Nat) (h : AH), L < i + 7 * n + 7 → i ≤ L + 7 → Inv h → Sc L xs h → h.1 + 2 * n + 2 ≤ 700000 → ∃ h', lwL i h = some (some (.int 1), h') ∧ h'.1 ≤ h.1 + 2 * n ∧ h'.2.1 ≤ h.2.1 + 62 * n := by
  intro n
  induction n with
  | zero => intro i h h1 h2 In sc hz; exact ⟨h, lw_exit sc hL (by omega) h2, by omega, by omega⟩
  | succ n ih =>
    intro i h h1 h2 In sc hz
    by_cases hi : i + 7 ≤ L
    · obtain ⟨h', e, I', k, c1, c2⟩ := lw_step In sc hL hi (by omega)
      obtain ⟨h'', e', d1, d2⟩ := ih (i + 7) h' (by omega) (by omega) I' ((k _ (by decide)).trans sc) (by omega)
      exact ⟨h'', e.trans e', by omega, by omega⟩
    · exact ⟨h, lw_exit sc hL (by omega) h2, by omega, by omega⟩
theorem law_ok : LawA := by
  intro L xs hL
  obtain ⟨f, g, q, e⟩ := law_begin (L := L) (xs := xs)
  obtain ⟨h', r, c1, c2⟩ := lw_run (xs := xs) hL 512 0 _ (by omega) (by omega) (Inv_0 (s := 41883) (L := L) (xs := xs) q) ag_sc (by rw [hb_1, LO_len]; decide)
  have r : aAt 600 310 23 [some (.ref 1048576), some (.ref 0), some (.ref 78), some (.ref 117), some (.int (nI 0)), none, none] [] (HB (LOd f g) 41883 (X0 L xs)) = some (some (.int 1), h') := r
  rw [r, aGo_eq] at e
  obtain ⟨fu, e⟩ := aAtC_iff.mp e
  have c1 : h'.1 ≤ 118 + 2 * 512 := c1
  have c2 : h'.2.1 ≤ 41883 + 62 * 512 := c2
  exact ⟨fu, _, e, rfl, by show h'.1 ≤ 601024; omega, by show h'.2.1 ≤ 7293034; omega⟩
end LAWOK
