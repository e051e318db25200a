/-! THE LAW'S BEGINNING: the heap at its loop -/
section START
variable {d k n a s i L : Nat} {h : AH} {f g : Nat → Int32} {xs : Nat → Int32} {Y : Nat → Option AC}
def LRd : List AC := [cO 11 [.ref 1, .ref 5, .int 0, .int (-1), .ref 6, .ref 15, .int 0, .ref 16, .ref 18, .int 0, .ref 22, .ref 23, .ref 42, .ref 43, .ref 44, .ref 45, .ref 51, .ref 56, .ref 57, .int 0],
  cO 6 [.ref 2, .int 0, .int 0, .int 0, .int 1, .int 0, .ref 3, .int 0, .ref 4, .int 0],
  cI 100 (fun _ => 0),
  cI 60 (fun _ => 0),
  cI 60 (fun _ => 0),
  cR "RoundMaps$MapText" 4 (fun _ => none),
  cO 7 [.ref 7, .ref 8, .ref 9, .ref 10, .int 0, .int 0, .ref 11, .ref 12, .ref 13, .ref 14, .int 0, .int 0, .long 0, .long 0, .long 0, .long 0, .long 0, .long 0],
  cJ 6 (fun _ => 0),
  cJ 6 (fun _ => 0),
  cJ 61 (fun _ => 0),
  cJ 61 (fun _ => 0),
  cJ 61 (fun _ => 0),
  cJ 61 (fun _ => 0),
  cZ 61 (fun _ => 0),
  cI 61 (fun _ => 0),
  cI 20 (fun _ => 0),
  cO 8 [.ref 17, .int 0],
  cI 128 (fun _ => 0),
  cO 3 [.int 0, .ref 19, .ref 20, .ref 21, .int 0, .long 0, .long 0, .long 0, .long 0],
  cO 0 [.long 0, .long (J 1024), .int 1],
  cO 0 [.long 0, .long 0, .int 1],
  cI 128 (fun _ => 0),
  cR "RoundMaps$Net" 4 (va_up (va_up (va_up (va_up (fun _ => none) 0 (some 58)) 1 (some 62)) 2 (some 66)) 3 (some 70)),
  cO 10 [.ref 24, .ref 28, .ref 29, .int 0, .int 0, .ref 30, .ref 34, .ref 38],
  cO 5 [.ref 25, .ref 26, .ref 27, .int 0],
  cJ 128 (fun _ => 0),
  cJ 128 (fun _ => 0),
  cO 2 [.long 0, .long 0],
  cI 128 (fun _ => 0),
  cI 128 (fun _ => 0),
  cO 5 [.ref 31, .ref 32, .ref 33, .int 0],
  cJ 128 (fun _ => 0),
  cJ 128 (fun _ => 0),
  cO 2 [.long 0, .long 0],
  cO 5 [.ref 35, .ref 36, .ref 37, .int 0],
  cJ 128 (fun _ => 0),
  cJ 128 (fun _ => 0),
  cO 2 [.long 0, .long 0],
  cO 5 [.ref 39, .ref 40, .ref 41, .int 0],
  cJ 128 (fun _ => 0),
  cJ 128 (fun _ => 0),
  cO 2 [.long 0, .long 0],
  cR "RoundMaps$Cells" 4 (va_up (va_up (va_up (va_up (fun _ => none) 0 (some 74)) 1 (some 75)) 2 (some 76)) 3 (some 77)),
  cO 2 [.long 0, .long 0],
  cO 2 [.long 0, .long 0],
  cO 1 [.ref 46, .ref 47, .int 0, .ref 48, .ref 49, .ref 50],
  cI 6 (fun _ => 0),
  cI 6 (fun _ => 0),
  cZ 36 (fun _ => 0),
  cJ 6 (fun _ => 0),
  cJ 6 (fun _ => 0),
  cO 9 [.ref 52, .int 1, .int 0, .ref 53, .ref 54, .ref 55],
  cI 4 (fun _ => 0),
  cI 128 (fun _ => 0),
  cI 128 (fun _ => 0),
  cO 2 [.long 0, .long 0],
  cI 128 (fun _ => 0),
  cI 12 (fun _ => 0),
  cO 5 [.ref 59, .ref 60, .ref 61, .int 0],
  cJ 128 (fun _ => 0),
  cJ 128 (fun _ => 0),
  cO 2 [.long 0, .long 0],
  cO 5 [.ref 63, .ref 64, .ref 65, .int 0],
  cJ 128 (fun _ => 0),
  cJ 128 (fun _ => 0),
  cO 2 [.long 0, .long 0],
  cO 5 [.ref 67, .ref 68, .ref 69, .int 0],
  cJ 128 (fun _ => 0),
  cJ 128 (fun _ => 0),
  cO 2 [.long 0, .long 0],
  cO 5 [.ref 71, .ref 72, .ref 73, .int 0],
  cJ 128 (fun _ => 0),
  cJ 128 (fun _ => 0),
  cO 2 [.long 0, .long 0],
  cO 2 [.long 0, .long 0],
  cO 2 [.long 0, .long 0],
  cO 2 [.long 0, .long 0],
  cO 2 [.long 0, .long 0]]
def LMd (f g : Nat → Int32) : List AC := [cO 12 [.int 0, .ref 79, .int 0, .int 0, .int 0, .int 0, .int (-1), .int 0, .ref 80, .ref 81, .ref 82, .ref 83, .ref 84, .ref 85, .ref 86, .ref 87, .ref 88, .ref 89, .int 1, .ref 90, .int 0, .ref 91, .ref 92, .ref 93, .ref 94, .ref 95, .ref 96, .int 0, .long 0, .long 0, .long 0, .long 0, .long 0, .long 0, .int 0, .ref 97, .int 0, .int 0, .int (nI 1024), .int 1, .int 0, .int 0, .int 1, .int 0, .ref 98, .ref 99, .ref 100, .ref 101, .ref 102, .ref 103, .ref 104, .long 0, .long 0, .long 0, .long 0, .int 0, .ref 105, .int 0, .int 0, .int 0, .int 0, .int 0, .ref 106, .ref 107, .ref 108, .ref 109, .ref 110, .ref 111, .ref 112, .ref 113, .ref 114, .int 0, .ref 115, .ref 116],
  cI 100 (fun _ => 0),
  cI 5 (fun _ => 0),
  cI 310 (fun _ => 0),
  cI 310 (fun _ => 0),
  cI 310 (fun _ => 0),
  cI 310 (fun _ => 0),
  cI 310 (fun _ => 0),
  cI 5 (fun _ => 0),
  cI 5 (fun _ => 0),
  cJ 6 (fun _ => 0),
  cJ 6 (fun _ => 0),
  cI 4 (fun _ => 0),
  cI 20 (fun _ => 0),
  cJ 310 (fun _ => 0),
  cJ 310 (fun _ => 0),
  cJ 310 (fun _ => 0),
  cJ 310 (fun _ => 0),
  cZ 310 (fun _ => 0),
  cI 128 (fun _ => 0),
  cZ 16384 (fun _ => 0),
  cZ 128 (fun _ => 0),
  cZ 16384 (fun _ => 0),
  cZ 512 (fun _ => 0),
  cZ 128 (fun _ => 0),
  cI 128 (fun _ => 0),
  cI 128 (fun _ => 0),
  cZ 128 (fun _ => 0),
  cI 6 (fun _ => 0),
  cI 6 (fun _ => 0),
  cZ 36 (fun _ => 0),
  cJ 6 (fun _ => 0),
  cJ 6 (fun _ => 0),
  cI 128 f,
  cI 128 g,
  cZ 128 (fun _ => 0),
  cI 128 (fun _ => 0),
  cI 12 (fun _ => 0),
  cI 128 (fun _ => 0)]
def LOd (f g : Nat → Int32) : List AC := LRd ++ (LMd f g ++ [cJ 1 (fun _ => 0)])
theorem LRd_len : LRd.length = 78 := rfl
theorem H0_1 : (H0 L xs).1 = 0 := Eq.trans (b := 0) rfl rfl
theorem H0_hb : H0 L xs = HB [] 0 (X0 L xs) := rfl
set_option maxRecDepth 100000 in
set_option maxHeartbeats 4000000 in
theorem i_R0 : aCall (d + 4) 117 [.ref 0] (an (H0 L xs) 20 (cO 11 [.null, .null, .int 0, .int 0, .null, .null, .int 0, .null, .null, .int 0, .null, .null, .null, .null, .null, .null, .null, .null, .null, .int 0])) = some (none, HB LRd 3797 (X0 L xs)) := by
  rw [i_R (H0_1).symm (by rw [H0_1]; decide)]
  simp only [H0_1, Nat.zero_add]
  rw [H0_hb]
  simp (maxSteps := 2000000) only [hb_1, hb_an, List.length_nil, List.length_append, List.length_cons, Nat.zero_add, Nat.reduceAdd, List.nil_append, List.cons_append, List.append_assoc, LRd]
set_option maxRecDepth 100000 in
set_option maxHeartbeats 4000000 in
theorem i_M0 : ∃ f g : Nat → Int32, (∀ c, c < 128 → f c = -1 ∧ g c = -1) ∧ aCall (d + 1) 290 [.ref 78] (an (HB LRd 3797 Y) 74 (cO 12 [.int 0, .null, .int 0, .int 0, .int 0, .int 0, .int 0, .int 0, .null, .null, .null, .null, .null, .null, .null, .null, .null, .null, .int 0, .null, .int 0, .null, .null, .null, .null, .null, .null, .int 0, .long 0, .long 0, .long 0, .long 0, .long 0, .long 0, .int 0, .null, .int 0, .int 0, .int 0, .int 0, .int 0, .int 0, .int 0, .int 0, .null, .null, .null, .null, .null, .null, .null, .long 0, .long 0, .long 0, .long 0, .int 0, .null, .int 0, .int 0, .int 0, .int 0, .int 0, .null, .null, .null, .null, .null, .null, .null, .null, .null, .int 0, .null, .null])) = some (none, HB (LRd ++ LMd f g) 41882 Y) := by
  obtain ⟨f, g, q, e⟩ := i_M (d := d) (a := 78) (h := HB LRd 3797 Y) rfl (by rw [hb_1, LRd_len]; decide)
  refine ⟨f, g, q, e.trans ?_⟩
  unfold mCH
  simp (maxSteps := 2000000) only [hb_1, hb_an, LRd_len, List.length_nil, List.length_append, List.length_cons, Nat.zero_add, Nat.reduceAdd, List.nil_append, List.cons_append, List.append_assoc, LMd]
set_option maxRecDepth 100000 in
set_option maxHeartbeats 4000000 in
theorem law_begin : ∃ f g : Nat → Int32, (∀ c, c < 128 → f c = -1 ∧ g c = -1) ∧ aGo 200 600 (310, 0, padL 7 [some (.ref 1048576)], [], H0 L xs) = aAt 600 310 23 [some (.ref 1048576), some (.ref 0), some (.ref 78), some (.ref 117), some (.int (nI 0)), none, none] [] (HB (LOd f g) 41883 (X0 L xs)) := by
  obtain ⟨f, g, q, e2⟩ := i_M0 (d := 599) (Y := X0 L xs)
  have e1 := i_R0 (d := 596) (L := L) (xs := xs)
  rw [← dft11] at e1
  rw [← dft12] at e2
  refine ⟨f, g, q, ?_⟩
  have e3 : an (HB (LRd ++ LMd f g) 41882 (X0 L xs)) 1 (cJ 1 fun _ => 0) = HB (LOd f g) 41883 (X0 L xs) := by
    rw [hb_an, LOd, List.append_assoc]
  have l1 : (HB LRd 3797 (X0 L xs)).1 = 78 := rfl
  have l2 : (HB (LRd ++ LMd f g) 41882 (X0 L xs)).1 = 117 := rfl
  have r0 : (0 < 700000) = True := eq_true (by decide)
  have r1 : (78 < 700000) = True := eq_true (by decide)
  have r2 : (117 < 700000) = True := eq_true (by decide)
  have i1 : cl 1 = 1 := rfl
  have i2 : ((1 : Int32) < 0) = False := eq_false (by decide)
  show _ = aAt 600 310 23 [some (.ref 1048576), some (.ref 0), some (.ref 78), some (.ref 117), some (.int 0), none, none] [] (HB (LOd f g) 41883 (X0 L xs))
  simp (maxSteps := 4000000) (disch := first | omega | ((with_reducible (apply in_n)) <;> omega) | (simp only [an_1, au_1, Nat.add_assoc, Nat.reduceAdd]; first | done | omega) | (simp (disch := omega) only [e_agn, e_ag, an_1, au_1, Nat.add_assoc, Nat.reduceAdd, sne, sne', dne, ↓reduceIte, eq_self, Nat.reduceEqDiff]; done)) only [lg_cmp_ge, lg_cmp_le, lg_cmp_gt, lg_cmp_lt, lg_cmp_eq, ↓ob, ↓pI, ↓pJ, ↓pR, ↓pV, ↓gO, ↓gI, ↓gJ, ↓gR, ↓gL, ↓gT, ↓lI, ↓lJ, ↓lR, psh, isRf, layA, padL, trimO, trimB, ld, ss1, ss2, killL, cmpB, popN, isR, putOk, e_ag, e_agn, List.set_cons_zero, List.set_cons_succ, List.getElem?_cons_zero, List.getElem?_cons_succ, List.length_cons, List.length_nil, Value.category, decide_eq_true_eq, reduceIte, Nat.reduceAdd, Nat.reduceEqDiff, Nat.reduceLeDiff, reduceCtorEq, and_self, and_true, true_and, not_true_eq_false, not_false_eq_true, or_false, false_or, or_true, true_or, beq_self_eq_true, Nat.reduceBEq, Bool.false_eq_true, false_implies, forall_const, ↓s310_0, ↓s310_3, ↓s310_4, ↓s310_7, ↓s310_8, ↓s310_11, ↓s310_12, ↓s310_15, ↓s310_16, ↓s310_17, ↓s310_19, ↓s310_20, ↓s310_21, ↓l310_23, ↓s310_25, ↓s310_26, ↓s310_27, ↓s310_29, ↓s310_30, ↓s310_33, ↓s310_34, ↓s310_36, ↓s310_37, ↓s310_39, ↓s310_40, ↓s310_252, ↓s310_253, ↓s310_254, ↓s310_256, ↓s310_257, ↓s310_258, ↓s310_259, ↓s310_262, ↓s310_263, ↓s310_264, ↓s310_266, ↓s310_267, ↓s310_268, ↓s310_269, ↓s310_272, ↓s310_275, ↓s310_276, ↓s310_277, ↓s310_278, ↓s310_279, ↓s310_281, ↓s310_282, ↓s310_283, ↓s310_284, ↓s310_287, ↓s310_288, ↓s310_289, ↓s310_291, ↓s310_292, ↓s310_293, ↓s310_294, ↓s310_297, ↓s310_300, ↓s310_301, ↓s310_302, ↓s310_303, ↓s310_306, ↓s310_307, ↓s310_310, ↓s310_313, ↓s310_314, ↓s310_315, ↓s310_316, ↓s310_317, ↓s310_319, ↓s310_320, ↓s310_321, ↓s310_322, ↓s310_325, ↓s310_326, ↓s310_327, ↓s310_329, ↓s310_330, ↓s310_331, ↓s310_332, ↓s310_335, ↓s310_338, ↓s310_339, ↓s310_340, ↓s310_341, ↓s310_342, ↓s310_344, ↓s310_345, ↓s310_346, ↓s310_347, ↓s310_348, ↓s310_350, ↓s310_351, ↓s310_352, ↓s310_353, ↓s310_354, ↓s310_356, ↓s310_357, ↓s310_358, ↓s310_359, ↓s310_362, ↓s310_363, ↓s310_364, ↓s310_366, ↓s310_367, ↓s310_368, ↓s310_369, ↓s310_370, ↓s310_372, ↓s310_373, ↓s310_374, ↓s310_375, ↓s310_376, ↓s310_378, ↓s310_379, ↓s310_380, ↓s310_381, ↓s310_384, ↓s310_387, ↓s310_388, ↓s310_389, ↓s310_390, ↓s310_391, ↓s310_393, ↓s310_394, ↓s310_395, ↓s310_396, ↓s310_399, ↓s310_400, ↓s310_401, ↓s310_403, ↓s310_404, ↓s310_405, ↓s310_406, ↓s310_409, ↓s310_412, ↓s310_413, ↓s310_414, ↓s310_415, ↓s310_416, ↓s310_418, ↓s310_419, ↓s310_420, ↓s310_421, ↓s310_422, ↓s310_424, ↓s310_425, ↓s310_426, ↓s310_427, ↓s310_428, ↓s310_430, ↓s310_431, ↓s310_432, ↓s310_433, ↓s310_434, ↓s310_436, ↓s310_437, ↓s310_438, ↓s310_439, ↓s310_442, ↓s310_443, ↓s310_444, ↓s310_446, ↓s310_447, ↓s310_448, ↓s310_449, ↓s310_450, ↓s310_452, ↓s310_453, ↓s310_454, ↓s310_455, ↓s310_456, ↓s310_458, ↓s310_459, ↓s310_460, ↓s310_461, ↓s310_462, ↓s310_464, ↓s310_465, ↓s310_466, ↓s310_467, ↓s310_470, ↓s310_473, ↓s310_474, ↓s310_475, ↓s310_476, ↓s310_477, ↓s310_479, ↓s310_480, ↓s310_481, ↓s310_482, ↓s310_485, ↓s310_486, ↓s310_487, ↓s310_489, ↓s310_490, ↓s310_491, ↓s310_492, ↓s310_495, ↓s310_498, ↓s310_499, ↓s310_500, ↓s310_501, ↓s310_502, ↓s310_504, ↓s310_505, ↓s310_506, ↓s310_507, ↓s310_508, ↓s310_510, ↓s310_511, ↓s310_512, ↓s310_513, ↓s310_514, ↓s310_516, ↓s310_517, ↓s310_518, ↓s310_519, ↓s310_520, ↓s310_522, ↓s310_523, ↓s310_524, ↓s310_525, ↓s310_528, ↓s310_529, ↓s310_530, ↓s310_532, ↓s310_533, ↓s310_534, ↓s310_535, ↓s310_536, ↓s310_538, ↓s310_539, ↓s310_540, ↓s310_541, ↓s310_542, ↓s310_544, ↓s310_545, ↓s310_546, ↓s310_547, ↓s310_548, ↓s310_550, ↓s310_551, ↓s310_552, ↓s310_553, ↓s310_556, ↓s310_559, ↓s310_560, ↓s310_561, ↓s310_562, ↓s310_563, ↓s310_565, ↓s310_566, ↓s310_567, ↓s310_568, ↓s310_569, ↓s310_571, ↓s310_572, ↓s310_573, ↓s310_574, ↓s310_575, ↓s310_577, ↓s310_578, ↓s310_579, ↓s310_580, ↓s310_581, ↓s310_583, ↓s310_584, ↓s310_585, ↓s310_586, ↓s310_587, ↓s310_589, ↓s310_590, ↓s310_591, ↓s310_592, ↓s310_595, ↓s310_596, ↓s310_597, ↓s310_599, ↓s310_600, ↓s310_601, ↓s310_602, ↓s310_603, ↓s310_605, ↓s310_606, ↓s310_607, ↓s310_608, ↓s310_609, ↓s310_611, ↓s310_612, ↓s310_613, ↓s310_614, ↓s310_615, ↓s310_617, ↓s310_618, ↓s310_619, ↓s310_620, ↓s310_621, ↓s310_623, ↓s310_624, ↓s310_625, ↓s310_626, ↓s310_629, ↓s310_632, ↓s310_633, ↓s310_634, ↓s310_635, ↓s310_636, ↓s310_638, ↓s310_639, ↓s310_640, ↓s310_641, ↓s310_642, ↓s310_644, ↓s310_645, ↓s310_646, ↓s310_647, ↓s310_650, ↓s310_651, ↓s310_652, ↓s310_654, ↓s310_655, ↓s310_656, ↓s310_657, ↓s310_658, ↓s310_660, ↓s310_661, ↓s310_662, ↓s310_663, ↓s310_666, ↓s310_669, ↓s310_670, ↓s310_671, ↓s310_672, ↓s310_673, ↓s310_675, ↓s310_676, ↓s310_677, ↓s310_678, ↓s310_679, ↓s310_681, ↓s310_682, ↓s310_683, ↓s310_684, ↓s310_685, ↓s310_687, ↓s310_688, ↓s310_689, ↓s310_690, ↓s310_693, ↓s310_694, ↓s310_695, ↓s310_697, ↓s310_698, ↓s310_699, ↓s310_700, ↓s310_701, ↓s310_703, ↓s310_704, ↓s310_705, ↓s310_706, ↓s310_707, ↓s310_709, ↓s310_710, ↓s310_711, ↓s310_712, ↓s310_715, ↓s310_718, ↓s310_719, ↓s310_720, ↓s310_721, ↓s310_722, ↓s310_724, ↓s310_725, ↓s310_726, ↓s310_727, ↓s310_728, ↓s310_730, ↓s310_731, ↓s310_732, ↓s310_733, ↓s310_734, ↓s310_736, ↓s310_737, ↓s310_738, ↓s310_739, ↓s310_740, ↓s310_742, ↓s310_743, ↓s310_744, ↓s310_745, ↓s310_746, ↓s310_748, ↓s310_749, ↓s310_750, ↓s310_751, ↓s310_752, ↓s310_754, ↓s310_756, ↓s310_757, ↓s310_758, ↓s310_761, ↓s310_762, ↓s310_763, ↓s310_765, ↓s310_766, ↓s310_767, ↓s310_768, ↓s310_769, ↓s310_771, ↓s310_772, ↓s310_773, ↓s310_774, ↓s310_775, ↓s310_777, ↓s310_778, ↓s310_779, ↓s310_780, ↓s310_781, ↓s310_783, ↓s310_784, ↓s310_785, ↓s310_786, ↓s310_787, ↓s310_789, ↓s310_790, ↓s310_791, ↓s310_792, ↓s310_793, ↓s310_795, ↓s310_797, ↓s310_798, ↓s310_799, ↓s310_802, ↓s310_805, ↓s310_806, ↓s310_807, ↓s310_808, ↓s310_809, ↓s310_811, ↓s310_812, ↓s310_813, ↓s310_814, ↓s310_817, ↓s310_818, ↓s310_819, ↓s310_821, ↓s310_822, ↓s310_823, ↓s310_824, ↓s310_827, ↓s310_830, ↓s310_831, ↓s310_832, ↓s310_833, ↓s310_836, ↓s310_837, ↓s310_840, ↓s310_843, ↓s310_844, ↓s310_845, ↓s310_846, ↓s310_847, ↓s310_849, ↓s310_850, ↓s310_851, ↓s310_852, ↓s310_855, ↓s310_856, ↓s310_857, ↓s310_859, ↓s310_860, ↓s310_861, ↓s310_862, ↓s310_865, ↓s310_868, ↓s310_869, ↓s310_870, ↓s310_871, ↓s310_872, ↓s310_874, ↓s310_875, ↓s310_876, ↓s310_877, ↓s310_880, ↓s310_881, ↓s310_882, ↓s310_884, ↓s310_885, ↓s310_886, ↓s310_887, ↓s310_890, ↓s310_893, ↓s310_894, ↓s310_895, ↓s310_896, ↓s310_897, ↓s310_899, ↓s310_900, ↓s310_901, ↓s310_902, ↓s310_905, ↓s310_906, ↓s310_907, ↓s310_909, ↓s310_910, ↓s310_911, ↓s310_912, ↓s310_915, ↓s310_918, ↓s310_919, ↓s310_920, ↓s310_921, ↓s310_922, ↓s310_924, ↓s310_925, ↓s310_926, ↓s310_927, ↓s310_928, ↓s310_930, ↓s310_931, ↓s310_932, ↓s310_933, ↓s310_936, ↓s310_937, ↓s310_938, ↓s310_940, ↓s310_941, ↓s310_942, ↓s310_943, ↓s310_944, ↓s310_946, ↓s310_947, ↓s310_948, ↓s310_949, ↓s310_952, ↓s310_955, ↓s310_956, ↓s310_957, ↓s310_958, ↓s310_959, ↓s310_961, ↓s310_962, ↓s310_963, ↓s310_964, ↓s310_965, ↓s310_967, ↓s310_968, ↓s310_969, ↓s310_970, ↓s310_971, ↓s310_973, ↓s310_974, ↓s310_975, ↓s310_976, ↓s310_979, ↓s310_980, ↓s310_983, ↓s310_984, ↓s310_987, ↓s310_988, ↓s310_989, ↓s310_991, ↓s310_992, ↓s310_993, ↓s310_994, ↓s310_995, ↓s310_997, ↓s310_998, ↓s310_999, ↓s310_1000, ↓s310_1001, ↓s310_1003, ↓s310_1004, ↓s310_1005, ↓s310_1006, ↓s310_1009, ↓s310_1010, ↓s310_1013, ↓s310_1014, ↓s310_1017, ↓s310_1020, ↓s310_1021, ↓s310_1022, ↓s310_1023, ↓s310_1024, ↓s310_1026, ↓s310_1027, ↓s310_1028, ↓s310_1029, ↓s310_1030, ↓s310_1032, ↓s310_1033, ↓s310_1034, ↓s310_1035, ↓s310_1036, ↓s310_1038, ↓s310_1039, ↓s310_1040, ↓s310_1041, ↓s310_1044, ↓s310_1045, ↓s310_1046, ↓s310_1048, ↓s310_1049, ↓s310_1050, ↓s310_1051, ↓s310_1052, ↓s310_1054, ↓s310_1055, ↓s310_1056, ↓s310_1057, ↓s310_1058, ↓s310_1060, ↓s310_1061, ↓s310_1062, ↓s310_1063, ↓s310_1066, ↓s310_1069, ↓s310_1070, ↓s310_1071, ↓s310_1072, ↓s310_1073, ↓s310_1075, ↓s310_1076, ↓s310_1077, ↓s310_1078, ↓s310_1081, ↓s310_1082, ↓s310_1083, ↓s310_1085, ↓s310_1086, ↓s310_1087, ↓s310_1088, ↓s310_1091, ↓s310_1094, ↓s310_1095, ↓s310_1096, ↓s310_1097, ↓s310_1098, ↓s310_1100, ↓s310_1101, ↓s310_1102, ↓s310_1103, ↓s310_1104, ↓s310_1106, ↓s310_1107, ↓s310_1108, ↓s310_1109, ↓s310_1112, ↓s310_1113, ↓s310_1114, ↓s310_1116, ↓s310_1117, ↓s310_1118, ↓s310_1119, ↓s310_1120, ↓s310_1122, ↓s310_1123, ↓s310_1124, ↓s310_1125, ↓s310_1128, ↓s310_1131, ↓s310_1132, ↓s310_1133, ↓s310_1134, ↓s310_1135, ↓s310_1137, ↓s310_1138, ↓s310_1139, ↓s310_1140, ↓s310_1141, ↓s310_1143, ↓s310_1144, ↓s310_1145, ↓s310_1146, ↓s310_1149, ↓s310_1150, ↓s310_1151, ↓s310_1153, ↓s310_1154, ↓s310_1155, ↓s310_1156, ↓s310_1157, ↓s310_1159, ↓s310_1160, ↓s310_1161, ↓s310_1162, ↓s310_1165, ↓s310_1168, ↓s310_1169, ↓s310_1170, ↓s310_1171, ↓s310_1172, ↓s310_1174, ↓s310_1175, ↓s310_1176, ↓s310_1177, ↓s310_1178, ↓s310_1180, ↓s310_1181, ↓s310_1182, ↓s310_1183, ↓s310_1184, ↓s310_1186, ↓s310_1187, ↓s310_1188, ↓s310_1189, ↓s310_1192, ↓s310_1193, ↓s310_1194, ↓s310_1196, ↓s310_1197, ↓s310_1198, ↓s310_1199, ↓s310_1200, ↓s310_1202, ↓s310_1203, ↓s310_1204, ↓s310_1205, ↓s310_1206, ↓s310_1208, ↓s310_1209, ↓s310_1210, ↓s310_1211, ↓s310_1214, ↓s310_1217, ↓s310_1218, ↓s310_1219, ↓s310_1220, ↓s310_1221, ↓s310_1223, ↓s310_1224, ↓s310_1225, ↓s310_1226, ↓s310_1229, ↓s310_1230, ↓s310_1231, ↓s310_1233, ↓s310_1234, ↓s310_1235, ↓s310_1236, ↓s310_1239, ↓s310_1242, ↓s310_1243, ↓s310_1244, ↓s310_1245, ↓s310_1248, ↓s310_1249, ↓s310_1252, ↓s310_1255, ↓s310_1256, ↓s310_1257, ↓s310_1258, ↓s310_1259, ↓s310_1261, ↓s310_1262, ↓s310_1263, ↓s310_1264, ↓s310_1267, ↓s310_1268, ↓s310_1269, ↓s310_1271, ↓s310_1272, ↓s310_1273, ↓s310_1274, ↓s310_1277, ↓s310_1280, ↓s310_1281, ↓s310_1282, ↓s310_1283, ↓s310_1284, ↓s310_1286, ↓s310_1287, ↓s310_1288, ↓s310_1289, ↓s310_1290, ↓s310_1292, ↓s310_1293, ↓s310_1294, ↓s310_1295, ↓s310_1298, ↓s310_1299, ↓s310_1300, ↓s310_1302, ↓s310_1303, ↓s310_1304, ↓s310_1305, ↓s310_1306, ↓s310_1308, ↓s310_1309, ↓s310_1310, ↓s310_1311, ↓s310_1314, ↓s310_1317, ↓s310_1318, ↓s310_1319, ↓s310_1320, ↓s310_1321, ↓s310_1323, ↓s310_1324, ↓s310_1325, ↓s310_1326, ↓s310_1327, ↓s310_1329, ↓s310_1330, ↓s310_1331, ↓s310_1332, ↓s310_1335, ↓s310_1336, ↓s310_1337, ↓s310_1339, ↓s310_1340, ↓s310_1341, ↓s310_1342, ↓s310_1343, ↓s310_1345, ↓s310_1346, ↓s310_1347, ↓s310_1348, ↓s310_1351, ↓s310_1354, ↓s310_1355, ↓s310_1356, ↓s310_1357, ↓s310_1358, ↓s310_1360, ↓s310_1361, ↓s310_1362, ↓s310_1363, ↓s310_1366, ↓s310_1367, ↓s310_1368, ↓s310_1370, ↓s310_1371, ↓s310_1372, ↓s310_1373, ↓s310_1376, ↓s310_1379, ↓s310_1380, ↓s310_1381, ↓s310_1382, ↓s310_1383, ↓s310_1385, ↓s310_1386, ↓s310_1387, ↓s310_1388, ↓s310_1389, ↓s310_1391, ↓s310_1392, ↓s310_1393, ↓s310_1394, ↓s310_1397, ↓s310_1398, ↓s310_1399, ↓s310_1401, ↓s310_1402, ↓s310_1403, ↓s310_1404, ↓s310_1405, ↓s310_1407, ↓s310_1408, ↓s310_1409, ↓s310_1410, ↓s310_1413, ↓s310_1416, ↓s310_1417, ↓s310_1418, ↓s310_1419, ↓s310_1420, ↓s310_1422, ↓s310_1423, ↓s310_1424, ↓s310_1425, ↓s310_1426, ↓s310_1428, ↓s310_1429, ↓s310_1430, ↓s310_1431, ↓s310_1434, ↓s310_1435, ↓s310_1436, ↓s310_1438, ↓s310_1439, ↓s310_1440, ↓s310_1441, ↓s310_1442, ↓s310_1444, ↓s310_1445, ↓s310_1446, ↓s310_1447, ↓s310_1450, ↓s310_1453, ↓s310_1454, ↓s310_1455, ↓s310_1456, ↓s310_1457, ↓s310_1459, ↓s310_1460, ↓s310_1461, ↓s310_1462, ↓s310_1465, ↓s310_1466, ↓s310_1467, ↓s310_1469, ↓s310_1470, ↓s310_1471, ↓s310_1472, ↓s310_1475, ↓s310_1478, ↓s310_1479, ↓s310_1480, ↓s310_1481, ↓s310_1482, ↓s310_1484, ↓s310_1485, ↓s310_1486, ↓s310_1487, ↓s310_1488, ↓s310_1490, ↓s310_1491, ↓s310_1492, ↓s310_1493, ↓s310_1496, ↓s310_1497, ↓s310_1498, ↓s310_1500, ↓s310_1501, ↓s310_1502, ↓s310_1503, ↓s310_1504, ↓s310_1506, ↓s310_1507, ↓s310_1508, ↓s310_1509, ↓s310_1512, ↓s310_1515, ↓s310_1516, ↓s310_1517, ↓s310_1518, ↓s310_1519, ↓s310_1521, ↓s310_1522, ↓s310_1523, ↓s310_1524, ↓s310_1525, ↓s310_1527, ↓s310_1528, ↓s310_1529, ↓s310_1530, ↓s310_1533, ↓s310_1534, ↓s310_1535, ↓s310_1537, ↓s310_1538, ↓s310_1539, ↓s310_1540, ↓s310_1541, ↓s310_1543, ↓s310_1544, ↓s310_1545, ↓s310_1546, ↓s310_1549, ↓s310_1552, ↓s310_1553, ↓s310_1554, ↓s310_1555, ↓s310_1556, ↓s310_1558, ↓s310_1559, ↓s310_1560, ↓s310_1561, ↓s310_1562, ↓s310_1564, ↓s310_1565, ↓s310_1566, ↓s310_1567, ↓s310_1570, ↓s310_1571, ↓s310_1572, ↓s310_1574, ↓s310_1575, ↓s310_1576, ↓s310_1577, ↓s310_1578, ↓s310_1580, ↓s310_1581, ↓s310_1582, ↓s310_1583, ↓s310_1586, ↓s310_1589, ↓s310_1590, ↓s310_1591, ↓s310_1592, ↓s310_1593, ↓s310_1595, ↓s310_1596, ↓s310_1597, ↓s310_1598, ↓s310_1599, ↓s310_1601, ↓s310_1602, ↓s310_1603, ↓s310_1604, ↓s310_1607, ↓s310_1608, ↓s310_1609, ↓s310_1611, ↓s310_1612, ↓s310_1613, ↓s310_1614, ↓s310_1615, ↓s310_1617, ↓s310_1618, ↓s310_1619, ↓s310_1620, ↓s310_1623, ↓s310_1624, ↓s310_1627, ↓s310_1628, ↓s310_1629, ↓s310_1630, ↓s310_1631, ↓s310_1633, ↓s310_1634, ↓s310_1635, ↓s310_1636, ↓s310_1637, ↓s310_1639, ↓s310_1640, ↓s310_1641, ↓s310_1642, ↓s310_1645, ↓s310_1646, ↓s310_1647, ↓s310_1649, ↓s310_1650, ↓s310_1651, ↓s310_1652, ↓s310_1653, ↓s310_1655, ↓s310_1656, ↓s310_1657, ↓s310_1658, ↓s310_1661, ↓s310_1664, ↓s310_1665, ↓s310_1666, ↓s310_1667, ↓s310_1668, ↓s310_1670, ↓s310_1671, ↓s310_1672, ↓s310_1673, ↓s310_1674, ↓s310_1676, ↓s310_1677, ↓s310_1678, ↓s310_1679, ↓s310_1680, ↓s310_1682, ↓s310_1683, ↓s310_1684, ↓s310_1685, ↓s310_1688, ↓s310_1689, ↓s310_1690, ↓s310_1692, ↓s310_1693, ↓s310_1694, ↓s310_1695, ↓s310_1696, ↓s310_1698, ↓s310_1699, ↓s310_1700, ↓s310_1701, ↓s310_1702, ↓s310_1704, ↓s310_1705, ↓s310_1706, ↓s310_1707, ↓s310_1710, ↓s310_1713, ↓s310_1714, ↓s310_1715, ↓s310_1716, ↓s310_1717, ↓s310_1719, ↓s310_1720, ↓s310_1721, ↓s310_1722, ↓s310_1725, ↓s310_1726, ↓s310_1727, ↓s310_1729, ↓s310_1730, ↓s310_1731, ↓s310_1732, ↓s310_1735, ↓s310_1738, ↓s310_1739, ↓s310_1740, ↓s310_1741, ↓s310_1742, ↓s310_1744, ↓s310_1745, ↓s310_1746, ↓s310_1747, ↓s310_1750, ↓s310_1751, ↓s310_1752, ↓s310_1754, ↓s310_1755, ↓s310_1756, ↓s310_1757, ↓s310_1760, ↓s310_1763, ↓s310_1764, ↓s310_1765, ↓s310_1766, ↓s310_1767, ↓s310_1769, ↓s310_1770, ↓s310_1771, ↓s310_1772, ↓s310_1773, ↓s310_1775, ↓s310_1776, ↓s310_1777, ↓s310_1778, ↓s310_1781, ↓s310_1782, ↓s310_1783, ↓s310_1785, ↓s310_1786, ↓s310_1787, ↓s310_1788, ↓s310_1789, ↓s310_1791, ↓s310_1792, ↓s310_1793, ↓s310_1794, ↓s310_1797, ↓s310_1800, ↓s310_1801, ↓s310_1802, ↓s310_1803, ↓s310_1804, ↓s310_1806, ↓s310_1807, ↓s310_1808, ↓s310_1809, ↓s310_1810, ↓s310_1812, ↓s310_1813, ↓s310_1814, ↓s310_1815, ↓s310_1818, ↓s310_1819, ↓s310_1820, ↓s310_1822, ↓s310_1823, ↓s310_1824, ↓s310_1825, ↓s310_1826, ↓s310_1828, ↓s310_1829, ↓s310_1830, ↓s310_1831, ↓s310_1834, ↓s310_1837, ↓s310_1838, ↓s310_1839, ↓s310_1840, ↓s310_1841, ↓s310_1843, ↓s310_1844, ↓s310_1845, ↓s310_1846, ↓s310_1849, ↓s310_1850, ↓s310_1851, ↓s310_1853, ↓s310_1854, ↓s310_1855, ↓s310_1856, ↓s310_1859, ↓s310_1862, ↓s310_1863, ↓s310_1864, ↓s310_1865, ↓s310_1868, ↓s310_1869, ↓s310_1872, ↓s310_1875, ↓s310_1876, ↓s310_1877, ↓s310_1878, ↓s310_1879, ↓s310_1881, ↓s310_1882, ↓s310_1883, ↓s310_1884, ↓s310_1887, ↓s310_1888, ↓s310_1889, ↓s310_1891, ↓s310_1892, ↓s310_1893, ↓s310_1894, ↓s310_1897, ↓s310_1900, ↓s310_1901, ↓s310_1902, ↓s310_1903, ↓s310_1904, ↓s310_1906, ↓s310_1907, ↓s310_1908, ↓s310_1909, ↓s310_1910, ↓s310_1912, ↓s310_1913, ↓s310_1914, ↓s310_1915, ↓s310_1918, ↓s310_1919, ↓s310_1920, ↓s310_1922, ↓s310_1923, ↓s310_1924, ↓s310_1925, ↓s310_1926, ↓s310_1928, ↓s310_1929, ↓s310_1930, ↓s310_1931, ↓s310_1934, ↓s310_1937, ↓s310_1938, ↓s310_1939, ↓s310_1940, ↓s310_1941, ↓s310_1943, ↓s310_1944, ↓s310_1945, ↓s310_1946, ↓s310_1947, ↓s310_1950, ↓s310_1952, ↓s310_1953, ↓s310_1954, ↓s310_1956, ↓s310_1957, ↓s310_1958, ↓s310_1959, ↓s310_1962, ↓s310_1964, ↓s310_1965, ↓s310_1968, ↓s310_1970, ↓s310_1973, ↓s310_1974, ↓s310_1975, ↓s310_1977, ↓s310_1980, ↓s310_1981, ↓s310_1982, ↓s310_1983, ↓s310_1985, ↓s310_1986, ↓s310_1987, ↓s310_1990, ↓s310_1991, ↓s310_1992, ↓s310_1995, ↓s310_1998, ↓s310_2001, ↓s310_2002, x117, x118, x119, x120, x121, x122, x123, x124, x125, x126, x127, x128, x129, x130, x131, x132, x133, x134, x135, x136, x137, x138, x139, x140, x141, x142, x143, x144, x145, x146, x147, x148, x149, x150, x151, x152, x153, x154, x155, x156, x157, x158, x159, x160, x161, x162, x163, x164, x165, x184, x191, x192, x202, x203, x204, x205, x206, x208, x221, x223, x224, x225, x227, x228, x240, x241, x242, x243, x244, x248, x250, x251, x252, x253, x255, x256, x258, x259, x260, x261, x262, x266, x267, x268, x272, x274, x277, x278, x279, x280, x281, x282, x283, x284, x285, x286, x287, x289, x290, x291, nlit7, nlit63, nlit2, nlit3, nlit4, nlit5, nlit6, ltT, ltF, leT, leF, eqF, lt0F, le0T, eq0F, lt0T, le0F, nle1T, nle1F, n1leT, n1leF, nlt1T, nlt1F, n1ltT, n1ltF, neq1F, neq1T, neq0T, nle0T, n0ltF, n_add, n_succ, n_sub, n_sub1, n_mul, cl_n, cl_0, one0, zer1, neg0F, ↓reduceIte, isO, rmK, Nat.reduceLT, eq_self, H0_1, l1, l2, r0, r1, r2, i1, i2, Nat.reduceLeDiff, e1, e2, e3, ↓kont_go 200]
def vkB (p v : Value) : Bool := match p, v with
  | .int _, .int _ => true
  | .long _, .long _ => true
  | .ref a, .ref b => a == b
  | .null, .ref _ => true
  | _, _ => false
def vkL : List Value → List Value → Bool
  | [], [] => true
  | p :: ps, v :: vs => vkB p v && vkL ps vs
  | _, _ => false
def saB (p c : AC) : Bool := match p, c with
  | .inr (ci, ps), .inr (cj, fs) => ci == cj && vkL ps fs
  | .inl (ty, n, .inl _), .inl (tz, m, .inl _) => decide (ty = tz) && n == m
  | .inl (ty, n, .inr (.inl _)), .inl (tz, m, .inr (.inl _)) => decide (ty = tz) && n == m
  | .inl (ty, n, .inr (.inr (.inr (.inr g)))), .inl (tz, m, .inr (.inr (.inr (.inr f)))) => decide (ty = tz) && (n == m && (List.range n).all fun i => match g i with
    | none => true
    | some x => f i == some x)
  | _, _ => false
def saL : List AC → List AC → Bool
  | [], _ => true
  | p :: ps, c :: cs => saB p c && saL ps cs
  | _ :: _, [] => false
theorem vkB_t {p v : Value} (q : vkB p v = true) : VK p v := by
  unfold vkB at q
  unfold VK
  split at q
  · trivial
  · trivial
  · exact eq_of_beq q
  · trivial
  · cases q
theorem vkL_t : ∀ (ps vs : List Value), vkL ps vs = true → vs.length = ps.length ∧ ∀ (k : Nat) (w : Value), ps[k]? = some w → ∃ v : Value, vs[k]? = some v ∧ VK w v
  | [], [], _ => ⟨rfl, fun k w h => by cases h⟩
  | [], _ :: _, q => by cases q
  | _ :: _, [], q => by cases q
  | p :: ps, v :: vs, q => by
    have q : (vkB p v && vkL ps vs) = true := q
    rw [Bool.and_eq_true] at q
    obtain ⟨a, b⟩ := vkL_t ps vs q.2
    refine ⟨by rw [List.length_cons, List.length_cons, a], fun k w h => ?_⟩
    cases k with
    | zero => cases h; exact ⟨v, rfl, vkB_t q.1⟩
    | succ k => exact b k w h
theorem saB_t {p c : AC} (q : saB p c = true) : SA p (some c) := by
  unfold saB at q
  split at q
  · rw [Bool.and_eq_true] at q
    have e := eq_of_beq q.1
    subst e
    obtain ⟨a, b⟩ := vkL_t _ _ q.2
    exact ⟨_, rfl, a, b⟩
  · rw [Bool.and_eq_true] at q
    have e := of_decide_eq_true q.1
    have e2 := eq_of_beq q.2
    subst e
    subst e2
    exact ⟨_, rfl⟩
  · rw [Bool.and_eq_true] at q
    have e := of_decide_eq_true q.1
    have e2 := eq_of_beq q.2
    subst e
    subst e2
    exact ⟨_, rfl⟩
  · rename_i ty n g tz m f
    rw [Bool.and_eq_true, Bool.and_eq_true] at q
    have e := of_decide_eq_true q.1
    have e2 := eq_of_beq q.2.1
    subst e
    subst e2
    refine ⟨_, rfl, fun i hi => ?_⟩
    have k := List.all_eq_true.mp q.2.2 i (List.mem_range.mpr hi)
    cases z : g i with
    | none => exact Or.inl rfl
    | some x =>
      rw [z] at k
      exact Or.inr (eq_of_beq k)
  · cases q
theorem saL_t : ∀ (ps cs : List AC), saL ps cs = true → ∀ (a : Nat) (p : AC), ps[a]? = some p → ∃ c : AC, cs[a]? = some c ∧ SA p (some c)
  | [], _, _, a, p, h => by cases h
  | _ :: _, [], q, _, _, _ => by cases q
  | p :: ps, c :: cs, q, a, w, h => by
    have q : (saB p c && saL ps cs) = true := q
    rw [Bool.and_eq_true] at q
    cases a with
    | zero => cases h; exact ⟨c, rfl, saB_t q.1⟩
    | succ a => exact saL_t ps cs q.2 a w h
set_option maxRecDepth 100000 in
theorem sa_ok : saL PL (LOd f g) = true := rfl
theorem LO_len : (LOd f g).length = 118 := rfl
theorem SH_0 : SH (HB (LOd f g) s (X0 L xs)) := ⟨by rw [hb_1, LO_len]; exact Nat.le_refl _, fun a p h => by
  obtain ⟨c, e, q⟩ := saL_t _ _ sa_ok a p h
  rw [hb_ag, e]
  exact q⟩
theorem ag_0 (ha : 118 ≤ a) : ag (HB (LOd f g) s (X0 L xs)) a = X0 L xs a := by
  rw [hb_ag, List.getElem?_eq_none (by rw [LO_len]; exact ha)]
  rfl
theorem ag_sc : ag (HB (LOd f g) s (X0 L xs)) 1048576 = some (.inl (.char, L, .inl xs)) := by
  rw [ag_0 (by decide)]
  rfl
theorem SX_0 : SX (HB (LOd f g) s (X0 L xs)) := fun t ht => by
  refine ⟨?_, ?_⟩
  · rw [ag_0 (by omega)]
    unfold X0
    rw [if_neg (by omega), if_neg (by omega), if_pos (by omega), show 1048577 + t + 6 = 1048583 + t by omega]
  · rw [ag_0 (by omega)]
    unfold X0
    rw [if_neg (by omega), if_neg (by omega), if_neg (by omega), if_pos (by omega), Nat.add_sub_cancel_left]
theorem hasC0 {h : AH} {c : Nat} (e0 : gj h c 0 = 0) (e1 : gj h c 1 = 0) (k : Nat) : hasC h c k = false := by
  unfold hasC
  rw [e0, e1]
  split
  · exact BitVec.getLsbD_zero
  · exact BitVec.getLsbD_zero
def g00 : GT := (0, 1024, 1, 0, 0, 1, false)
set_option maxRecDepth 100000 in
theorem Inv_0 (q : ∀ c, c < 128 → f c = -1 ∧ g c = -1) : Inv (HB (LOd f g) s (X0 L xs)) := by
  have z : ∀ i, ∃ s, s < 256 ∧ (fun _ : Nat => (0 : Int32)) i = nI s := fun i => ⟨0, by decide, rfl⟩
  have nz : ∀ {i : Nat} {P : Prop}, i < 0 → P := fun h => absurd h (Nat.not_lt_zero _)
  refine ⟨SH_0, SX_0, ⟨0, fun _ => 0, ⟨rfl, by decide, fun i hi => nz hi⟩, ⟨rfl, by decide, fun i hi => nz hi⟩, z⟩, ⟨[], ⟨rfl, by decide, fun i v hv => nomatch hv⟩, ⟨rfl, by decide, fun i v hv => nomatch hv⟩⟩, ⟨fun _ => 0, 0, ⟨rfl, by decide, fun i hi => nz hi⟩, ⟨rfl, by decide, fun i hi => nz hi⟩, fun t => ⟨by show (-2147483648 : Int) ≤ 0; decide, by show (0 : Int) < 2147483648; decide⟩⟩, ⟨[], ⟨rfl, by decide, fun i v hv => nomatch hv⟩, ⟨rfl, by decide, fun i v hv => nomatch hv⟩⟩, ⟨fun _ => 0, fun c hc => rfl, fun c hc => rfl⟩, ?_⟩
  have b0 : ∀ {a : Int}, a = 0 → bB a := fun e => by rw [e]; exact bB0
  refine ⟨0, -1, fun _ => (fun _ => (0, 0, 0, 0, 0), 0, 0, false), fun _ => (0, 0), g00, 0, fun _ => 0, 1, fun _ _ => false, 0, fun _ => 0, fun _ => 0, false, (fun _ => 0, fun _ => 0), ?_, ?_, ?_⟩
  · exact ⟨by decide, by decide, by decide, fun a => ⟨b0 rfl, b0 rfl⟩, rfl, ⟨by decide, by decide, by decide⟩, ⟨⟨by decide, by decide, by decide, by decide, by decide⟩, ⟨by decide, by decide, by decide, by decide, by decide⟩, by decide, by decide, fun z => (nomatch z), fun _ => ⟨rfl, rfl, rfl⟩⟩, by decide⟩
  · refine ⟨⟨rfl, rfl, fun i hi => nz hi⟩, ⟨fun a a1 a2 => ⟨rfl, rfl⟩, rfl⟩, ⟨⟨rfl, rfl, rfl⟩, ⟨rfl, rfl, rfl⟩, rfl⟩, rfl, ⟨rfl, by decide, by decide, rfl, fun j hj => rfl, fun j => ⟨by show (-1000000 : Int) ≤ 0; decide, by show (0 : Int) ≤ 1000000; decide⟩⟩, Cch.down (fun j hj => ?_) (by decide) rfl, fun s' hs c hc => ?_, ⟨⟨by decide, fun j hj => nz hj⟩, rfl, fun j hj => nz hj⟩, ⟨rfl, fun z => nomatch z⟩, ⟨30, 34, 38, ⟨Or.inl rfl, Or.inr (Or.inl rfl), Or.inr (Or.inr rfl), by decide, by decide, by decide⟩, rfl, rfl, rfl⟩, ⟨49, 50, Or.inl ⟨rfl, rfl⟩, rfl, rfl⟩⟩
    · rcases (by omega : j = 0 ∨ j = 1 ∨ j = 2 ∨ j = 3) with r | r | r | r <;> subst r <;> rfl
    · rw [Bool.and_false]
      rcases (by omega : s' = 0 ∨ s' = 1 ∨ s' = 2 ∨ s' = 3) with r | r | r | r <;> subst r <;> exact hasC0 rfl rfl c
  · refine ⟨⟨rfl, rfl, fun i hi => nz hi⟩, fun a a1 a2 => ⟨rfl, rfl⟩, ⟨rfl, rfl, rfl, rfl, rfl, rfl, rfl⟩, rfl, ⟨rfl, by decide, by decide, rfl, fun j hj => rfl, fun j => ⟨by show (-1000000 : Int) ≤ 0; decide, by show (0 : Int) ≤ 1000000; decide⟩⟩, fun s' hs c hc => rfl, ⟨⟨by decide, fun j hj => nz hj⟩, rfl, fun j hj => nz hj⟩, fun c hc => ?_⟩
    have hc : c < 1 := hc
    obtain ⟨q1, q2⟩ := q c (by omega)
    exact ⟨q1, q2⟩
end START
