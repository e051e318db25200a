set_option maxRecDepth 100000 in
theorem s310_0 {fu d : Nat} {lv : LV} {st : List Value} {h : AH} : aGo (fu + 1) d (310, 0, lv, st, h) = gT (h.1 < 700000) (aGo fu d (310, 3, lv, .ref h.1 :: st, an h 20 (cO 11 (DFT.getD 11 [])))) := (st_of (kmOf kt310 rfl : KM 310 0 = some (.new 8, 3, 11, 20, .null, none))).trans (RH_new)
set_option maxRecDepth 100000 in
theorem s310_3 {fu d : Nat} {lv : LV} {st : List Value} {h : AH} : aGo (fu + 1) d (310, 3, lv, st, h) = pV st fun x st => gT (x.category = 1) (aGo fu d (310, 4, lv, x :: x :: st, h)) := (st_of (kmOf kt310 rfl : KM 310 3 = some (.dup, 1, 0, 0, .null, none))).trans (RH_dup)
set_option maxRecDepth 100000 in
theorem s310_4 {fu d : Nat} {lv : LV} {st : List Value} {h : AH} : aGo (fu + 1) d (310, 4, lv, st, h) = ob (popN 1 st []) fun q => gT (isRf q.1 = true ∧ q.2.length ≤ 12 ∧ (layA q.1).length ≤ MX 117) (ob (aCall d 117 q.1 h) (kont d 310 (7) lv q.2)) := (st_of (kmOf kt310 rfl : KM 310 4 = some (.invokespecial 15, 3, 117, 1, .null, none))).trans (RH_invokespecial (by decide))
set_option maxRecDepth 100000 in
theorem s310_7 {fu d : Nat} {lv : LV} {st : List Value} {h : AH} : aGo (fu + 1) d (310, 7, lv, st, h) = pV st fun x st => gT (isR x = true) (aGo fu d (310, 8, ss1 lv 1 x, st, h)) := (st_of (kmOf kt310 rfl : KM 310 7 = some (.astore_n 1, 1, 0, 0, .null, none))).trans (RH_astore_n)
set_option maxRecDepth 100000 in
theorem s310_8 {fu d : Nat} {lv : LV} {st : List Value} {h : AH} : aGo (fu + 1) d (310, 8, lv, st, h) = gT (h.1 < 700000) (aGo fu d (310, 11, lv, .ref h.1 :: st, an h 74 (cO 12 (DFT.getD 12 [])))) := (st_of (kmOf kt310 rfl : KM 310 8 = some (.new 16, 3, 12, 74, .null, none))).trans (RH_new)
set_option maxRecDepth 100000 in
theorem s310_11 {fu d : Nat} {lv : LV} {st : List Value} {h : AH} : aGo (fu + 1) d (310, 11, lv, st, h) = pV st fun x st => gT (x.category = 1) (aGo fu d (310, 12, lv, x :: x :: st, h)) := (st_of (kmOf kt310 rfl : KM 310 11 = some (.dup, 1, 0, 0, .null, none))).trans (RH_dup)
set_option maxRecDepth 100000 in
theorem s310_12 {fu d : Nat} {lv : LV} {st : List Value} {h : AH} : aGo (fu + 1) d (310, 12, lv, st, h) = ob (popN 1 st []) fun q => gT (isRf q.1 = true ∧ q.2.length ≤ 12 ∧ (layA q.1).length ≤ MX 290) (ob (aCall d 290 q.1 h) (kont d 310 (15) lv q.2)) := (st_of (kmOf kt310 rfl : KM 310 12 = some (.invokespecial 18, 3, 290, 1, .null, none))).trans (RH_invokespecial (by decide))
set_option maxRecDepth 100000 in
theorem s310_15 {fu d : Nat} {lv : LV} {st : List Value} {h : AH} : aGo (fu + 1) d (310, 15, lv, st, h) = pV st fun x st => gT (isR x = true) (aGo fu d (310, 16, ss1 lv 2 x, st, h)) := (st_of (kmOf kt310 rfl : KM 310 15 = some (.astore_n 2, 1, 0, 0, .null, none))).trans (RH_astore_n)
set_option maxRecDepth 100000 in
theorem s310_16 {fu d : Nat} {lv : LV} {st : List Value} {h : AH} : aGo (fu + 1) d (310, 16, lv, st, h) = aGo fu d (310, 17, lv, (.int (1)) :: st, h) := (st_of (kmOf kt310 rfl : KM 310 16 = some (.iconst 1, 1, 0, 0, (.int (1)), none))).trans (RH_iconst)
set_option maxRecDepth 100000 in
theorem s310_17 {fu d : Nat} {lv : LV} {st : List Value} {h : AH} : aGo (fu + 1) d (310, 17, lv, st, h) = pI st fun n st => gT (h.1 < 700000 ∧ ¬ n < 0 ∧ cl n ≤ 20000) (aGo fu d (310, 19, lv, .ref h.1 :: st, an h (cl n) (cJ (cl n) (fun _ => 0)))) := (st_of (kmOf kt310 rfl : KM 310 17 = some (.newarray .long, 2, 0, 0, .null, none))).trans (RH_newarray_long)
set_option maxRecDepth 100000 in
theorem s310_19 {fu d : Nat} {lv : LV} {st : List Value} {h : AH} : aGo (fu + 1) d (310, 19, lv, st, h) = pV st fun x st => gT (isR x = true) (aGo fu d (310, 20, ss1 lv 3 x, st, h)) := (st_of (kmOf kt310 rfl : KM 310 19 = some (.astore_n 3, 1, 0, 0, .null, none))).trans (RH_astore_n)
set_option maxRecDepth 100000 in
theorem s310_20 {fu d : Nat} {lv : LV} {st : List Value} {h : AH} : aGo (fu + 1) d (310, 20, lv, st, h) = aGo fu d (310, 21, lv, (.int (0)) :: st, h) := (st_of (kmOf kt310 rfl : KM 310 20 = some (.iconst 0, 1, 0, 0, (.int (0)), none))).trans (RH_iconst)
set_option maxRecDepth 100000 in
theorem s310_21 {fu d : Nat} {lv : LV} {st : List Value} {h : AH} : aGo (fu + 1) d (310, 21, lv, st, h) = pI st fun x st => aGo fu d (310, 23, ss1 lv 4 (.int x), st, h) := (st_of (kmOf kt310 rfl : KM 310 21 = some (.istore 4, 2, 0, 0, .null, none))).trans (RH_istore)
set_option maxRecDepth 100000 in
theorem l310_23 {fu d : Nat} {lv : LV} {st : List Value} {h : AH} : aGo (fu + 1) d (310, 23, lv, st, h) = aAt d 310 23 (trimB [true, true, true, true, true, false, false] lv) st h := st_lb (kmOf kt310 rfl : KM 310 23 = some (.iload 4, 2, 0, 0, .null, (some [true, true, true, true, true, false, false])))
set_option maxRecDepth 100000 in
theorem u310_23 (fu : Nat) {d : Nat} {lv : LV} {st : List Value} {h : AH} : aAt d 310 23 lv st h = lI (ld (trimB [true, true, true, true, true, false, false] lv) 4) fun x => aGo fu d (310, 25, (trimB [true, true, true, true, true, false, false] lv), .int x :: st, h) := (st_at (kmOf kt310 rfl : KM 310 23 = some (.iload 4, 2, 0, 0, .null, (some [true, true, true, true, true, false, false])))).trans (RH_iload)
set_option maxRecDepth 100000 in
theorem s310_25 {fu d : Nat} {lv : LV} {st : List Value} {h : AH} : aGo (fu + 1) d (310, 25, lv, st, h) = lR (ld lv 0) fun x => aGo fu d (310, 26, lv, x :: st, h) := (st_of (kmOf kt310 rfl : KM 310 25 = some (.aload_n 0, 1, 0, 0, .null, none))).trans (RH_aload_n)
set_option maxRecDepth 100000 in
theorem s310_26 {fu d : Nat} {lv : LV} {st : List Value} {h : AH} : aGo (fu + 1) d (310, 26, lv, st, h) = pR st fun r st => hLen h r fun n => aGo fu d (310, 27, lv, .int (nI n) :: st, h) := (st_of (kmOf kt310 rfl : KM 310 26 = some (.arraylength, 1, 0, 0, .null, none))).trans (RH_arraylength)
set_option maxRecDepth 100000 in
theorem s310_27 {fu d : Nat} {lv : LV} {st : List Value} {h : AH} : aGo (fu + 1) d (310, 27, lv, st, h) = aGo fu d (310, 29, lv, (.int (7)) :: st, h) := (st_of (kmOf kt310 rfl : KM 310 27 = some (.bipush 7, 2, 0, 0, (.int (7)), none))).trans (RH_bipush)
set_option maxRecDepth 100000 in
theorem s310_29 {fu d : Nat} {lv : LV} {st : List Value} {h : AH} : aGo (fu + 1) d (310, 29, lv, st, h) = pI st fun y st => pI st fun x st => aGo fu d (310, 30, lv, .int (x - y) :: st, h) := (st_of (kmOf kt310 rfl : KM 310 29 = some (.isub, 1, 0, 0, .null, none))).trans (RH_isub)
set_option maxRecDepth 100000 in
theorem s310_30 {fu d : Nat} {lv : LV} {st : List Value} {h : AH} : aGo (fu + 1) d (310, 30, lv, st, h) = pI st fun y st => pI st fun x st => if y < x then aGo fu d (310, 2001, lv, st, h) else aGo fu d (310, 33, lv, st, h) := (st_of (kmOf kt310 rfl : KM 310 30 = some (.if_icmp .gt 1971, 3, 2001, 0, .null, none))).trans (RH_icmp_gt)
set_option maxRecDepth 100000 in
theorem s310_33 {fu d : Nat} {lv : LV} {st : List Value} {h : AH} : aGo (fu + 1) d (310, 33, lv, st, h) = lR (ld lv 0) fun x => aGo fu d (310, 34, lv, x :: st, h) := (st_of (kmOf kt310 rfl : KM 310 33 = some (.aload_n 0, 1, 0, 0, .null, none))).trans (RH_aload_n)
set_option maxRecDepth 100000 in
theorem s310_34 {fu d : Nat} {lv : LV} {st : List Value} {h : AH} : aGo (fu + 1) d (310, 34, lv, st, h) = lI (ld lv 4) fun x => aGo fu d (310, 36, lv, .int x :: st, h) := (st_of (kmOf kt310 rfl : KM 310 34 = some (.iload 4, 2, 0, 0, .null, none))).trans (RH_iload)
set_option maxRecDepth 100000 in
theorem s310_36 {fu d : Nat} {lv : LV} {st : List Value} {h : AH} : aGo (fu + 1) d (310, 36, lv, st, h) = pI st fun i st => pR st fun r st => hIld h r i fun x => aGo fu d (310, 37, lv, .int x :: st, h) := (st_of (kmOf kt310 rfl : KM 310 36 = some (.iaload, 1, 0, 0, .null, none))).trans (RH_iaload)
set_option maxRecDepth 100000 in
theorem s310_37 {fu d : Nat} {lv : LV} {st : List Value} {h : AH} : aGo (fu + 1) d (310, 37, lv, st, h) = aGo fu d (310, 39, lv, (.int (63)) :: st, h) := (st_of (kmOf kt310 rfl : KM 310 37 = some (.bipush 63, 2, 0, 0, (.int (63)), none))).trans (RH_bipush)
set_option maxRecDepth 100000 in
theorem s310_39 {fu d : Nat} {lv : LV} {st : List Value} {h : AH} : aGo (fu + 1) d (310, 39, lv, st, h) = pI st fun y st => pI st fun x st => aGo fu d (310, 40, lv, .int (x &&& y) :: st, h) := (st_of (kmOf kt310 rfl : KM 310 39 = some (.iand, 1, 0, 0, .null, none))).trans (RH_iand)
set_option maxRecDepth 100000 in
theorem s310_40 {fu d : Nat} {lv : LV} {st : List Value} {h : AH} : aGo (fu + 1) d (310, 40, lv, st, h) = pI st fun x st => ob (swT 40 1955 0 48 #[212, 237, 262, 275, 300, 349, 374, 435, 460, 521, 594, 631, 680, 767, 792, 805, 830, 855, 880, 917, 982, 1031, 1056, 1093, 1130, 1179, 1204, 1217, 1242, 1279, 1316, 1341, 1378, 1415, 1440, 1477, 1514, 1551, 1589, 1626, 1675, 1700, 1725, 1762, 1799, 1824, 1837, 1862, 1899] x) fun t => aGo fu d (310, t, lv, st, h) := (st_of (kmOf kt310 rfl : KM 310 40 = some (.tableswitch 1955 0 48 #[212, 237, 262, 275, 300, 349, 374, 435, 460, 521, 594, 631, 680, 767, 792, 805, 830, 855, 880, 917, 982, 1031, 1056, 1093, 1130, 1179, 1204, 1217, 1242, 1279, 1316, 1341, 1378, 1415, 1440, 1477, 1514, 1551, 1589, 1626, 1675, 1700, 1725, 1762, 1799, 1824, 1837, 1862, 1899], 212, 0, 0, .null, none))).trans (RH_tableswitch)
set_option maxRecDepth 100000 in
theorem s310_252 {fu d : Nat} {lv : LV} {st : List Value} {h : AH} : aGo (fu + 1) d (310, 252, lv, st, h) = lR (ld lv 1) fun x => aGo fu d (310, 253, lv, x :: st, h) := (st_of (kmOf kt310 rfl : KM 310 252 = some (.aload_n 1, 1, 0, 0, .null, none))).trans (RH_aload_n)
set_option maxRecDepth 100000 in
theorem s310_253 {fu d : Nat} {lv : LV} {st : List Value} {h : AH} : aGo (fu + 1) d (310, 253, lv, st, h) = lR (ld lv 0) fun x => aGo fu d (310, 254, lv, x :: st, h) := (st_of (kmOf kt310 rfl : KM 310 253 = some (.aload_n 0, 1, 0, 0, .null, none))).trans (RH_aload_n)
set_option maxRecDepth 100000 in
theorem s310_254 {fu d : Nat} {lv : LV} {st : List Value} {h : AH} : aGo (fu + 1) d (310, 254, lv, st, h) = lI (ld lv 4) fun x => aGo fu d (310, 256, lv, .int x :: st, h) := (st_of (kmOf kt310 rfl : KM 310 254 = some (.iload 4, 2, 0, 0, .null, none))).trans (RH_iload)
set_option maxRecDepth 100000 in
theorem s310_256 {fu d : Nat} {lv : LV} {st : List Value} {h : AH} : aGo (fu + 1) d (310, 256, lv, st, h) = aGo fu d (310, 257, lv, (.int (1)) :: st, h) := (st_of (kmOf kt310 rfl : KM 310 256 = some (.iconst 1, 1, 0, 0, (.int (1)), none))).trans (RH_iconst)
set_option maxRecDepth 100000 in
theorem s310_257 {fu d : Nat} {lv : LV} {st : List Value} {h : AH} : aGo (fu + 1) d (310, 257, lv, st, h) = pI st fun y st => pI st fun x st => aGo fu d (310, 258, lv, .int (x + y) :: st, h) := (st_of (kmOf kt310 rfl : KM 310 257 = some (.iadd, 1, 0, 0, .null, none))).trans (RH_iadd)
set_option maxRecDepth 100000 in
theorem s310_258 {fu d : Nat} {lv : LV} {st : List Value} {h : AH} : aGo (fu + 1) d (310, 258, lv, st, h) = pI st fun i st => pR st fun r st => hIld h r i fun x => aGo fu d (310, 259, lv, .int x :: st, h) := (st_of (kmOf kt310 rfl : KM 310 258 = some (.iaload, 1, 0, 0, .null, none))).trans (RH_iaload)
set_option maxRecDepth 100000 in
theorem s310_259 {fu d : Nat} {lv : LV} {st : List Value} {h : AH} : aGo (fu + 1) d (310, 259, lv, st, h) = ob (popN 2 st []) fun q => gT (isO h 11 q.1 = true ∧ q.2.length ≤ 12 ∧ (layA q.1).length ≤ MX 118) (ob (aCall d 118 q.1 h) (kont d 310 (262) lv q.2)) := (st_of (kmOf kt310 rfl : KM 310 259 = some (.invokevirtual 19, 3, 118, 2, (.retAddr 11), none))).trans (RH_invokevirtual (by decide))
set_option maxRecDepth 100000 in
theorem s310_262 {fu d : Nat} {lv : LV} {st : List Value} {h : AH} : aGo (fu + 1) d (310, 262, lv, st, h) = lR (ld lv 2) fun x => aGo fu d (310, 263, lv, x :: st, h) := (st_of (kmOf kt310 rfl : KM 310 262 = some (.aload_n 2, 1, 0, 0, .null, none))).trans (RH_aload_n)
set_option maxRecDepth 100000 in
theorem s310_263 {fu d : Nat} {lv : LV} {st : List Value} {h : AH} : aGo (fu + 1) d (310, 263, lv, st, h) = lR (ld lv 0) fun x => aGo fu d (310, 264, lv, x :: st, h) := (st_of (kmOf kt310 rfl : KM 310 263 = some (.aload_n 0, 1, 0, 0, .null, none))).trans (RH_aload_n)
set_option maxRecDepth 100000 in
theorem s310_264 {fu d : Nat} {lv : LV} {st : List Value} {h : AH} : aGo (fu + 1) d (310, 264, lv, st, h) = lI (ld lv 4) fun x => aGo fu d (310, 266, lv, .int x :: st, h) := (st_of (kmOf kt310 rfl : KM 310 264 = some (.iload 4, 2, 0, 0, .null, none))).trans (RH_iload)
set_option maxRecDepth 100000 in
theorem s310_266 {fu d : Nat} {lv : LV} {st : List Value} {h : AH} : aGo (fu + 1) d (310, 266, lv, st, h) = aGo fu d (310, 267, lv, (.int (1)) :: st, h) := (st_of (kmOf kt310 rfl : KM 310 266 = some (.iconst 1, 1, 0, 0, (.int (1)), none))).trans (RH_iconst)
set_option maxRecDepth 100000 in
theorem s310_267 {fu d : Nat} {lv : LV} {st : List Value} {h : AH} : aGo (fu + 1) d (310, 267, lv, st, h) = pI st fun y st => pI st fun x st => aGo fu d (310, 268, lv, .int (x + y) :: st, h) := (st_of (kmOf kt310 rfl : KM 310 267 = some (.iadd, 1, 0, 0, .null, none))).trans (RH_iadd)
set_option maxRecDepth 100000 in
theorem s310_268 {fu d : Nat} {lv : LV} {st : List Value} {h : AH} : aGo (fu + 1) d (310, 268, lv, st, h) = pI st fun i st => pR st fun r st => hIld h r i fun x => aGo fu d (310, 269, lv, .int x :: st, h) := (st_of (kmOf kt310 rfl : KM 310 268 = some (.iaload, 1, 0, 0, .null, none))).trans (RH_iaload)
set_option maxRecDepth 100000 in
theorem s310_269 {fu d : Nat} {lv : LV} {st : List Value} {h : AH} : aGo (fu + 1) d (310, 269, lv, st, h) = ob (popN 2 st []) fun q => gT (isO h 12 q.1 = true ∧ q.2.length ≤ 12 ∧ (layA q.1).length ≤ MX 191) (ob (aCall d 191 q.1 h) (kont d 310 (272) lv q.2)) := (st_of (kmOf kt310 rfl : KM 310 269 = some (.invokevirtual 22, 3, 191, 2, (.retAddr 12), none))).trans (RH_invokevirtual (by decide))
set_option maxRecDepth 100000 in
theorem s310_272 {fu d : Nat} {lv : LV} {st : List Value} {h : AH} : aGo (fu + 1) d (310, 272, lv, st, h) = pI st fun y st => pI st fun x st => if x = y then aGo fu d (310, 1995, lv, st, h) else aGo fu d (310, 275, lv, st, h) := (st_of (kmOf kt310 rfl : KM 310 272 = some (.if_icmp .eq 1723, 3, 1995, 0, .null, none))).trans (RH_icmp_eq)
set_option maxRecDepth 100000 in
theorem s310_275 {fu d : Nat} {lv : LV} {st : List Value} {h : AH} : aGo (fu + 1) d (310, 275, lv, st, h) = aGo fu d (310, 276, lv, (.int (0)) :: st, h) := (st_of (kmOf kt310 rfl : KM 310 275 = some (.iconst 0, 1, 0, 0, (.int (0)), none))).trans (RH_iconst)
set_option maxRecDepth 100000 in
theorem s310_276 {fu d : Nat} {lv : LV} {st : List Value} {h : AH} : aGo (fu + 1) d (310, 276, lv, st, h) = match st with | [.int x] => gT ((1 = 1 → x = 0 ∨ x = 1) ∧ (1 = 2 → x.toInt8.toInt32 = x)) (some (some (.int x), h)) | _ => none := (st_of (kmOf kt310 rfl : KM 310 276 = some (.ireturn, 1, 1, 0, .null, none))).trans (RH_ireturn)
set_option maxRecDepth 100000 in
theorem s310_277 {fu d : Nat} {lv : LV} {st : List Value} {h : AH} : aGo (fu + 1) d (310, 277, lv, st, h) = lR (ld lv 1) fun x => aGo fu d (310, 278, lv, x :: st, h) := (st_of (kmOf kt310 rfl : KM 310 277 = some (.aload_n 1, 1, 0, 0, .null, none))).trans (RH_aload_n)
set_option maxRecDepth 100000 in
theorem s310_278 {fu d : Nat} {lv : LV} {st : List Value} {h : AH} : aGo (fu + 1) d (310, 278, lv, st, h) = lR (ld lv 0) fun x => aGo fu d (310, 279, lv, x :: st, h) := (st_of (kmOf kt310 rfl : KM 310 278 = some (.aload_n 0, 1, 0, 0, .null, none))).trans (RH_aload_n)
set_option maxRecDepth 100000 in
theorem s310_279 {fu d : Nat} {lv : LV} {st : List Value} {h : AH} : aGo (fu + 1) d (310, 279, lv, st, h) = lI (ld lv 4) fun x => aGo fu d (310, 281, lv, .int x :: st, h) := (st_of (kmOf kt310 rfl : KM 310 279 = some (.iload 4, 2, 0, 0, .null, none))).trans (RH_iload)
set_option maxRecDepth 100000 in
theorem s310_281 {fu d : Nat} {lv : LV} {st : List Value} {h : AH} : aGo (fu + 1) d (310, 281, lv, st, h) = aGo fu d (310, 282, lv, (.int (1)) :: st, h) := (st_of (kmOf kt310 rfl : KM 310 281 = some (.iconst 1, 1, 0, 0, (.int (1)), none))).trans (RH_iconst)
set_option maxRecDepth 100000 in
theorem s310_282 {fu d : Nat} {lv : LV} {st : List Value} {h : AH} : aGo (fu + 1) d (310, 282, lv, st, h) = pI st fun y st => pI st fun x st => aGo fu d (310, 283, lv, .int (x + y) :: st, h) := (st_of (kmOf kt310 rfl : KM 310 282 = some (.iadd, 1, 0, 0, .null, none))).trans (RH_iadd)
set_option maxRecDepth 100000 in
theorem s310_283 {fu d : Nat} {lv : LV} {st : List Value} {h : AH} : aGo (fu + 1) d (310, 283, lv, st, h) = pI st fun i st => pR st fun r st => hIld h r i fun x => aGo fu d (310, 284, lv, .int x :: st, h) := (st_of (kmOf kt310 rfl : KM 310 283 = some (.iaload, 1, 0, 0, .null, none))).trans (RH_iaload)
set_option maxRecDepth 100000 in
theorem s310_284 {fu d : Nat} {lv : LV} {st : List Value} {h : AH} : aGo (fu + 1) d (310, 284, lv, st, h) = ob (popN 2 st []) fun q => gT (isO h 11 q.1 = true ∧ q.2.length ≤ 12 ∧ (layA q.1).length ≤ MX 119) (ob (aCall d 119 q.1 h) (kont d 310 (287) lv q.2)) := (st_of (kmOf kt310 rfl : KM 310 284 = some (.invokevirtual 23, 3, 119, 2, (.retAddr 11), none))).trans (RH_invokevirtual (by decide))
set_option maxRecDepth 100000 in
theorem s310_287 {fu d : Nat} {lv : LV} {st : List Value} {h : AH} : aGo (fu + 1) d (310, 287, lv, st, h) = lR (ld lv 2) fun x => aGo fu d (310, 288, lv, x :: st, h) := (st_of (kmOf kt310 rfl : KM 310 287 = some (.aload_n 2, 1, 0, 0, .null, none))).trans (RH_aload_n)
set_option maxRecDepth 100000 in
theorem s310_288 {fu d : Nat} {lv : LV} {st : List Value} {h : AH} : aGo (fu + 1) d (310, 288, lv, st, h) = lR (ld lv 0) fun x => aGo fu d (310, 289, lv, x :: st, h) := (st_of (kmOf kt310 rfl : KM 310 288 = some (.aload_n 0, 1, 0, 0, .null, none))).trans (RH_aload_n)
set_option maxRecDepth 100000 in
theorem s310_289 {fu d : Nat} {lv : LV} {st : List Value} {h : AH} : aGo (fu + 1) d (310, 289, lv, st, h) = lI (ld lv 4) fun x => aGo fu d (310, 291, lv, .int x :: st, h) := (st_of (kmOf kt310 rfl : KM 310 289 = some (.iload 4, 2, 0, 0, .null, none))).trans (RH_iload)
set_option maxRecDepth 100000 in
theorem s310_291 {fu d : Nat} {lv : LV} {st : List Value} {h : AH} : aGo (fu + 1) d (310, 291, lv, st, h) = aGo fu d (310, 292, lv, (.int (1)) :: st, h) := (st_of (kmOf kt310 rfl : KM 310 291 = some (.iconst 1, 1, 0, 0, (.int (1)), none))).trans (RH_iconst)
set_option maxRecDepth 100000 in
theorem s310_292 {fu d : Nat} {lv : LV} {st : List Value} {h : AH} : aGo (fu + 1) d (310, 292, lv, st, h) = pI st fun y st => pI st fun x st => aGo fu d (310, 293, lv, .int (x + y) :: st, h) := (st_of (kmOf kt310 rfl : KM 310 292 = some (.iadd, 1, 0, 0, .null, none))).trans (RH_iadd)
set_option maxRecDepth 100000 in
theorem s310_293 {fu d : Nat} {lv : LV} {st : List Value} {h : AH} : aGo (fu + 1) d (310, 293, lv, st, h) = pI st fun i st => pR st fun r st => hIld h r i fun x => aGo fu d (310, 294, lv, .int x :: st, h) := (st_of (kmOf kt310 rfl : KM 310 293 = some (.iaload, 1, 0, 0, .null, none))).trans (RH_iaload)
set_option maxRecDepth 100000 in
theorem s310_294 {fu d : Nat} {lv : LV} {st : List Value} {h : AH} : aGo (fu + 1) d (310, 294, lv, st, h) = ob (popN 2 st []) fun q => gT (isO h 12 q.1 = true ∧ q.2.length ≤ 12 ∧ (layA q.1).length ≤ MX 192) (ob (aCall d 192 q.1 h) (kont d 310 (297) lv q.2)) := (st_of (kmOf kt310 rfl : KM 310 294 = some (.invokevirtual 27, 3, 192, 2, (.retAddr 12), none))).trans (RH_invokevirtual (by decide))
set_option maxRecDepth 100000 in
theorem s310_297 {fu d : Nat} {lv : LV} {st : List Value} {h : AH} : aGo (fu + 1) d (310, 297, lv, st, h) = pI st fun y st => pI st fun x st => if x = y then aGo fu d (310, 1995, lv, st, h) else aGo fu d (310, 300, lv, st, h) := (st_of (kmOf kt310 rfl : KM 310 297 = some (.if_icmp .eq 1698, 3, 1995, 0, .null, none))).trans (RH_icmp_eq)
set_option maxRecDepth 100000 in
theorem s310_300 {fu d : Nat} {lv : LV} {st : List Value} {h : AH} : aGo (fu + 1) d (310, 300, lv, st, h) = aGo fu d (310, 301, lv, (.int (0)) :: st, h) := (st_of (kmOf kt310 rfl : KM 310 300 = some (.iconst 0, 1, 0, 0, (.int (0)), none))).trans (RH_iconst)
set_option maxRecDepth 100000 in
theorem s310_301 {fu d : Nat} {lv : LV} {st : List Value} {h : AH} : aGo (fu + 1) d (310, 301, lv, st, h) = match st with | [.int x] => gT ((1 = 1 → x = 0 ∨ x = 1) ∧ (1 = 2 → x.toInt8.toInt32 = x)) (some (some (.int x), h)) | _ => none := (st_of (kmOf kt310 rfl : KM 310 301 = some (.ireturn, 1, 1, 0, .null, none))).trans (RH_ireturn)
set_option maxRecDepth 100000 in
theorem s310_302 {fu d : Nat} {lv : LV} {st : List Value} {h : AH} : aGo (fu + 1) d (310, 302, lv, st, h) = lR (ld lv 1) fun x => aGo fu d (310, 303, lv, x :: st, h) := (st_of (kmOf kt310 rfl : KM 310 302 = some (.aload_n 1, 1, 0, 0, .null, none))).trans (RH_aload_n)
set_option maxRecDepth 100000 in
theorem s310_303 {fu d : Nat} {lv : LV} {st : List Value} {h : AH} : aGo (fu + 1) d (310, 303, lv, st, h) = ob (popN 1 st []) fun q => gT (isO h 11 q.1 = true ∧ q.2.length ≤ 12 ∧ (layA q.1).length ≤ MX 120) (ob (aCall d 120 q.1 h) (kont d 310 (306) lv q.2)) := (st_of (kmOf kt310 rfl : KM 310 303 = some (.invokevirtual 28, 3, 120, 1, (.retAddr 11), none))).trans (RH_invokevirtual (by decide))
set_option maxRecDepth 100000 in
theorem s310_306 {fu d : Nat} {lv : LV} {st : List Value} {h : AH} : aGo (fu + 1) d (310, 306, lv, st, h) = lR (ld lv 2) fun x => aGo fu d (310, 307, lv, x :: st, h) := (st_of (kmOf kt310 rfl : KM 310 306 = some (.aload_n 2, 1, 0, 0, .null, none))).trans (RH_aload_n)
set_option maxRecDepth 100000 in
theorem s310_307 {fu d : Nat} {lv : LV} {st : List Value} {h : AH} : aGo (fu + 1) d (310, 307, lv, st, h) = ob (popN 1 st []) fun q => gT (isO h 12 q.1 = true ∧ q.2.length ≤ 12 ∧ (layA q.1).length ≤ MX 202) (ob (aCall d 202 q.1 h) (kont d 310 (310) lv q.2)) := (st_of (kmOf kt310 rfl : KM 310 307 = some (.invokevirtual 32, 3, 202, 1, (.retAddr 12), none))).trans (RH_invokevirtual (by decide))
set_option maxRecDepth 100000 in
theorem s310_310 {fu d : Nat} {lv : LV} {st : List Value} {h : AH} : aGo (fu + 1) d (310, 310, lv, st, h) = pI st fun y st => pI st fun x st => if x = y then aGo fu d (310, 1995, lv, st, h) else aGo fu d (310, 313, lv, st, h) := (st_of (kmOf kt310 rfl : KM 310 310 = some (.if_icmp .eq 1685, 3, 1995, 0, .null, none))).trans (RH_icmp_eq)
set_option maxRecDepth 100000 in
theorem s310_313 {fu d : Nat} {lv : LV} {st : List Value} {h : AH} : aGo (fu + 1) d (310, 313, lv, st, h) = aGo fu d (310, 314, lv, (.int (0)) :: st, h) := (st_of (kmOf kt310 rfl : KM 310 313 = some (.iconst 0, 1, 0, 0, (.int (0)), none))).trans (RH_iconst)
set_option maxRecDepth 100000 in
theorem s310_314 {fu d : Nat} {lv : LV} {st : List Value} {h : AH} : aGo (fu + 1) d (310, 314, lv, st, h) = match st with | [.int x] => gT ((1 = 1 → x = 0 ∨ x = 1) ∧ (1 = 2 → x.toInt8.toInt32 = x)) (some (some (.int x), h)) | _ => none := (st_of (kmOf kt310 rfl : KM 310 314 = some (.ireturn, 1, 1, 0, .null, none))).trans (RH_ireturn)
set_option maxRecDepth 100000 in
theorem s310_315 {fu d : Nat} {lv : LV} {st : List Value} {h : AH} : aGo (fu + 1) d (310, 315, lv, st, h) = lR (ld lv 1) fun x => aGo fu d (310, 316, lv, x :: st, h) := (st_of (kmOf kt310 rfl : KM 310 315 = some (.aload_n 1, 1, 0, 0, .null, none))).trans (RH_aload_n)
set_option maxRecDepth 100000 in
theorem s310_316 {fu d : Nat} {lv : LV} {st : List Value} {h : AH} : aGo (fu + 1) d (310, 316, lv, st, h) = lR (ld lv 0) fun x => aGo fu d (310, 317, lv, x :: st, h) := (st_of (kmOf kt310 rfl : KM 310 316 = some (.aload_n 0, 1, 0, 0, .null, none))).trans (RH_aload_n)
set_option maxRecDepth 100000 in
theorem s310_317 {fu d : Nat} {lv : LV} {st : List Value} {h : AH} : aGo (fu + 1) d (310, 317, lv, st, h) = lI (ld lv 4) fun x => aGo fu d (310, 319, lv, .int x :: st, h) := (st_of (kmOf kt310 rfl : KM 310 317 = some (.iload 4, 2, 0, 0, .null, none))).trans (RH_iload)
set_option maxRecDepth 100000 in
theorem s310_319 {fu d : Nat} {lv : LV} {st : List Value} {h : AH} : aGo (fu + 1) d (310, 319, lv, st, h) = aGo fu d (310, 320, lv, (.int (1)) :: st, h) := (st_of (kmOf kt310 rfl : KM 310 319 = some (.iconst 1, 1, 0, 0, (.int (1)), none))).trans (RH_iconst)
set_option maxRecDepth 100000 in
theorem s310_320 {fu d : Nat} {lv : LV} {st : List Value} {h : AH} : aGo (fu + 1) d (310, 320, lv, st, h) = pI st fun y st => pI st fun x st => aGo fu d (310, 321, lv, .int (x + y) :: st, h) := (st_of (kmOf kt310 rfl : KM 310 320 = some (.iadd, 1, 0, 0, .null, none))).trans (RH_iadd)
set_option maxRecDepth 100000 in
theorem s310_321 {fu d : Nat} {lv : LV} {st : List Value} {h : AH} : aGo (fu + 1) d (310, 321, lv, st, h) = pI st fun i st => pR st fun r st => hIld h r i fun x => aGo fu d (310, 322, lv, .int x :: st, h) := (st_of (kmOf kt310 rfl : KM 310 321 = some (.iaload, 1, 0, 0, .null, none))).trans (RH_iaload)
set_option maxRecDepth 100000 in
theorem s310_322 {fu d : Nat} {lv : LV} {st : List Value} {h : AH} : aGo (fu + 1) d (310, 322, lv, st, h) = ob (popN 2 st []) fun q => gT (isO h 11 q.1 = true ∧ q.2.length ≤ 12 ∧ (layA q.1).length ≤ MX 121) (ob (aCall d 121 q.1 h) (kont d 310 (325) lv q.2)) := (st_of (kmOf kt310 rfl : KM 310 322 = some (.invokevirtual 33, 3, 121, 2, (.retAddr 11), none))).trans (RH_invokevirtual (by decide))
set_option maxRecDepth 100000 in
theorem s310_325 {fu d : Nat} {lv : LV} {st : List Value} {h : AH} : aGo (fu + 1) d (310, 325, lv, st, h) = lR (ld lv 2) fun x => aGo fu d (310, 326, lv, x :: st, h) := (st_of (kmOf kt310 rfl : KM 310 325 = some (.aload_n 2, 1, 0, 0, .null, none))).trans (RH_aload_n)
set_option maxRecDepth 100000 in
theorem s310_326 {fu d : Nat} {lv : LV} {st : List Value} {h : AH} : aGo (fu + 1) d (310, 326, lv, st, h) = lR (ld lv 0) fun x => aGo fu d (310, 327, lv, x :: st, h) := (st_of (kmOf kt310 rfl : KM 310 326 = some (.aload_n 0, 1, 0, 0, .null, none))).trans (RH_aload_n)
set_option maxRecDepth 100000 in
theorem s310_327 {fu d : Nat} {lv : LV} {st : List Value} {h : AH} : aGo (fu + 1) d (310, 327, lv, st, h) = lI (ld lv 4) fun x => aGo fu d (310, 329, lv, .int x :: st, h) := (st_of (kmOf kt310 rfl : KM 310 327 = some (.iload 4, 2, 0, 0, .null, none))).trans (RH_iload)
set_option maxRecDepth 100000 in
theorem s310_329 {fu d : Nat} {lv : LV} {st : List Value} {h : AH} : aGo (fu + 1) d (310, 329, lv, st, h) = aGo fu d (310, 330, lv, (.int (1)) :: st, h) := (st_of (kmOf kt310 rfl : KM 310 329 = some (.iconst 1, 1, 0, 0, (.int (1)), none))).trans (RH_iconst)
set_option maxRecDepth 100000 in
theorem s310_330 {fu d : Nat} {lv : LV} {st : List Value} {h : AH} : aGo (fu + 1) d (310, 330, lv, st, h) = pI st fun y st => pI st fun x st => aGo fu d (310, 331, lv, .int (x + y) :: st, h) := (st_of (kmOf kt310 rfl : KM 310 330 = some (.iadd, 1, 0, 0, .null, none))).trans (RH_iadd)
set_option maxRecDepth 100000 in
theorem s310_331 {fu d : Nat} {lv : LV} {st : List Value} {h : AH} : aGo (fu + 1) d (310, 331, lv, st, h) = pI st fun i st => pR st fun r st => hIld h r i fun x => aGo fu d (310, 332, lv, .int x :: st, h) := (st_of (kmOf kt310 rfl : KM 310 331 = some (.iaload, 1, 0, 0, .null, none))).trans (RH_iaload)
set_option maxRecDepth 100000 in
theorem s310_332 {fu d : Nat} {lv : LV} {st : List Value} {h : AH} : aGo (fu + 1) d (310, 332, lv, st, h) = ob (popN 2 st []) fun q => gT (isO h 12 q.1 = true ∧ q.2.length ≤ 12 ∧ (layA q.1).length ≤ MX 203) (ob (aCall d 203 q.1 h) (kont d 310 (335) lv q.2)) := (st_of (kmOf kt310 rfl : KM 310 332 = some (.invokevirtual 36, 3, 203, 2, (.retAddr 12), none))).trans (RH_invokevirtual (by decide))
set_option maxRecDepth 100000 in
theorem s310_335 {fu d : Nat} {lv : LV} {st : List Value} {h : AH} : aGo (fu + 1) d (310, 335, lv, st, h) = pI st fun y st => pI st fun x st => if x = y then aGo fu d (310, 1995, lv, st, h) else aGo fu d (310, 338, lv, st, h) := (st_of (kmOf kt310 rfl : KM 310 335 = some (.if_icmp .eq 1660, 3, 1995, 0, .null, none))).trans (RH_icmp_eq)
set_option maxRecDepth 100000 in
theorem s310_338 {fu d : Nat} {lv : LV} {st : List Value} {h : AH} : aGo (fu + 1) d (310, 338, lv, st, h) = aGo fu d (310, 339, lv, (.int (0)) :: st, h) := (st_of (kmOf kt310 rfl : KM 310 338 = some (.iconst 0, 1, 0, 0, (.int (0)), none))).trans (RH_iconst)
set_option maxRecDepth 100000 in
theorem s310_339 {fu d : Nat} {lv : LV} {st : List Value} {h : AH} : aGo (fu + 1) d (310, 339, lv, st, h) = match st with | [.int x] => gT ((1 = 1 → x = 0 ∨ x = 1) ∧ (1 = 2 → x.toInt8.toInt32 = x)) (some (some (.int x), h)) | _ => none := (st_of (kmOf kt310 rfl : KM 310 339 = some (.ireturn, 1, 1, 0, .null, none))).trans (RH_ireturn)
set_option maxRecDepth 100000 in
theorem s310_340 {fu d : Nat} {lv : LV} {st : List Value} {h : AH} : aGo (fu + 1) d (310, 340, lv, st, h) = lR (ld lv 1) fun x => aGo fu d (310, 341, lv, x :: st, h) := (st_of (kmOf kt310 rfl : KM 310 340 = some (.aload_n 1, 1, 0, 0, .null, none))).trans (RH_aload_n)
set_option maxRecDepth 100000 in
theorem s310_341 {fu d : Nat} {lv : LV} {st : List Value} {h : AH} : aGo (fu + 1) d (310, 341, lv, st, h) = lR (ld lv 0) fun x => aGo fu d (310, 342, lv, x :: st, h) := (st_of (kmOf kt310 rfl : KM 310 341 = some (.aload_n 0, 1, 0, 0, .null, none))).trans (RH_aload_n)
set_option maxRecDepth 100000 in
theorem s310_342 {fu d : Nat} {lv : LV} {st : List Value} {h : AH} : aGo (fu + 1) d (310, 342, lv, st, h) = lI (ld lv 4) fun x => aGo fu d (310, 344, lv, .int x :: st, h) := (st_of (kmOf kt310 rfl : KM 310 342 = some (.iload 4, 2, 0, 0, .null, none))).trans (RH_iload)
set_option maxRecDepth 100000 in
theorem s310_344 {fu d : Nat} {lv : LV} {st : List Value} {h : AH} : aGo (fu + 1) d (310, 344, lv, st, h) = aGo fu d (310, 345, lv, (.int (1)) :: st, h) := (st_of (kmOf kt310 rfl : KM 310 344 = some (.iconst 1, 1, 0, 0, (.int (1)), none))).trans (RH_iconst)
set_option maxRecDepth 100000 in
theorem s310_345 {fu d : Nat} {lv : LV} {st : List Value} {h : AH} : aGo (fu + 1) d (310, 345, lv, st, h) = pI st fun y st => pI st fun x st => aGo fu d (310, 346, lv, .int (x + y) :: st, h) := (st_of (kmOf kt310 rfl : KM 310 345 = some (.iadd, 1, 0, 0, .null, none))).trans (RH_iadd)
set_option maxRecDepth 100000 in
theorem s310_346 {fu d : Nat} {lv : LV} {st : List Value} {h : AH} : aGo (fu + 1) d (310, 346, lv, st, h) = pI st fun i st => pR st fun r st => hIld h r i fun x => aGo fu d (310, 347, lv, .int x :: st, h) := (st_of (kmOf kt310 rfl : KM 310 346 = some (.iaload, 1, 0, 0, .null, none))).trans (RH_iaload)
set_option maxRecDepth 100000 in
theorem s310_347 {fu d : Nat} {lv : LV} {st : List Value} {h : AH} : aGo (fu + 1) d (310, 347, lv, st, h) = lR (ld lv 0) fun x => aGo fu d (310, 348, lv, x :: st, h) := (st_of (kmOf kt310 rfl : KM 310 347 = some (.aload_n 0, 1, 0, 0, .null, none))).trans (RH_aload_n)
set_option maxRecDepth 100000 in
theorem s310_348 {fu d : Nat} {lv : LV} {st : List Value} {h : AH} : aGo (fu + 1) d (310, 348, lv, st, h) = lI (ld lv 4) fun x => aGo fu d (310, 350, lv, .int x :: st, h) := (st_of (kmOf kt310 rfl : KM 310 348 = some (.iload 4, 2, 0, 0, .null, none))).trans (RH_iload)
set_option maxRecDepth 100000 in
theorem s310_350 {fu d : Nat} {lv : LV} {st : List Value} {h : AH} : aGo (fu + 1) d (310, 350, lv, st, h) = aGo fu d (310, 351, lv, (.int (2)) :: st, h) := (st_of (kmOf kt310 rfl : KM 310 350 = some (.iconst 2, 1, 0, 0, (.int (2)), none))).trans (RH_iconst)
set_option maxRecDepth 100000 in
theorem s310_351 {fu d : Nat} {lv : LV} {st : List Value} {h : AH} : aGo (fu + 1) d (310, 351, lv, st, h) = pI st fun y st => pI st fun x st => aGo fu d (310, 352, lv, .int (x + y) :: st, h) := (st_of (kmOf kt310 rfl : KM 310 351 = some (.iadd, 1, 0, 0, .null, none))).trans (RH_iadd)
set_option maxRecDepth 100000 in
theorem s310_352 {fu d : Nat} {lv : LV} {st : List Value} {h : AH} : aGo (fu + 1) d (310, 352, lv, st, h) = pI st fun i st => pR st fun r st => hIld h r i fun x => aGo fu d (310, 353, lv, .int x :: st, h) := (st_of (kmOf kt310 rfl : KM 310 352 = some (.iaload, 1, 0, 0, .null, none))).trans (RH_iaload)
set_option maxRecDepth 100000 in
theorem s310_353 {fu d : Nat} {lv : LV} {st : List Value} {h : AH} : aGo (fu + 1) d (310, 353, lv, st, h) = lR (ld lv 0) fun x => aGo fu d (310, 354, lv, x :: st, h) := (st_of (kmOf kt310 rfl : KM 310 353 = some (.aload_n 0, 1, 0, 0, .null, none))).trans (RH_aload_n)
set_option maxRecDepth 100000 in
theorem s310_354 {fu d : Nat} {lv : LV} {st : List Value} {h : AH} : aGo (fu + 1) d (310, 354, lv, st, h) = lI (ld lv 4) fun x => aGo fu d (310, 356, lv, .int x :: st, h) := (st_of (kmOf kt310 rfl : KM 310 354 = some (.iload 4, 2, 0, 0, .null, none))).trans (RH_iload)
set_option maxRecDepth 100000 in
theorem s310_356 {fu d : Nat} {lv : LV} {st : List Value} {h : AH} : aGo (fu + 1) d (310, 356, lv, st, h) = aGo fu d (310, 357, lv, (.int (3)) :: st, h) := (st_of (kmOf kt310 rfl : KM 310 356 = some (.iconst 3, 1, 0, 0, (.int (3)), none))).trans (RH_iconst)
set_option maxRecDepth 100000 in
theorem s310_357 {fu d : Nat} {lv : LV} {st : List Value} {h : AH} : aGo (fu + 1) d (310, 357, lv, st, h) = pI st fun y st => pI st fun x st => aGo fu d (310, 358, lv, .int (x + y) :: st, h) := (st_of (kmOf kt310 rfl : KM 310 357 = some (.iadd, 1, 0, 0, .null, none))).trans (RH_iadd)
set_option maxRecDepth 100000 in
theorem s310_358 {fu d : Nat} {lv : LV} {st : List Value} {h : AH} : aGo (fu + 1) d (310, 358, lv, st, h) = pI st fun i st => pR st fun r st => hIld h r i fun x => aGo fu d (310, 359, lv, .int x :: st, h) := (st_of (kmOf kt310 rfl : KM 310 358 = some (.iaload, 1, 0, 0, .null, none))).trans (RH_iaload)
set_option maxRecDepth 100000 in
theorem s310_359 {fu d : Nat} {lv : LV} {st : List Value} {h : AH} : aGo (fu + 1) d (310, 359, lv, st, h) = ob (popN 4 st []) fun q => gT (isO h 11 q.1 = true ∧ q.2.length ≤ 12 ∧ (layA q.1).length ≤ MX 122) (ob (aCall d 122 q.1 h) (kont d 310 (362) lv q.2)) := (st_of (kmOf kt310 rfl : KM 310 359 = some (.invokevirtual 37, 3, 122, 4, (.retAddr 11), none))).trans (RH_invokevirtual (by decide))
set_option maxRecDepth 100000 in
theorem s310_362 {fu d : Nat} {lv : LV} {st : List Value} {h : AH} : aGo (fu + 1) d (310, 362, lv, st, h) = lR (ld lv 2) fun x => aGo fu d (310, 363, lv, x :: st, h) := (st_of (kmOf kt310 rfl : KM 310 362 = some (.aload_n 2, 1, 0, 0, .null, none))).trans (RH_aload_n)
set_option maxRecDepth 100000 in
theorem s310_363 {fu d : Nat} {lv : LV} {st : List Value} {h : AH} : aGo (fu + 1) d (310, 363, lv, st, h) = lR (ld lv 0) fun x => aGo fu d (310, 364, lv, x :: st, h) := (st_of (kmOf kt310 rfl : KM 310 363 = some (.aload_n 0, 1, 0, 0, .null, none))).trans (RH_aload_n)
set_option maxRecDepth 100000 in
theorem s310_364 {fu d : Nat} {lv : LV} {st : List Value} {h : AH} : aGo (fu + 1) d (310, 364, lv, st, h) = lI (ld lv 4) fun x => aGo fu d (310, 366, lv, .int x :: st, h) := (st_of (kmOf kt310 rfl : KM 310 364 = some (.iload 4, 2, 0, 0, .null, none))).trans (RH_iload)
set_option maxRecDepth 100000 in
theorem s310_366 {fu d : Nat} {lv : LV} {st : List Value} {h : AH} : aGo (fu + 1) d (310, 366, lv, st, h) = aGo fu d (310, 367, lv, (.int (1)) :: st, h) := (st_of (kmOf kt310 rfl : KM 310 366 = some (.iconst 1, 1, 0, 0, (.int (1)), none))).trans (RH_iconst)
set_option maxRecDepth 100000 in
theorem s310_367 {fu d : Nat} {lv : LV} {st : List Value} {h : AH} : aGo (fu + 1) d (310, 367, lv, st, h) = pI st fun y st => pI st fun x st => aGo fu d (310, 368, lv, .int (x + y) :: st, h) := (st_of (kmOf kt310 rfl : KM 310 367 = some (.iadd, 1, 0, 0, .null, none))).trans (RH_iadd)
set_option maxRecDepth 100000 in
theorem s310_368 {fu d : Nat} {lv : LV} {st : List Value} {h : AH} : aGo (fu + 1) d (310, 368, lv, st, h) = pI st fun i st => pR st fun r st => hIld h r i fun x => aGo fu d (310, 369, lv, .int x :: st, h) := (st_of (kmOf kt310 rfl : KM 310 368 = some (.iaload, 1, 0, 0, .null, none))).trans (RH_iaload)
set_option maxRecDepth 100000 in
theorem s310_369 {fu d : Nat} {lv : LV} {st : List Value} {h : AH} : aGo (fu + 1) d (310, 369, lv, st, h) = lR (ld lv 0) fun x => aGo fu d (310, 370, lv, x :: st, h) := (st_of (kmOf kt310 rfl : KM 310 369 = some (.aload_n 0, 1, 0, 0, .null, none))).trans (RH_aload_n)
set_option maxRecDepth 100000 in
theorem s310_370 {fu d : Nat} {lv : LV} {st : List Value} {h : AH} : aGo (fu + 1) d (310, 370, lv, st, h) = lI (ld lv 4) fun x => aGo fu d (310, 372, lv, .int x :: st, h) := (st_of (kmOf kt310 rfl : KM 310 370 = some (.iload 4, 2, 0, 0, .null, none))).trans (RH_iload)
set_option maxRecDepth 100000 in
theorem s310_372 {fu d : Nat} {lv : LV} {st : List Value} {h : AH} : aGo (fu + 1) d (310, 372, lv, st, h) = aGo fu d (310, 373, lv, (.int (2)) :: st, h) := (st_of (kmOf kt310 rfl : KM 310 372 = some (.iconst 2, 1, 0, 0, (.int (2)), none))).trans (RH_iconst)
set_option maxRecDepth 100000 in
theorem s310_373 {fu d : Nat} {lv : LV} {st : List Value} {h : AH} : aGo (fu + 1) d (310, 373, lv, st, h) = pI st fun y st => pI st fun x st => aGo fu d (310, 374, lv, .int (x + y) :: st, h) := (st_of (kmOf kt310 rfl : KM 310 373 = some (.iadd, 1, 0, 0, .null, none))).trans (RH_iadd)
set_option maxRecDepth 100000 in
theorem s310_374 {fu d : Nat} {lv : LV} {st : List Value} {h : AH} : aGo (fu + 1) d (310, 374, lv, st, h) = pI st fun i st => pR st fun r st => hIld h r i fun x => aGo fu d (310, 375, lv, .int x :: st, h) := (st_of (kmOf kt310 rfl : KM 310 374 = some (.iaload, 1, 0, 0, .null, none))).trans (RH_iaload)
set_option maxRecDepth 100000 in
theorem s310_375 {fu d : Nat} {lv : LV} {st : List Value} {h : AH} : aGo (fu + 1) d (310, 375, lv, st, h) = lR (ld lv 0) fun x => aGo fu d (310, 376, lv, x :: st, h) := (st_of (kmOf kt310 rfl : KM 310 375 = some (.aload_n 0, 1, 0, 0, .null, none))).trans (RH_aload_n)
set_option maxRecDepth 100000 in
theorem s310_376 {fu d : Nat} {lv : LV} {st : List Value} {h : AH} : aGo (fu + 1) d (310, 376, lv, st, h) = lI (ld lv 4) fun x => aGo fu d (310, 378, lv, .int x :: st, h) := (st_of (kmOf kt310 rfl : KM 310 376 = some (.iload 4, 2, 0, 0, .null, none))).trans (RH_iload)
set_option maxRecDepth 100000 in
theorem s310_378 {fu d : Nat} {lv : LV} {st : List Value} {h : AH} : aGo (fu + 1) d (310, 378, lv, st, h) = aGo fu d (310, 379, lv, (.int (3)) :: st, h) := (st_of (kmOf kt310 rfl : KM 310 378 = some (.iconst 3, 1, 0, 0, (.int (3)), none))).trans (RH_iconst)
set_option maxRecDepth 100000 in
theorem s310_379 {fu d : Nat} {lv : LV} {st : List Value} {h : AH} : aGo (fu + 1) d (310, 379, lv, st, h) = pI st fun y st => pI st fun x st => aGo fu d (310, 380, lv, .int (x + y) :: st, h) := (st_of (kmOf kt310 rfl : KM 310 379 = some (.iadd, 1, 0, 0, .null, none))).trans (RH_iadd)
set_option maxRecDepth 100000 in
theorem s310_380 {fu d : Nat} {lv : LV} {st : List Value} {h : AH} : aGo (fu + 1) d (310, 380, lv, st, h) = pI st fun i st => pR st fun r st => hIld h r i fun x => aGo fu d (310, 381, lv, .int x :: st, h) := (st_of (kmOf kt310 rfl : KM 310 380 = some (.iaload, 1, 0, 0, .null, none))).trans (RH_iaload)
set_option maxRecDepth 100000 in
theorem s310_381 {fu d : Nat} {lv : LV} {st : List Value} {h : AH} : aGo (fu + 1) d (310, 381, lv, st, h) = ob (popN 4 st []) fun q => gT (isO h 12 q.1 = true ∧ q.2.length ≤ 12 ∧ (layA q.1).length ≤ MX 204) (ob (aCall d 204 q.1 h) (kont d 310 (384) lv q.2)) := (st_of (kmOf kt310 rfl : KM 310 381 = some (.invokevirtual 41, 3, 204, 4, (.retAddr 12), none))).trans (RH_invokevirtual (by decide))
set_option maxRecDepth 100000 in
theorem s310_384 {fu d : Nat} {lv : LV} {st : List Value} {h : AH} : aGo (fu + 1) d (310, 384, lv, st, h) = pI st fun y st => pI st fun x st => if x = y then aGo fu d (310, 1995, lv, st, h) else aGo fu d (310, 387, lv, st, h) := (st_of (kmOf kt310 rfl : KM 310 384 = some (.if_icmp .eq 1611, 3, 1995, 0, .null, none))).trans (RH_icmp_eq)
set_option maxRecDepth 100000 in
theorem s310_387 {fu d : Nat} {lv : LV} {st : List Value} {h : AH} : aGo (fu + 1) d (310, 387, lv, st, h) = aGo fu d (310, 388, lv, (.int (0)) :: st, h) := (st_of (kmOf kt310 rfl : KM 310 387 = some (.iconst 0, 1, 0, 0, (.int (0)), none))).trans (RH_iconst)
set_option maxRecDepth 100000 in
theorem s310_388 {fu d : Nat} {lv : LV} {st : List Value} {h : AH} : aGo (fu + 1) d (310, 388, lv, st, h) = match st with | [.int x] => gT ((1 = 1 → x = 0 ∨ x = 1) ∧ (1 = 2 → x.toInt8.toInt32 = x)) (some (some (.int x), h)) | _ => none := (st_of (kmOf kt310 rfl : KM 310 388 = some (.ireturn, 1, 1, 0, .null, none))).trans (RH_ireturn)
set_option maxRecDepth 100000 in
theorem s310_389 {fu d : Nat} {lv : LV} {st : List Value} {h : AH} : aGo (fu + 1) d (310, 389, lv, st, h) = lR (ld lv 1) fun x => aGo fu d (310, 390, lv, x :: st, h) := (st_of (kmOf kt310 rfl : KM 310 389 = some (.aload_n 1, 1, 0, 0, .null, none))).trans (RH_aload_n)
set_option maxRecDepth 100000 in
theorem s310_390 {fu d : Nat} {lv : LV} {st : List Value} {h : AH} : aGo (fu + 1) d (310, 390, lv, st, h) = lR (ld lv 0) fun x => aGo fu d (310, 391, lv, x :: st, h) := (st_of (kmOf kt310 rfl : KM 310 390 = some (.aload_n 0, 1, 0, 0, .null, none))).trans (RH_aload_n)
set_option maxRecDepth 100000 in
theorem s310_391 {fu d : Nat} {lv : LV} {st : List Value} {h : AH} : aGo (fu + 1) d (310, 391, lv, st, h) = lI (ld lv 4) fun x => aGo fu d (310, 393, lv, .int x :: st, h) := (st_of (kmOf kt310 rfl : KM 310 391 = some (.iload 4, 2, 0, 0, .null, none))).trans (RH_iload)
set_option maxRecDepth 100000 in
theorem s310_393 {fu d : Nat} {lv : LV} {st : List Value} {h : AH} : aGo (fu + 1) d (310, 393, lv, st, h) = aGo fu d (310, 394, lv, (.int (1)) :: st, h) := (st_of (kmOf kt310 rfl : KM 310 393 = some (.iconst 1, 1, 0, 0, (.int (1)), none))).trans (RH_iconst)
set_option maxRecDepth 100000 in
theorem s310_394 {fu d : Nat} {lv : LV} {st : List Value} {h : AH} : aGo (fu + 1) d (310, 394, lv, st, h) = pI st fun y st => pI st fun x st => aGo fu d (310, 395, lv, .int (x + y) :: st, h) := (st_of (kmOf kt310 rfl : KM 310 394 = some (.iadd, 1, 0, 0, .null, none))).trans (RH_iadd)
set_option maxRecDepth 100000 in
theorem s310_395 {fu d : Nat} {lv : LV} {st : List Value} {h : AH} : aGo (fu + 1) d (310, 395, lv, st, h) = pI st fun i st => pR st fun r st => hIld h r i fun x => aGo fu d (310, 396, lv, .int x :: st, h) := (st_of (kmOf kt310 rfl : KM 310 395 = some (.iaload, 1, 0, 0, .null, none))).trans (RH_iaload)
set_option maxRecDepth 100000 in
theorem s310_396 {fu d : Nat} {lv : LV} {st : List Value} {h : AH} : aGo (fu + 1) d (310, 396, lv, st, h) = ob (popN 2 st []) fun q => gT (isO h 11 q.1 = true ∧ q.2.length ≤ 12 ∧ (layA q.1).length ≤ MX 123) (ob (aCall d 123 q.1 h) (kont d 310 (399) lv q.2)) := (st_of (kmOf kt310 rfl : KM 310 396 = some (.invokevirtual 42, 3, 123, 2, (.retAddr 11), none))).trans (RH_invokevirtual (by decide))
set_option maxRecDepth 100000 in
theorem s310_399 {fu d : Nat} {lv : LV} {st : List Value} {h : AH} : aGo (fu + 1) d (310, 399, lv, st, h) = lR (ld lv 2) fun x => aGo fu d (310, 400, lv, x :: st, h) := (st_of (kmOf kt310 rfl : KM 310 399 = some (.aload_n 2, 1, 0, 0, .null, none))).trans (RH_aload_n)
set_option maxRecDepth 100000 in
theorem s310_400 {fu d : Nat} {lv : LV} {st : List Value} {h : AH} : aGo (fu + 1) d (310, 400, lv, st, h) = lR (ld lv 0) fun x => aGo fu d (310, 401, lv, x :: st, h) := (st_of (kmOf kt310 rfl : KM 310 400 = some (.aload_n 0, 1, 0, 0, .null, none))).trans (RH_aload_n)
set_option maxRecDepth 100000 in
theorem s310_401 {fu d : Nat} {lv : LV} {st : List Value} {h : AH} : aGo (fu + 1) d (310, 401, lv, st, h) = lI (ld lv 4) fun x => aGo fu d (310, 403, lv, .int x :: st, h) := (st_of (kmOf kt310 rfl : KM 310 401 = some (.iload 4, 2, 0, 0, .null, none))).trans (RH_iload)
set_option maxRecDepth 100000 in
theorem s310_403 {fu d : Nat} {lv : LV} {st : List Value} {h : AH} : aGo (fu + 1) d (310, 403, lv, st, h) = aGo fu d (310, 404, lv, (.int (1)) :: st, h) := (st_of (kmOf kt310 rfl : KM 310 403 = some (.iconst 1, 1, 0, 0, (.int (1)), none))).trans (RH_iconst)
set_option maxRecDepth 100000 in
theorem s310_404 {fu d : Nat} {lv : LV} {st : List Value} {h : AH} : aGo (fu + 1) d (310, 404, lv, st, h) = pI st fun y st => pI st fun x st => aGo fu d (310, 405, lv, .int (x + y) :: st, h) := (st_of (kmOf kt310 rfl : KM 310 404 = some (.iadd, 1, 0, 0, .null, none))).trans (RH_iadd)
set_option maxRecDepth 100000 in
theorem s310_405 {fu d : Nat} {lv : LV} {st : List Value} {h : AH} : aGo (fu + 1) d (310, 405, lv, st, h) = pI st fun i st => pR st fun r st => hIld h r i fun x => aGo fu d (310, 406, lv, .int x :: st, h) := (st_of (kmOf kt310 rfl : KM 310 405 = some (.iaload, 1, 0, 0, .null, none))).trans (RH_iaload)
set_option maxRecDepth 100000 in
theorem s310_406 {fu d : Nat} {lv : LV} {st : List Value} {h : AH} : aGo (fu + 1) d (310, 406, lv, st, h) = ob (popN 2 st []) fun q => gT (isO h 12 q.1 = true ∧ q.2.length ≤ 12 ∧ (layA q.1).length ≤ MX 205) (ob (aCall d 205 q.1 h) (kont d 310 (409) lv q.2)) := (st_of (kmOf kt310 rfl : KM 310 406 = some (.invokevirtual 45, 3, 205, 2, (.retAddr 12), none))).trans (RH_invokevirtual (by decide))
set_option maxRecDepth 100000 in
theorem s310_409 {fu d : Nat} {lv : LV} {st : List Value} {h : AH} : aGo (fu + 1) d (310, 409, lv, st, h) = pI st fun y st => pI st fun x st => if x = y then aGo fu d (310, 1995, lv, st, h) else aGo fu d (310, 412, lv, st, h) := (st_of (kmOf kt310 rfl : KM 310 409 = some (.if_icmp .eq 1586, 3, 1995, 0, .null, none))).trans (RH_icmp_eq)
set_option maxRecDepth 100000 in
theorem s310_412 {fu d : Nat} {lv : LV} {st : List Value} {h : AH} : aGo (fu + 1) d (310, 412, lv, st, h) = aGo fu d (310, 413, lv, (.int (0)) :: st, h) := (st_of (kmOf kt310 rfl : KM 310 412 = some (.iconst 0, 1, 0, 0, (.int (0)), none))).trans (RH_iconst)
set_option maxRecDepth 100000 in
theorem s310_413 {fu d : Nat} {lv : LV} {st : List Value} {h : AH} : aGo (fu + 1) d (310, 413, lv, st, h) = match st with | [.int x] => gT ((1 = 1 → x = 0 ∨ x = 1) ∧ (1 = 2 → x.toInt8.toInt32 = x)) (some (some (.int x), h)) | _ => none := (st_of (kmOf kt310 rfl : KM 310 413 = some (.ireturn, 1, 1, 0, .null, none))).trans (RH_ireturn)
set_option maxRecDepth 100000 in
theorem s310_414 {fu d : Nat} {lv : LV} {st : List Value} {h : AH} : aGo (fu + 1) d (310, 414, lv, st, h) = lR (ld lv 1) fun x => aGo fu d (310, 415, lv, x :: st, h) := (st_of (kmOf kt310 rfl : KM 310 414 = some (.aload_n 1, 1, 0, 0, .null, none))).trans (RH_aload_n)
set_option maxRecDepth 100000 in
theorem s310_415 {fu d : Nat} {lv : LV} {st : List Value} {h : AH} : aGo (fu + 1) d (310, 415, lv, st, h) = lR (ld lv 0) fun x => aGo fu d (310, 416, lv, x :: st, h) := (st_of (kmOf kt310 rfl : KM 310 415 = some (.aload_n 0, 1, 0, 0, .null, none))).trans (RH_aload_n)
set_option maxRecDepth 100000 in
theorem s310_416 {fu d : Nat} {lv : LV} {st : List Value} {h : AH} : aGo (fu + 1) d (310, 416, lv, st, h) = lI (ld lv 4) fun x => aGo fu d (310, 418, lv, .int x :: st, h) := (st_of (kmOf kt310 rfl : KM 310 416 = some (.iload 4, 2, 0, 0, .null, none))).trans (RH_iload)
set_option maxRecDepth 100000 in
theorem s310_418 {fu d : Nat} {lv : LV} {st : List Value} {h : AH} : aGo (fu + 1) d (310, 418, lv, st, h) = aGo fu d (310, 419, lv, (.int (1)) :: st, h) := (st_of (kmOf kt310 rfl : KM 310 418 = some (.iconst 1, 1, 0, 0, (.int (1)), none))).trans (RH_iconst)
set_option maxRecDepth 100000 in
theorem s310_419 {fu d : Nat} {lv : LV} {st : List Value} {h : AH} : aGo (fu + 1) d (310, 419, lv, st, h) = pI st fun y st => pI st fun x st => aGo fu d (310, 420, lv, .int (x + y) :: st, h) := (st_of (kmOf kt310 rfl : KM 310 419 = some (.iadd, 1, 0, 0, .null, none))).trans (RH_iadd)
set_option maxRecDepth 100000 in
theorem s310_420 {fu d : Nat} {lv : LV} {st : List Value} {h : AH} : aGo (fu + 1) d (310, 420, lv, st, h) = pI st fun i st => pR st fun r st => hIld h r i fun x => aGo fu d (310, 421, lv, .int x :: st, h) := (st_of (kmOf kt310 rfl : KM 310 420 = some (.iaload, 1, 0, 0, .null, none))).trans (RH_iaload)
set_option maxRecDepth 100000 in
theorem s310_421 {fu d : Nat} {lv : LV} {st : List Value} {h : AH} : aGo (fu + 1) d (310, 421, lv, st, h) = lR (ld lv 0) fun x => aGo fu d (310, 422, lv, x :: st, h) := (st_of (kmOf kt310 rfl : KM 310 421 = some (.aload_n 0, 1, 0, 0, .null, none))).trans (RH_aload_n)
set_option maxRecDepth 100000 in
theorem s310_422 {fu d : Nat} {lv : LV} {st : List Value} {h : AH} : aGo (fu + 1) d (310, 422, lv, st, h) = lI (ld lv 4) fun x => aGo fu d (310, 424, lv, .int x :: st, h) := (st_of (kmOf kt310 rfl : KM 310 422 = some (.iload 4, 2, 0, 0, .null, none))).trans (RH_iload)
set_option maxRecDepth 100000 in
theorem s310_424 {fu d : Nat} {lv : LV} {st : List Value} {h : AH} : aGo (fu + 1) d (310, 424, lv, st, h) = aGo fu d (310, 425, lv, (.int (2)) :: st, h) := (st_of (kmOf kt310 rfl : KM 310 424 = some (.iconst 2, 1, 0, 0, (.int (2)), none))).trans (RH_iconst)
set_option maxRecDepth 100000 in
theorem s310_425 {fu d : Nat} {lv : LV} {st : List Value} {h : AH} : aGo (fu + 1) d (310, 425, lv, st, h) = pI st fun y st => pI st fun x st => aGo fu d (310, 426, lv, .int (x + y) :: st, h) := (st_of (kmOf kt310 rfl : KM 310 425 = some (.iadd, 1, 0, 0, .null, none))).trans (RH_iadd)
set_option maxRecDepth 100000 in
theorem s310_426 {fu d : Nat} {lv : LV} {st : List Value} {h : AH} : aGo (fu + 1) d (310, 426, lv, st, h) = pI st fun i st => pR st fun r st => hIld h r i fun x => aGo fu d (310, 427, lv, .int x :: st, h) := (st_of (kmOf kt310 rfl : KM 310 426 = some (.iaload, 1, 0, 0, .null, none))).trans (RH_iaload)
set_option maxRecDepth 100000 in
theorem s310_427 {fu d : Nat} {lv : LV} {st : List Value} {h : AH} : aGo (fu + 1) d (310, 427, lv, st, h) = lR (ld lv 0) fun x => aGo fu d (310, 428, lv, x :: st, h) := (st_of (kmOf kt310 rfl : KM 310 427 = some (.aload_n 0, 1, 0, 0, .null, none))).trans (RH_aload_n)
set_option maxRecDepth 100000 in
theorem s310_428 {fu d : Nat} {lv : LV} {st : List Value} {h : AH} : aGo (fu + 1) d (310, 428, lv, st, h) = lI (ld lv 4) fun x => aGo fu d (310, 430, lv, .int x :: st, h) := (st_of (kmOf kt310 rfl : KM 310 428 = some (.iload 4, 2, 0, 0, .null, none))).trans (RH_iload)
set_option maxRecDepth 100000 in
theorem s310_430 {fu d : Nat} {lv : LV} {st : List Value} {h : AH} : aGo (fu + 1) d (310, 430, lv, st, h) = aGo fu d (310, 431, lv, (.int (3)) :: st, h) := (st_of (kmOf kt310 rfl : KM 310 430 = some (.iconst 3, 1, 0, 0, (.int (3)), none))).trans (RH_iconst)
set_option maxRecDepth 100000 in
theorem s310_431 {fu d : Nat} {lv : LV} {st : List Value} {h : AH} : aGo (fu + 1) d (310, 431, lv, st, h) = pI st fun y st => pI st fun x st => aGo fu d (310, 432, lv, .int (x + y) :: st, h) := (st_of (kmOf kt310 rfl : KM 310 431 = some (.iadd, 1, 0, 0, .null, none))).trans (RH_iadd)
set_option maxRecDepth 100000 in
theorem s310_432 {fu d : Nat} {lv : LV} {st : List Value} {h : AH} : aGo (fu + 1) d (310, 432, lv, st, h) = pI st fun i st => pR st fun r st => hIld h r i fun x => aGo fu d (310, 433, lv, .int x :: st, h) := (st_of (kmOf kt310 rfl : KM 310 432 = some (.iaload, 1, 0, 0, .null, none))).trans (RH_iaload)
set_option maxRecDepth 100000 in
theorem s310_433 {fu d : Nat} {lv : LV} {st : List Value} {h : AH} : aGo (fu + 1) d (310, 433, lv, st, h) = lR (ld lv 0) fun x => aGo fu d (310, 434, lv, x :: st, h) := (st_of (kmOf kt310 rfl : KM 310 433 = some (.aload_n 0, 1, 0, 0, .null, none))).trans (RH_aload_n)
set_option maxRecDepth 100000 in
theorem s310_434 {fu d : Nat} {lv : LV} {st : List Value} {h : AH} : aGo (fu + 1) d (310, 434, lv, st, h) = lI (ld lv 4) fun x => aGo fu d (310, 436, lv, .int x :: st, h) := (st_of (kmOf kt310 rfl : KM 310 434 = some (.iload 4, 2, 0, 0, .null, none))).trans (RH_iload)
set_option maxRecDepth 100000 in
theorem s310_436 {fu d : Nat} {lv : LV} {st : List Value} {h : AH} : aGo (fu + 1) d (310, 436, lv, st, h) = aGo fu d (310, 437, lv, (.int (4)) :: st, h) := (st_of (kmOf kt310 rfl : KM 310 436 = some (.iconst 4, 1, 0, 0, (.int (4)), none))).trans (RH_iconst)
set_option maxRecDepth 100000 in
theorem s310_437 {fu d : Nat} {lv : LV} {st : List Value} {h : AH} : aGo (fu + 1) d (310, 437, lv, st, h) = pI st fun y st => pI st fun x st => aGo fu d (310, 438, lv, .int (x + y) :: st, h) := (st_of (kmOf kt310 rfl : KM 310 437 = some (.iadd, 1, 0, 0, .null, none))).trans (RH_iadd)
set_option maxRecDepth 100000 in
theorem s310_438 {fu d : Nat} {lv : LV} {st : List Value} {h : AH} : aGo (fu + 1) d (310, 438, lv, st, h) = pI st fun i st => pR st fun r st => hIld h r i fun x => aGo fu d (310, 439, lv, .int x :: st, h) := (st_of (kmOf kt310 rfl : KM 310 438 = some (.iaload, 1, 0, 0, .null, none))).trans (RH_iaload)
set_option maxRecDepth 100000 in
theorem s310_439 {fu d : Nat} {lv : LV} {st : List Value} {h : AH} : aGo (fu + 1) d (310, 439, lv, st, h) = ob (popN 5 st []) fun q => gT (isO h 11 q.1 = true ∧ q.2.length ≤ 12 ∧ (layA q.1).length ≤ MX 124) (ob (aCall d 124 q.1 h) (kont d 310 (442) lv q.2)) := (st_of (kmOf kt310 rfl : KM 310 439 = some (.invokevirtual 46, 3, 124, 5, (.retAddr 11), none))).trans (RH_invokevirtual (by decide))
set_option maxRecDepth 100000 in
theorem s310_442 {fu d : Nat} {lv : LV} {st : List Value} {h : AH} : aGo (fu + 1) d (310, 442, lv, st, h) = lR (ld lv 2) fun x => aGo fu d (310, 443, lv, x :: st, h) := (st_of (kmOf kt310 rfl : KM 310 442 = some (.aload_n 2, 1, 0, 0, .null, none))).trans (RH_aload_n)
set_option maxRecDepth 100000 in
theorem s310_443 {fu d : Nat} {lv : LV} {st : List Value} {h : AH} : aGo (fu + 1) d (310, 443, lv, st, h) = lR (ld lv 0) fun x => aGo fu d (310, 444, lv, x :: st, h) := (st_of (kmOf kt310 rfl : KM 310 443 = some (.aload_n 0, 1, 0, 0, .null, none))).trans (RH_aload_n)
set_option maxRecDepth 100000 in
theorem s310_444 {fu d : Nat} {lv : LV} {st : List Value} {h : AH} : aGo (fu + 1) d (310, 444, lv, st, h) = lI (ld lv 4) fun x => aGo fu d (310, 446, lv, .int x :: st, h) := (st_of (kmOf kt310 rfl : KM 310 444 = some (.iload 4, 2, 0, 0, .null, none))).trans (RH_iload)
set_option maxRecDepth 100000 in
theorem s310_446 {fu d : Nat} {lv : LV} {st : List Value} {h : AH} : aGo (fu + 1) d (310, 446, lv, st, h) = aGo fu d (310, 447, lv, (.int (1)) :: st, h) := (st_of (kmOf kt310 rfl : KM 310 446 = some (.iconst 1, 1, 0, 0, (.int (1)), none))).trans (RH_iconst)
set_option maxRecDepth 100000 in
theorem s310_447 {fu d : Nat} {lv : LV} {st : List Value} {h : AH} : aGo (fu + 1) d (310, 447, lv, st, h) = pI st fun y st => pI st fun x st => aGo fu d (310, 448, lv, .int (x + y) :: st, h) := (st_of (kmOf kt310 rfl : KM 310 447 = some (.iadd, 1, 0, 0, .null, none))).trans (RH_iadd)
set_option maxRecDepth 100000 in
theorem s310_448 {fu d : Nat} {lv : LV} {st : List Value} {h : AH} : aGo (fu + 1) d (310, 448, lv, st, h) = pI st fun i st => pR st fun r st => hIld h r i fun x => aGo fu d (310, 449, lv, .int x :: st, h) := (st_of (kmOf kt310 rfl : KM 310 448 = some (.iaload, 1, 0, 0, .null, none))).trans (RH_iaload)
set_option maxRecDepth 100000 in
theorem s310_449 {fu d : Nat} {lv : LV} {st : List Value} {h : AH} : aGo (fu + 1) d (310, 449, lv, st, h) = lR (ld lv 0) fun x => aGo fu d (310, 450, lv, x :: st, h) := (st_of (kmOf kt310 rfl : KM 310 449 = some (.aload_n 0, 1, 0, 0, .null, none))).trans (RH_aload_n)
set_option maxRecDepth 100000 in
theorem s310_450 {fu d : Nat} {lv : LV} {st : List Value} {h : AH} : aGo (fu + 1) d (310, 450, lv, st, h) = lI (ld lv 4) fun x => aGo fu d (310, 452, lv, .int x :: st, h) := (st_of (kmOf kt310 rfl : KM 310 450 = some (.iload 4, 2, 0, 0, .null, none))).trans (RH_iload)
set_option maxRecDepth 100000 in
theorem s310_452 {fu d : Nat} {lv : LV} {st : List Value} {h : AH} : aGo (fu + 1) d (310, 452, lv, st, h) = aGo fu d (310, 453, lv, (.int (2)) :: st, h) := (st_of (kmOf kt310 rfl : KM 310 452 = some (.iconst 2, 1, 0, 0, (.int (2)), none))).trans (RH_iconst)
set_option maxRecDepth 100000 in
theorem s310_453 {fu d : Nat} {lv : LV} {st : List Value} {h : AH} : aGo (fu + 1) d (310, 453, lv, st, h) = pI st fun y st => pI st fun x st => aGo fu d (310, 454, lv, .int (x + y) :: st, h) := (st_of (kmOf kt310 rfl : KM 310 453 = some (.iadd, 1, 0, 0, .null, none))).trans (RH_iadd)
set_option maxRecDepth 100000 in
theorem s310_454 {fu d : Nat} {lv : LV} {st : List Value} {h : AH} : aGo (fu + 1) d (310, 454, lv, st, h) = pI st fun i st => pR st fun r st => hIld h r i fun x => aGo fu d (310, 455, lv, .int x :: st, h) := (st_of (kmOf kt310 rfl : KM 310 454 = some (.iaload, 1, 0, 0, .null, none))).trans (RH_iaload)
set_option maxRecDepth 100000 in
theorem s310_455 {fu d : Nat} {lv : LV} {st : List Value} {h : AH} : aGo (fu + 1) d (310, 455, lv, st, h) = lR (ld lv 0) fun x => aGo fu d (310, 456, lv, x :: st, h) := (st_of (kmOf kt310 rfl : KM 310 455 = some (.aload_n 0, 1, 0, 0, .null, none))).trans (RH_aload_n)
set_option maxRecDepth 100000 in
theorem s310_456 {fu d : Nat} {lv : LV} {st : List Value} {h : AH} : aGo (fu + 1) d (310, 456, lv, st, h) = lI (ld lv 4) fun x => aGo fu d (310, 458, lv, .int x :: st, h) := (st_of (kmOf kt310 rfl : KM 310 456 = some (.iload 4, 2, 0, 0, .null, none))).trans (RH_iload)
set_option maxRecDepth 100000 in
theorem s310_458 {fu d : Nat} {lv : LV} {st : List Value} {h : AH} : aGo (fu + 1) d (310, 458, lv, st, h) = aGo fu d (310, 459, lv, (.int (3)) :: st, h) := (st_of (kmOf kt310 rfl : KM 310 458 = some (.iconst 3, 1, 0, 0, (.int (3)), none))).trans (RH_iconst)
set_option maxRecDepth 100000 in
theorem s310_459 {fu d : Nat} {lv : LV} {st : List Value} {h : AH} : aGo (fu + 1) d (310, 459, lv, st, h) = pI st fun y st => pI st fun x st => aGo fu d (310, 460, lv, .int (x + y) :: st, h) := (st_of (kmOf kt310 rfl : KM 310 459 = some (.iadd, 1, 0, 0, .null, none))).trans (RH_iadd)
set_option maxRecDepth 100000 in
theorem s310_460 {fu d : Nat} {lv : LV} {st : List Value} {h : AH} : aGo (fu + 1) d (310, 460, lv, st, h) = pI st fun i st => pR st fun r st => hIld h r i fun x => aGo fu d (310, 461, lv, .int x :: st, h) := (st_of (kmOf kt310 rfl : KM 310 460 = some (.iaload, 1, 0, 0, .null, none))).trans (RH_iaload)
set_option maxRecDepth 100000 in
theorem s310_461 {fu d : Nat} {lv : LV} {st : List Value} {h : AH} : aGo (fu + 1) d (310, 461, lv, st, h) = lR (ld lv 0) fun x => aGo fu d (310, 462, lv, x :: st, h) := (st_of (kmOf kt310 rfl : KM 310 461 = some (.aload_n 0, 1, 0, 0, .null, none))).trans (RH_aload_n)
set_option maxRecDepth 100000 in
theorem s310_462 {fu d : Nat} {lv : LV} {st : List Value} {h : AH} : aGo (fu + 1) d (310, 462, lv, st, h) = lI (ld lv 4) fun x => aGo fu d (310, 464, lv, .int x :: st, h) := (st_of (kmOf kt310 rfl : KM 310 462 = some (.iload 4, 2, 0, 0, .null, none))).trans (RH_iload)
set_option maxRecDepth 100000 in
theorem s310_464 {fu d : Nat} {lv : LV} {st : List Value} {h : AH} : aGo (fu + 1) d (310, 464, lv, st, h) = aGo fu d (310, 465, lv, (.int (4)) :: st, h) := (st_of (kmOf kt310 rfl : KM 310 464 = some (.iconst 4, 1, 0, 0, (.int (4)), none))).trans (RH_iconst)
set_option maxRecDepth 100000 in
theorem s310_465 {fu d : Nat} {lv : LV} {st : List Value} {h : AH} : aGo (fu + 1) d (310, 465, lv, st, h) = pI st fun y st => pI st fun x st => aGo fu d (310, 466, lv, .int (x + y) :: st, h) := (st_of (kmOf kt310 rfl : KM 310 465 = some (.iadd, 1, 0, 0, .null, none))).trans (RH_iadd)
set_option maxRecDepth 100000 in
theorem s310_466 {fu d : Nat} {lv : LV} {st : List Value} {h : AH} : aGo (fu + 1) d (310, 466, lv, st, h) = pI st fun i st => pR st fun r st => hIld h r i fun x => aGo fu d (310, 467, lv, .int x :: st, h) := (st_of (kmOf kt310 rfl : KM 310 466 = some (.iaload, 1, 0, 0, .null, none))).trans (RH_iaload)
set_option maxRecDepth 100000 in
theorem s310_467 {fu d : Nat} {lv : LV} {st : List Value} {h : AH} : aGo (fu + 1) d (310, 467, lv, st, h) = ob (popN 5 st []) fun q => gT (isO h 12 q.1 = true ∧ q.2.length ≤ 12 ∧ (layA q.1).length ≤ MX 206) (ob (aCall d 206 q.1 h) (kont d 310 (470) lv q.2)) := (st_of (kmOf kt310 rfl : KM 310 467 = some (.invokevirtual 50, 3, 206, 5, (.retAddr 12), none))).trans (RH_invokevirtual (by decide))
set_option maxRecDepth 100000 in
theorem s310_470 {fu d : Nat} {lv : LV} {st : List Value} {h : AH} : aGo (fu + 1) d (310, 470, lv, st, h) = pI st fun y st => pI st fun x st => if x = y then aGo fu d (310, 1995, lv, st, h) else aGo fu d (310, 473, lv, st, h) := (st_of (kmOf kt310 rfl : KM 310 470 = some (.if_icmp .eq 1525, 3, 1995, 0, .null, none))).trans (RH_icmp_eq)
set_option maxRecDepth 100000 in
theorem s310_473 {fu d : Nat} {lv : LV} {st : List Value} {h : AH} : aGo (fu + 1) d (310, 473, lv, st, h) = aGo fu d (310, 474, lv, (.int (0)) :: st, h) := (st_of (kmOf kt310 rfl : KM 310 473 = some (.iconst 0, 1, 0, 0, (.int (0)), none))).trans (RH_iconst)
set_option maxRecDepth 100000 in
theorem s310_474 {fu d : Nat} {lv : LV} {st : List Value} {h : AH} : aGo (fu + 1) d (310, 474, lv, st, h) = match st with | [.int x] => gT ((1 = 1 → x = 0 ∨ x = 1) ∧ (1 = 2 → x.toInt8.toInt32 = x)) (some (some (.int x), h)) | _ => none := (st_of (kmOf kt310 rfl : KM 310 474 = some (.ireturn, 1, 1, 0, .null, none))).trans (RH_ireturn)
set_option maxRecDepth 100000 in
theorem s310_475 {fu d : Nat} {lv : LV} {st : List Value} {h : AH} : aGo (fu + 1) d (310, 475, lv, st, h) = lR (ld lv 1) fun x => aGo fu d (310, 476, lv, x :: st, h) := (st_of (kmOf kt310 rfl : KM 310 475 = some (.aload_n 1, 1, 0, 0, .null, none))).trans (RH_aload_n)
set_option maxRecDepth 100000 in
theorem s310_476 {fu d : Nat} {lv : LV} {st : List Value} {h : AH} : aGo (fu + 1) d (310, 476, lv, st, h) = lR (ld lv 0) fun x => aGo fu d (310, 477, lv, x :: st, h) := (st_of (kmOf kt310 rfl : KM 310 476 = some (.aload_n 0, 1, 0, 0, .null, none))).trans (RH_aload_n)
set_option maxRecDepth 100000 in
theorem s310_477 {fu d : Nat} {lv : LV} {st : List Value} {h : AH} : aGo (fu + 1) d (310, 477, lv, st, h) = lI (ld lv 4) fun x => aGo fu d (310, 479, lv, .int x :: st, h) := (st_of (kmOf kt310 rfl : KM 310 477 = some (.iload 4, 2, 0, 0, .null, none))).trans (RH_iload)
set_option maxRecDepth 100000 in
theorem s310_479 {fu d : Nat} {lv : LV} {st : List Value} {h : AH} : aGo (fu + 1) d (310, 479, lv, st, h) = aGo fu d (310, 480, lv, (.int (1)) :: st, h) := (st_of (kmOf kt310 rfl : KM 310 479 = some (.iconst 1, 1, 0, 0, (.int (1)), none))).trans (RH_iconst)
set_option maxRecDepth 100000 in
theorem s310_480 {fu d : Nat} {lv : LV} {st : List Value} {h : AH} : aGo (fu + 1) d (310, 480, lv, st, h) = pI st fun y st => pI st fun x st => aGo fu d (310, 481, lv, .int (x + y) :: st, h) := (st_of (kmOf kt310 rfl : KM 310 480 = some (.iadd, 1, 0, 0, .null, none))).trans (RH_iadd)
set_option maxRecDepth 100000 in
theorem s310_481 {fu d : Nat} {lv : LV} {st : List Value} {h : AH} : aGo (fu + 1) d (310, 481, lv, st, h) = pI st fun i st => pR st fun r st => hIld h r i fun x => aGo fu d (310, 482, lv, .int x :: st, h) := (st_of (kmOf kt310 rfl : KM 310 481 = some (.iaload, 1, 0, 0, .null, none))).trans (RH_iaload)
set_option maxRecDepth 100000 in
theorem s310_482 {fu d : Nat} {lv : LV} {st : List Value} {h : AH} : aGo (fu + 1) d (310, 482, lv, st, h) = ob (popN 2 st []) fun q => gT (isO h 11 q.1 = true ∧ q.2.length ≤ 12 ∧ (layA q.1).length ≤ MX 125) (ob (aCall d 125 q.1 h) (kont d 310 (485) lv q.2)) := (st_of (kmOf kt310 rfl : KM 310 482 = some (.invokevirtual 51, 3, 125, 2, (.retAddr 11), none))).trans (RH_invokevirtual (by decide))
set_option maxRecDepth 100000 in
theorem s310_485 {fu d : Nat} {lv : LV} {st : List Value} {h : AH} : aGo (fu + 1) d (310, 485, lv, st, h) = lR (ld lv 2) fun x => aGo fu d (310, 486, lv, x :: st, h) := (st_of (kmOf kt310 rfl : KM 310 485 = some (.aload_n 2, 1, 0, 0, .null, none))).trans (RH_aload_n)
set_option maxRecDepth 100000 in
theorem s310_486 {fu d : Nat} {lv : LV} {st : List Value} {h : AH} : aGo (fu + 1) d (310, 486, lv, st, h) = lR (ld lv 0) fun x => aGo fu d (310, 487, lv, x :: st, h) := (st_of (kmOf kt310 rfl : KM 310 486 = some (.aload_n 0, 1, 0, 0, .null, none))).trans (RH_aload_n)
set_option maxRecDepth 100000 in
theorem s310_487 {fu d : Nat} {lv : LV} {st : List Value} {h : AH} : aGo (fu + 1) d (310, 487, lv, st, h) = lI (ld lv 4) fun x => aGo fu d (310, 489, lv, .int x :: st, h) := (st_of (kmOf kt310 rfl : KM 310 487 = some (.iload 4, 2, 0, 0, .null, none))).trans (RH_iload)
set_option maxRecDepth 100000 in
theorem s310_489 {fu d : Nat} {lv : LV} {st : List Value} {h : AH} : aGo (fu + 1) d (310, 489, lv, st, h) = aGo fu d (310, 490, lv, (.int (1)) :: st, h) := (st_of (kmOf kt310 rfl : KM 310 489 = some (.iconst 1, 1, 0, 0, (.int (1)), none))).trans (RH_iconst)
set_option maxRecDepth 100000 in
theorem s310_490 {fu d : Nat} {lv : LV} {st : List Value} {h : AH} : aGo (fu + 1) d (310, 490, lv, st, h) = pI st fun y st => pI st fun x st => aGo fu d (310, 491, lv, .int (x + y) :: st, h) := (st_of (kmOf kt310 rfl : KM 310 490 = some (.iadd, 1, 0, 0, .null, none))).trans (RH_iadd)
set_option maxRecDepth 100000 in
theorem s310_491 {fu d : Nat} {lv : LV} {st : List Value} {h : AH} : aGo (fu + 1) d (310, 491, lv, st, h) = pI st fun i st => pR st fun r st => hIld h r i fun x => aGo fu d (310, 492, lv, .int x :: st, h) := (st_of (kmOf kt310 rfl : KM 310 491 = some (.iaload, 1, 0, 0, .null, none))).trans (RH_iaload)
set_option maxRecDepth 100000 in
theorem s310_492 {fu d : Nat} {lv : LV} {st : List Value} {h : AH} : aGo (fu + 1) d (310, 492, lv, st, h) = ob (popN 2 st []) fun q => gT (isO h 12 q.1 = true ∧ q.2.length ≤ 12 ∧ (layA q.1).length ≤ MX 208) (ob (aCall d 208 q.1 h) (kont d 310 (495) lv q.2)) := (st_of (kmOf kt310 rfl : KM 310 492 = some (.invokevirtual 54, 3, 208, 2, (.retAddr 12), none))).trans (RH_invokevirtual (by decide))
set_option maxRecDepth 100000 in
theorem s310_495 {fu d : Nat} {lv : LV} {st : List Value} {h : AH} : aGo (fu + 1) d (310, 495, lv, st, h) = pI st fun y st => pI st fun x st => if x = y then aGo fu d (310, 1995, lv, st, h) else aGo fu d (310, 498, lv, st, h) := (st_of (kmOf kt310 rfl : KM 310 495 = some (.if_icmp .eq 1500, 3, 1995, 0, .null, none))).trans (RH_icmp_eq)
set_option maxRecDepth 100000 in
theorem s310_498 {fu d : Nat} {lv : LV} {st : List Value} {h : AH} : aGo (fu + 1) d (310, 498, lv, st, h) = aGo fu d (310, 499, lv, (.int (0)) :: st, h) := (st_of (kmOf kt310 rfl : KM 310 498 = some (.iconst 0, 1, 0, 0, (.int (0)), none))).trans (RH_iconst)
set_option maxRecDepth 100000 in
theorem s310_499 {fu d : Nat} {lv : LV} {st : List Value} {h : AH} : aGo (fu + 1) d (310, 499, lv, st, h) = match st with | [.int x] => gT ((1 = 1 → x = 0 ∨ x = 1) ∧ (1 = 2 → x.toInt8.toInt32 = x)) (some (some (.int x), h)) | _ => none := (st_of (kmOf kt310 rfl : KM 310 499 = some (.ireturn, 1, 1, 0, .null, none))).trans (RH_ireturn)
set_option maxRecDepth 100000 in
theorem s310_500 {fu d : Nat} {lv : LV} {st : List Value} {h : AH} : aGo (fu + 1) d (310, 500, lv, st, h) = lR (ld lv 1) fun x => aGo fu d (310, 501, lv, x :: st, h) := (st_of (kmOf kt310 rfl : KM 310 500 = some (.aload_n 1, 1, 0, 0, .null, none))).trans (RH_aload_n)
set_option maxRecDepth 100000 in
theorem s310_501 {fu d : Nat} {lv : LV} {st : List Value} {h : AH} : aGo (fu + 1) d (310, 501, lv, st, h) = lR (ld lv 0) fun x => aGo fu d (310, 502, lv, x :: st, h) := (st_of (kmOf kt310 rfl : KM 310 501 = some (.aload_n 0, 1, 0, 0, .null, none))).trans (RH_aload_n)
set_option maxRecDepth 100000 in
theorem s310_502 {fu d : Nat} {lv : LV} {st : List Value} {h : AH} : aGo (fu + 1) d (310, 502, lv, st, h) = lI (ld lv 4) fun x => aGo fu d (310, 504, lv, .int x :: st, h) := (st_of (kmOf kt310 rfl : KM 310 502 = some (.iload 4, 2, 0, 0, .null, none))).trans (RH_iload)
set_option maxRecDepth 100000 in
theorem s310_504 {fu d : Nat} {lv : LV} {st : List Value} {h : AH} : aGo (fu + 1) d (310, 504, lv, st, h) = aGo fu d (310, 505, lv, (.int (1)) :: st, h) := (st_of (kmOf kt310 rfl : KM 310 504 = some (.iconst 1, 1, 0, 0, (.int (1)), none))).trans (RH_iconst)
set_option maxRecDepth 100000 in
theorem s310_505 {fu d : Nat} {lv : LV} {st : List Value} {h : AH} : aGo (fu + 1) d (310, 505, lv, st, h) = pI st fun y st => pI st fun x st => aGo fu d (310, 506, lv, .int (x + y) :: st, h) := (st_of (kmOf kt310 rfl : KM 310 505 = some (.iadd, 1, 0, 0, .null, none))).trans (RH_iadd)
set_option maxRecDepth 100000 in
theorem s310_506 {fu d : Nat} {lv : LV} {st : List Value} {h : AH} : aGo (fu + 1) d (310, 506, lv, st, h) = pI st fun i st => pR st fun r st => hIld h r i fun x => aGo fu d (310, 507, lv, .int x :: st, h) := (st_of (kmOf kt310 rfl : KM 310 506 = some (.iaload, 1, 0, 0, .null, none))).trans (RH_iaload)
set_option maxRecDepth 100000 in
theorem s310_507 {fu d : Nat} {lv : LV} {st : List Value} {h : AH} : aGo (fu + 1) d (310, 507, lv, st, h) = lR (ld lv 0) fun x => aGo fu d (310, 508, lv, x :: st, h) := (st_of (kmOf kt310 rfl : KM 310 507 = some (.aload_n 0, 1, 0, 0, .null, none))).trans (RH_aload_n)
set_option maxRecDepth 100000 in
theorem s310_508 {fu d : Nat} {lv : LV} {st : List Value} {h : AH} : aGo (fu + 1) d (310, 508, lv, st, h) = lI (ld lv 4) fun x => aGo fu d (310, 510, lv, .int x :: st, h) := (st_of (kmOf kt310 rfl : KM 310 508 = some (.iload 4, 2, 0, 0, .null, none))).trans (RH_iload)
set_option maxRecDepth 100000 in
theorem s310_510 {fu d : Nat} {lv : LV} {st : List Value} {h : AH} : aGo (fu + 1) d (310, 510, lv, st, h) = aGo fu d (310, 511, lv, (.int (2)) :: st, h) := (st_of (kmOf kt310 rfl : KM 310 510 = some (.iconst 2, 1, 0, 0, (.int (2)), none))).trans (RH_iconst)
set_option maxRecDepth 100000 in
theorem s310_511 {fu d : Nat} {lv : LV} {st : List Value} {h : AH} : aGo (fu + 1) d (310, 511, lv, st, h) = pI st fun y st => pI st fun x st => aGo fu d (310, 512, lv, .int (x + y) :: st, h) := (st_of (kmOf kt310 rfl : KM 310 511 = some (.iadd, 1, 0, 0, .null, none))).trans (RH_iadd)
set_option maxRecDepth 100000 in
theorem s310_512 {fu d : Nat} {lv : LV} {st : List Value} {h : AH} : aGo (fu + 1) d (310, 512, lv, st, h) = pI st fun i st => pR st fun r st => hIld h r i fun x => aGo fu d (310, 513, lv, .int x :: st, h) := (st_of (kmOf kt310 rfl : KM 310 512 = some (.iaload, 1, 0, 0, .null, none))).trans (RH_iaload)
set_option maxRecDepth 100000 in
theorem s310_513 {fu d : Nat} {lv : LV} {st : List Value} {h : AH} : aGo (fu + 1) d (310, 513, lv, st, h) = lR (ld lv 0) fun x => aGo fu d (310, 514, lv, x :: st, h) := (st_of (kmOf kt310 rfl : KM 310 513 = some (.aload_n 0, 1, 0, 0, .null, none))).trans (RH_aload_n)
set_option maxRecDepth 100000 in
theorem s310_514 {fu d : Nat} {lv : LV} {st : List Value} {h : AH} : aGo (fu + 1) d (310, 514, lv, st, h) = lI (ld lv 4) fun x => aGo fu d (310, 516, lv, .int x :: st, h) := (st_of (kmOf kt310 rfl : KM 310 514 = some (.iload 4, 2, 0, 0, .null, none))).trans (RH_iload)
set_option maxRecDepth 100000 in
theorem s310_516 {fu d : Nat} {lv : LV} {st : List Value} {h : AH} : aGo (fu + 1) d (310, 516, lv, st, h) = aGo fu d (310, 517, lv, (.int (3)) :: st, h) := (st_of (kmOf kt310 rfl : KM 310 516 = some (.iconst 3, 1, 0, 0, (.int (3)), none))).trans (RH_iconst)
set_option maxRecDepth 100000 in
theorem s310_517 {fu d : Nat} {lv : LV} {st : List Value} {h : AH} : aGo (fu + 1) d (310, 517, lv, st, h) = pI st fun y st => pI st fun x st => aGo fu d (310, 518, lv, .int (x + y) :: st, h) := (st_of (kmOf kt310 rfl : KM 310 517 = some (.iadd, 1, 0, 0, .null, none))).trans (RH_iadd)
set_option maxRecDepth 100000 in
theorem s310_518 {fu d : Nat} {lv : LV} {st : List Value} {h : AH} : aGo (fu + 1) d (310, 518, lv, st, h) = pI st fun i st => pR st fun r st => hIld h r i fun x => aGo fu d (310, 519, lv, .int x :: st, h) := (st_of (kmOf kt310 rfl : KM 310 518 = some (.iaload, 1, 0, 0, .null, none))).trans (RH_iaload)
set_option maxRecDepth 100000 in
theorem s310_519 {fu d : Nat} {lv : LV} {st : List Value} {h : AH} : aGo (fu + 1) d (310, 519, lv, st, h) = lR (ld lv 0) fun x => aGo fu d (310, 520, lv, x :: st, h) := (st_of (kmOf kt310 rfl : KM 310 519 = some (.aload_n 0, 1, 0, 0, .null, none))).trans (RH_aload_n)
set_option maxRecDepth 100000 in
theorem s310_520 {fu d : Nat} {lv : LV} {st : List Value} {h : AH} : aGo (fu + 1) d (310, 520, lv, st, h) = lI (ld lv 4) fun x => aGo fu d (310, 522, lv, .int x :: st, h) := (st_of (kmOf kt310 rfl : KM 310 520 = some (.iload 4, 2, 0, 0, .null, none))).trans (RH_iload)
set_option maxRecDepth 100000 in
theorem s310_522 {fu d : Nat} {lv : LV} {st : List Value} {h : AH} : aGo (fu + 1) d (310, 522, lv, st, h) = aGo fu d (310, 523, lv, (.int (4)) :: st, h) := (st_of (kmOf kt310 rfl : KM 310 522 = some (.iconst 4, 1, 0, 0, (.int (4)), none))).trans (RH_iconst)
set_option maxRecDepth 100000 in
theorem s310_523 {fu d : Nat} {lv : LV} {st : List Value} {h : AH} : aGo (fu + 1) d (310, 523, lv, st, h) = pI st fun y st => pI st fun x st => aGo fu d (310, 524, lv, .int (x + y) :: st, h) := (st_of (kmOf kt310 rfl : KM 310 523 = some (.iadd, 1, 0, 0, .null, none))).trans (RH_iadd)
set_option maxRecDepth 100000 in
theorem s310_524 {fu d : Nat} {lv : LV} {st : List Value} {h : AH} : aGo (fu + 1) d (310, 524, lv, st, h) = pI st fun i st => pR st fun r st => hIld h r i fun x => aGo fu d (310, 525, lv, .int x :: st, h) := (st_of (kmOf kt310 rfl : KM 310 524 = some (.iaload, 1, 0, 0, .null, none))).trans (RH_iaload)
set_option maxRecDepth 100000 in
theorem s310_525 {fu d : Nat} {lv : LV} {st : List Value} {h : AH} : aGo (fu + 1) d (310, 525, lv, st, h) = ob (popN 5 st []) fun q => gT (isO h 11 q.1 = true ∧ q.2.length ≤ 12 ∧ (layA q.1).length ≤ MX 126) (ob (aCall d 126 q.1 h) (kont d 310 (528) lv q.2)) := (st_of (kmOf kt310 rfl : KM 310 525 = some (.invokevirtual 55, 3, 126, 5, (.retAddr 11), none))).trans (RH_invokevirtual (by decide))
set_option maxRecDepth 100000 in
theorem s310_528 {fu d : Nat} {lv : LV} {st : List Value} {h : AH} : aGo (fu + 1) d (310, 528, lv, st, h) = lR (ld lv 2) fun x => aGo fu d (310, 529, lv, x :: st, h) := (st_of (kmOf kt310 rfl : KM 310 528 = some (.aload_n 2, 1, 0, 0, .null, none))).trans (RH_aload_n)
set_option maxRecDepth 100000 in
theorem s310_529 {fu d : Nat} {lv : LV} {st : List Value} {h : AH} : aGo (fu + 1) d (310, 529, lv, st, h) = lR (ld lv 0) fun x => aGo fu d (310, 530, lv, x :: st, h) := (st_of (kmOf kt310 rfl : KM 310 529 = some (.aload_n 0, 1, 0, 0, .null, none))).trans (RH_aload_n)
set_option maxRecDepth 100000 in
theorem s310_530 {fu d : Nat} {lv : LV} {st : List Value} {h : AH} : aGo (fu + 1) d (310, 530, lv, st, h) = lI (ld lv 4) fun x => aGo fu d (310, 532, lv, .int x :: st, h) := (st_of (kmOf kt310 rfl : KM 310 530 = some (.iload 4, 2, 0, 0, .null, none))).trans (RH_iload)
set_option maxRecDepth 100000 in
theorem s310_532 {fu d : Nat} {lv : LV} {st : List Value} {h : AH} : aGo (fu + 1) d (310, 532, lv, st, h) = aGo fu d (310, 533, lv, (.int (1)) :: st, h) := (st_of (kmOf kt310 rfl : KM 310 532 = some (.iconst 1, 1, 0, 0, (.int (1)), none))).trans (RH_iconst)
set_option maxRecDepth 100000 in
theorem s310_533 {fu d : Nat} {lv : LV} {st : List Value} {h : AH} : aGo (fu + 1) d (310, 533, lv, st, h) = pI st fun y st => pI st fun x st => aGo fu d (310, 534, lv, .int (x + y) :: st, h) := (st_of (kmOf kt310 rfl : KM 310 533 = some (.iadd, 1, 0, 0, .null, none))).trans (RH_iadd)
set_option maxRecDepth 100000 in
theorem s310_534 {fu d : Nat} {lv : LV} {st : List Value} {h : AH} : aGo (fu + 1) d (310, 534, lv, st, h) = pI st fun i st => pR st fun r st => hIld h r i fun x => aGo fu d (310, 535, lv, .int x :: st, h) := (st_of (kmOf kt310 rfl : KM 310 534 = some (.iaload, 1, 0, 0, .null, none))).trans (RH_iaload)
set_option maxRecDepth 100000 in
theorem s310_535 {fu d : Nat} {lv : LV} {st : List Value} {h : AH} : aGo (fu + 1) d (310, 535, lv, st, h) = lR (ld lv 0) fun x => aGo fu d (310, 536, lv, x :: st, h) := (st_of (kmOf kt310 rfl : KM 310 535 = some (.aload_n 0, 1, 0, 0, .null, none))).trans (RH_aload_n)
set_option maxRecDepth 100000 in
theorem s310_536 {fu d : Nat} {lv : LV} {st : List Value} {h : AH} : aGo (fu + 1) d (310, 536, lv, st, h) = lI (ld lv 4) fun x => aGo fu d (310, 538, lv, .int x :: st, h) := (st_of (kmOf kt310 rfl : KM 310 536 = some (.iload 4, 2, 0, 0, .null, none))).trans (RH_iload)
set_option maxRecDepth 100000 in
theorem s310_538 {fu d : Nat} {lv : LV} {st : List Value} {h : AH} : aGo (fu + 1) d (310, 538, lv, st, h) = aGo fu d (310, 539, lv, (.int (2)) :: st, h) := (st_of (kmOf kt310 rfl : KM 310 538 = some (.iconst 2, 1, 0, 0, (.int (2)), none))).trans (RH_iconst)
set_option maxRecDepth 100000 in
theorem s310_539 {fu d : Nat} {lv : LV} {st : List Value} {h : AH} : aGo (fu + 1) d (310, 539, lv, st, h) = pI st fun y st => pI st fun x st => aGo fu d (310, 540, lv, .int (x + y) :: st, h) := (st_of (kmOf kt310 rfl : KM 310 539 = some (.iadd, 1, 0, 0, .null, none))).trans (RH_iadd)
set_option maxRecDepth 100000 in
theorem s310_540 {fu d : Nat} {lv : LV} {st : List Value} {h : AH} : aGo (fu + 1) d (310, 540, lv, st, h) = pI st fun i st => pR st fun r st => hIld h r i fun x => aGo fu d (310, 541, lv, .int x :: st, h) := (st_of (kmOf kt310 rfl : KM 310 540 = some (.iaload, 1, 0, 0, .null, none))).trans (RH_iaload)
set_option maxRecDepth 100000 in
theorem s310_541 {fu d : Nat} {lv : LV} {st : List Value} {h : AH} : aGo (fu + 1) d (310, 541, lv, st, h) = lR (ld lv 0) fun x => aGo fu d (310, 542, lv, x :: st, h) := (st_of (kmOf kt310 rfl : KM 310 541 = some (.aload_n 0, 1, 0, 0, .null, none))).trans (RH_aload_n)
set_option maxRecDepth 100000 in
theorem s310_542 {fu d : Nat} {lv : LV} {st : List Value} {h : AH} : aGo (fu + 1) d (310, 542, lv, st, h) = lI (ld lv 4) fun x => aGo fu d (310, 544, lv, .int x :: st, h) := (st_of (kmOf kt310 rfl : KM 310 542 = some (.iload 4, 2, 0, 0, .null, none))).trans (RH_iload)
set_option maxRecDepth 100000 in
theorem s310_544 {fu d : Nat} {lv : LV} {st : List Value} {h : AH} : aGo (fu + 1) d (310, 544, lv, st, h) = aGo fu d (310, 545, lv, (.int (3)) :: st, h) := (st_of (kmOf kt310 rfl : KM 310 544 = some (.iconst 3, 1, 0, 0, (.int (3)), none))).trans (RH_iconst)
set_option maxRecDepth 100000 in
theorem s310_545 {fu d : Nat} {lv : LV} {st : List Value} {h : AH} : aGo (fu + 1) d (310, 545, lv, st, h) = pI st fun y st => pI st fun x st => aGo fu d (310, 546, lv, .int (x + y) :: st, h) := (st_of (kmOf kt310 rfl : KM 310 545 = some (.iadd, 1, 0, 0, .null, none))).trans (RH_iadd)
set_option maxRecDepth 100000 in
theorem s310_546 {fu d : Nat} {lv : LV} {st : List Value} {h : AH} : aGo (fu + 1) d (310, 546, lv, st, h) = pI st fun i st => pR st fun r st => hIld h r i fun x => aGo fu d (310, 547, lv, .int x :: st, h) := (st_of (kmOf kt310 rfl : KM 310 546 = some (.iaload, 1, 0, 0, .null, none))).trans (RH_iaload)
set_option maxRecDepth 100000 in
theorem s310_547 {fu d : Nat} {lv : LV} {st : List Value} {h : AH} : aGo (fu + 1) d (310, 547, lv, st, h) = lR (ld lv 0) fun x => aGo fu d (310, 548, lv, x :: st, h) := (st_of (kmOf kt310 rfl : KM 310 547 = some (.aload_n 0, 1, 0, 0, .null, none))).trans (RH_aload_n)
set_option maxRecDepth 100000 in
theorem s310_548 {fu d : Nat} {lv : LV} {st : List Value} {h : AH} : aGo (fu + 1) d (310, 548, lv, st, h) = lI (ld lv 4) fun x => aGo fu d (310, 550, lv, .int x :: st, h) := (st_of (kmOf kt310 rfl : KM 310 548 = some (.iload 4, 2, 0, 0, .null, none))).trans (RH_iload)
set_option maxRecDepth 100000 in
theorem s310_550 {fu d : Nat} {lv : LV} {st : List Value} {h : AH} : aGo (fu + 1) d (310, 550, lv, st, h) = aGo fu d (310, 551, lv, (.int (4)) :: st, h) := (st_of (kmOf kt310 rfl : KM 310 550 = some (.iconst 4, 1, 0, 0, (.int (4)), none))).trans (RH_iconst)
set_option maxRecDepth 100000 in
theorem s310_551 {fu d : Nat} {lv : LV} {st : List Value} {h : AH} : aGo (fu + 1) d (310, 551, lv, st, h) = pI st fun y st => pI st fun x st => aGo fu d (310, 552, lv, .int (x + y) :: st, h) := (st_of (kmOf kt310 rfl : KM 310 551 = some (.iadd, 1, 0, 0, .null, none))).trans (RH_iadd)
set_option maxRecDepth 100000 in
theorem s310_552 {fu d : Nat} {lv : LV} {st : List Value} {h : AH} : aGo (fu + 1) d (310, 552, lv, st, h) = pI st fun i st => pR st fun r st => hIld h r i fun x => aGo fu d (310, 553, lv, .int x :: st, h) := (st_of (kmOf kt310 rfl : KM 310 552 = some (.iaload, 1, 0, 0, .null, none))).trans (RH_iaload)
set_option maxRecDepth 100000 in
theorem s310_553 {fu d : Nat} {lv : LV} {st : List Value} {h : AH} : aGo (fu + 1) d (310, 553, lv, st, h) = ob (popN 5 st []) fun q => gT (isO h 12 q.1 = true ∧ q.2.length ≤ 12 ∧ (layA q.1).length ≤ MX 221) (ob (aCall d 221 q.1 h) (kont d 310 (556) lv q.2)) := (st_of (kmOf kt310 rfl : KM 310 553 = some (.invokevirtual 58, 3, 221, 5, (.retAddr 12), none))).trans (RH_invokevirtual (by decide))
set_option maxRecDepth 100000 in
theorem s310_556 {fu d : Nat} {lv : LV} {st : List Value} {h : AH} : aGo (fu + 1) d (310, 556, lv, st, h) = pI st fun y st => pI st fun x st => if x = y then aGo fu d (310, 1995, lv, st, h) else aGo fu d (310, 559, lv, st, h) := (st_of (kmOf kt310 rfl : KM 310 556 = some (.if_icmp .eq 1439, 3, 1995, 0, .null, none))).trans (RH_icmp_eq)
set_option maxRecDepth 100000 in
theorem s310_559 {fu d : Nat} {lv : LV} {st : List Value} {h : AH} : aGo (fu + 1) d (310, 559, lv, st, h) = aGo fu d (310, 560, lv, (.int (0)) :: st, h) := (st_of (kmOf kt310 rfl : KM 310 559 = some (.iconst 0, 1, 0, 0, (.int (0)), none))).trans (RH_iconst)
set_option maxRecDepth 100000 in
theorem s310_560 {fu d : Nat} {lv : LV} {st : List Value} {h : AH} : aGo (fu + 1) d (310, 560, lv, st, h) = match st with | [.int x] => gT ((1 = 1 → x = 0 ∨ x = 1) ∧ (1 = 2 → x.toInt8.toInt32 = x)) (some (some (.int x), h)) | _ => none := (st_of (kmOf kt310 rfl : KM 310 560 = some (.ireturn, 1, 1, 0, .null, none))).trans (RH_ireturn)
set_option maxRecDepth 100000 in
theorem s310_561 {fu d : Nat} {lv : LV} {st : List Value} {h : AH} : aGo (fu + 1) d (310, 561, lv, st, h) = lR (ld lv 1) fun x => aGo fu d (310, 562, lv, x :: st, h) := (st_of (kmOf kt310 rfl : KM 310 561 = some (.aload_n 1, 1, 0, 0, .null, none))).trans (RH_aload_n)
set_option maxRecDepth 100000 in
theorem s310_562 {fu d : Nat} {lv : LV} {st : List Value} {h : AH} : aGo (fu + 1) d (310, 562, lv, st, h) = lR (ld lv 0) fun x => aGo fu d (310, 563, lv, x :: st, h) := (st_of (kmOf kt310 rfl : KM 310 562 = some (.aload_n 0, 1, 0, 0, .null, none))).trans (RH_aload_n)
set_option maxRecDepth 100000 in
theorem s310_563 {fu d : Nat} {lv : LV} {st : List Value} {h : AH} : aGo (fu + 1) d (310, 563, lv, st, h) = lI (ld lv 4) fun x => aGo fu d (310, 565, lv, .int x :: st, h) := (st_of (kmOf kt310 rfl : KM 310 563 = some (.iload 4, 2, 0, 0, .null, none))).trans (RH_iload)
set_option maxRecDepth 100000 in
theorem s310_565 {fu d : Nat} {lv : LV} {st : List Value} {h : AH} : aGo (fu + 1) d (310, 565, lv, st, h) = aGo fu d (310, 566, lv, (.int (1)) :: st, h) := (st_of (kmOf kt310 rfl : KM 310 565 = some (.iconst 1, 1, 0, 0, (.int (1)), none))).trans (RH_iconst)
set_option maxRecDepth 100000 in
theorem s310_566 {fu d : Nat} {lv : LV} {st : List Value} {h : AH} : aGo (fu + 1) d (310, 566, lv, st, h) = pI st fun y st => pI st fun x st => aGo fu d (310, 567, lv, .int (x + y) :: st, h) := (st_of (kmOf kt310 rfl : KM 310 566 = some (.iadd, 1, 0, 0, .null, none))).trans (RH_iadd)
set_option maxRecDepth 100000 in
theorem s310_567 {fu d : Nat} {lv : LV} {st : List Value} {h : AH} : aGo (fu + 1) d (310, 567, lv, st, h) = pI st fun i st => pR st fun r st => hIld h r i fun x => aGo fu d (310, 568, lv, .int x :: st, h) := (st_of (kmOf kt310 rfl : KM 310 567 = some (.iaload, 1, 0, 0, .null, none))).trans (RH_iaload)
set_option maxRecDepth 100000 in
theorem s310_568 {fu d : Nat} {lv : LV} {st : List Value} {h : AH} : aGo (fu + 1) d (310, 568, lv, st, h) = lR (ld lv 0) fun x => aGo fu d (310, 569, lv, x :: st, h) := (st_of (kmOf kt310 rfl : KM 310 568 = some (.aload_n 0, 1, 0, 0, .null, none))).trans (RH_aload_n)
set_option maxRecDepth 100000 in
theorem s310_569 {fu d : Nat} {lv : LV} {st : List Value} {h : AH} : aGo (fu + 1) d (310, 569, lv, st, h) = lI (ld lv 4) fun x => aGo fu d (310, 571, lv, .int x :: st, h) := (st_of (kmOf kt310 rfl : KM 310 569 = some (.iload 4, 2, 0, 0, .null, none))).trans (RH_iload)
set_option maxRecDepth 100000 in
theorem s310_571 {fu d : Nat} {lv : LV} {st : List Value} {h : AH} : aGo (fu + 1) d (310, 571, lv, st, h) = aGo fu d (310, 572, lv, (.int (2)) :: st, h) := (st_of (kmOf kt310 rfl : KM 310 571 = some (.iconst 2, 1, 0, 0, (.int (2)), none))).trans (RH_iconst)
set_option maxRecDepth 100000 in
theorem s310_572 {fu d : Nat} {lv : LV} {st : List Value} {h : AH} : aGo (fu + 1) d (310, 572, lv, st, h) = pI st fun y st => pI st fun x st => aGo fu d (310, 573, lv, .int (x + y) :: st, h) := (st_of (kmOf kt310 rfl : KM 310 572 = some (.iadd, 1, 0, 0, .null, none))).trans (RH_iadd)
set_option maxRecDepth 100000 in
theorem s310_573 {fu d : Nat} {lv : LV} {st : List Value} {h : AH} : aGo (fu + 1) d (310, 573, lv, st, h) = pI st fun i st => pR st fun r st => hIld h r i fun x => aGo fu d (310, 574, lv, .int x :: st, h) := (st_of (kmOf kt310 rfl : KM 310 573 = some (.iaload, 1, 0, 0, .null, none))).trans (RH_iaload)
set_option maxRecDepth 100000 in
theorem s310_574 {fu d : Nat} {lv : LV} {st : List Value} {h : AH} : aGo (fu + 1) d (310, 574, lv, st, h) = lR (ld lv 0) fun x => aGo fu d (310, 575, lv, x :: st, h) := (st_of (kmOf kt310 rfl : KM 310 574 = some (.aload_n 0, 1, 0, 0, .null, none))).trans (RH_aload_n)
set_option maxRecDepth 100000 in
theorem s310_575 {fu d : Nat} {lv : LV} {st : List Value} {h : AH} : aGo (fu + 1) d (310, 575, lv, st, h) = lI (ld lv 4) fun x => aGo fu d (310, 577, lv, .int x :: st, h) := (st_of (kmOf kt310 rfl : KM 310 575 = some (.iload 4, 2, 0, 0, .null, none))).trans (RH_iload)
set_option maxRecDepth 100000 in
theorem s310_577 {fu d : Nat} {lv : LV} {st : List Value} {h : AH} : aGo (fu + 1) d (310, 577, lv, st, h) = aGo fu d (310, 578, lv, (.int (3)) :: st, h) := (st_of (kmOf kt310 rfl : KM 310 577 = some (.iconst 3, 1, 0, 0, (.int (3)), none))).trans (RH_iconst)
set_option maxRecDepth 100000 in
theorem s310_578 {fu d : Nat} {lv : LV} {st : List Value} {h : AH} : aGo (fu + 1) d (310, 578, lv, st, h) = pI st fun y st => pI st fun x st => aGo fu d (310, 579, lv, .int (x + y) :: st, h) := (st_of (kmOf kt310 rfl : KM 310 578 = some (.iadd, 1, 0, 0, .null, none))).trans (RH_iadd)
set_option maxRecDepth 100000 in
theorem s310_579 {fu d : Nat} {lv : LV} {st : List Value} {h : AH} : aGo (fu + 1) d (310, 579, lv, st, h) = pI st fun i st => pR st fun r st => hIld h r i fun x => aGo fu d (310, 580, lv, .int x :: st, h) := (st_of (kmOf kt310 rfl : KM 310 579 = some (.iaload, 1, 0, 0, .null, none))).trans (RH_iaload)
set_option maxRecDepth 100000 in
theorem s310_580 {fu d : Nat} {lv : LV} {st : List Value} {h : AH} : aGo (fu + 1) d (310, 580, lv, st, h) = lR (ld lv 0) fun x => aGo fu d (310, 581, lv, x :: st, h) := (st_of (kmOf kt310 rfl : KM 310 580 = some (.aload_n 0, 1, 0, 0, .null, none))).trans (RH_aload_n)
set_option maxRecDepth 100000 in
theorem s310_581 {fu d : Nat} {lv : LV} {st : List Value} {h : AH} : aGo (fu + 1) d (310, 581, lv, st, h) = lI (ld lv 4) fun x => aGo fu d (310, 583, lv, .int x :: st, h) := (st_of (kmOf kt310 rfl : KM 310 581 = some (.iload 4, 2, 0, 0, .null, none))).trans (RH_iload)
set_option maxRecDepth 100000 in
theorem s310_583 {fu d : Nat} {lv : LV} {st : List Value} {h : AH} : aGo (fu + 1) d (310, 583, lv, st, h) = aGo fu d (310, 584, lv, (.int (4)) :: st, h) := (st_of (kmOf kt310 rfl : KM 310 583 = some (.iconst 4, 1, 0, 0, (.int (4)), none))).trans (RH_iconst)
set_option maxRecDepth 100000 in
theorem s310_584 {fu d : Nat} {lv : LV} {st : List Value} {h : AH} : aGo (fu + 1) d (310, 584, lv, st, h) = pI st fun y st => pI st fun x st => aGo fu d (310, 585, lv, .int (x + y) :: st, h) := (st_of (kmOf kt310 rfl : KM 310 584 = some (.iadd, 1, 0, 0, .null, none))).trans (RH_iadd)
set_option maxRecDepth 100000 in
theorem s310_585 {fu d : Nat} {lv : LV} {st : List Value} {h : AH} : aGo (fu + 1) d (310, 585, lv, st, h) = pI st fun i st => pR st fun r st => hIld h r i fun x => aGo fu d (310, 586, lv, .int x :: st, h) := (st_of (kmOf kt310 rfl : KM 310 585 = some (.iaload, 1, 0, 0, .null, none))).trans (RH_iaload)
set_option maxRecDepth 100000 in
theorem s310_586 {fu d : Nat} {lv : LV} {st : List Value} {h : AH} : aGo (fu + 1) d (310, 586, lv, st, h) = lR (ld lv 0) fun x => aGo fu d (310, 587, lv, x :: st, h) := (st_of (kmOf kt310 rfl : KM 310 586 = some (.aload_n 0, 1, 0, 0, .null, none))).trans (RH_aload_n)
set_option maxRecDepth 100000 in
theorem s310_587 {fu d : Nat} {lv : LV} {st : List Value} {h : AH} : aGo (fu + 1) d (310, 587, lv, st, h) = lI (ld lv 4) fun x => aGo fu d (310, 589, lv, .int x :: st, h) := (st_of (kmOf kt310 rfl : KM 310 587 = some (.iload 4, 2, 0, 0, .null, none))).trans (RH_iload)
set_option maxRecDepth 100000 in
theorem s310_589 {fu d : Nat} {lv : LV} {st : List Value} {h : AH} : aGo (fu + 1) d (310, 589, lv, st, h) = aGo fu d (310, 590, lv, (.int (5)) :: st, h) := (st_of (kmOf kt310 rfl : KM 310 589 = some (.iconst 5, 1, 0, 0, (.int (5)), none))).trans (RH_iconst)
set_option maxRecDepth 100000 in
theorem s310_590 {fu d : Nat} {lv : LV} {st : List Value} {h : AH} : aGo (fu + 1) d (310, 590, lv, st, h) = pI st fun y st => pI st fun x st => aGo fu d (310, 591, lv, .int (x + y) :: st, h) := (st_of (kmOf kt310 rfl : KM 310 590 = some (.iadd, 1, 0, 0, .null, none))).trans (RH_iadd)
set_option maxRecDepth 100000 in
theorem s310_591 {fu d : Nat} {lv : LV} {st : List Value} {h : AH} : aGo (fu + 1) d (310, 591, lv, st, h) = pI st fun i st => pR st fun r st => hIld h r i fun x => aGo fu d (310, 592, lv, .int x :: st, h) := (st_of (kmOf kt310 rfl : KM 310 591 = some (.iaload, 1, 0, 0, .null, none))).trans (RH_iaload)
set_option maxRecDepth 100000 in
theorem s310_592 {fu d : Nat} {lv : LV} {st : List Value} {h : AH} : aGo (fu + 1) d (310, 592, lv, st, h) = ob (popN 6 st []) fun q => gT (isO h 11 q.1 = true ∧ q.2.length ≤ 12 ∧ (layA q.1).length ≤ MX 127) (ob (aCall d 127 q.1 h) (kont d 310 (595) lv q.2)) := (st_of (kmOf kt310 rfl : KM 310 592 = some (.invokevirtual 59, 3, 127, 6, (.retAddr 11), none))).trans (RH_invokevirtual (by decide))
set_option maxRecDepth 100000 in
theorem s310_595 {fu d : Nat} {lv : LV} {st : List Value} {h : AH} : aGo (fu + 1) d (310, 595, lv, st, h) = lR (ld lv 2) fun x => aGo fu d (310, 596, lv, x :: st, h) := (st_of (kmOf kt310 rfl : KM 310 595 = some (.aload_n 2, 1, 0, 0, .null, none))).trans (RH_aload_n)
set_option maxRecDepth 100000 in
theorem s310_596 {fu d : Nat} {lv : LV} {st : List Value} {h : AH} : aGo (fu + 1) d (310, 596, lv, st, h) = lR (ld lv 0) fun x => aGo fu d (310, 597, lv, x :: st, h) := (st_of (kmOf kt310 rfl : KM 310 596 = some (.aload_n 0, 1, 0, 0, .null, none))).trans (RH_aload_n)
set_option maxRecDepth 100000 in
theorem s310_597 {fu d : Nat} {lv : LV} {st : List Value} {h : AH} : aGo (fu + 1) d (310, 597, lv, st, h) = lI (ld lv 4) fun x => aGo fu d (310, 599, lv, .int x :: st, h) := (st_of (kmOf kt310 rfl : KM 310 597 = some (.iload 4, 2, 0, 0, .null, none))).trans (RH_iload)
set_option maxRecDepth 100000 in
theorem s310_599 {fu d : Nat} {lv : LV} {st : List Value} {h : AH} : aGo (fu + 1) d (310, 599, lv, st, h) = aGo fu d (310, 600, lv, (.int (1)) :: st, h) := (st_of (kmOf kt310 rfl : KM 310 599 = some (.iconst 1, 1, 0, 0, (.int (1)), none))).trans (RH_iconst)
set_option maxRecDepth 100000 in
theorem s310_600 {fu d : Nat} {lv : LV} {st : List Value} {h : AH} : aGo (fu + 1) d (310, 600, lv, st, h) = pI st fun y st => pI st fun x st => aGo fu d (310, 601, lv, .int (x + y) :: st, h) := (st_of (kmOf kt310 rfl : KM 310 600 = some (.iadd, 1, 0, 0, .null, none))).trans (RH_iadd)
set_option maxRecDepth 100000 in
theorem s310_601 {fu d : Nat} {lv : LV} {st : List Value} {h : AH} : aGo (fu + 1) d (310, 601, lv, st, h) = pI st fun i st => pR st fun r st => hIld h r i fun x => aGo fu d (310, 602, lv, .int x :: st, h) := (st_of (kmOf kt310 rfl : KM 310 601 = some (.iaload, 1, 0, 0, .null, none))).trans (RH_iaload)
set_option maxRecDepth 100000 in
theorem s310_602 {fu d : Nat} {lv : LV} {st : List Value} {h : AH} : aGo (fu + 1) d (310, 602, lv, st, h) = lR (ld lv 0) fun x => aGo fu d (310, 603, lv, x :: st, h) := (st_of (kmOf kt310 rfl : KM 310 602 = some (.aload_n 0, 1, 0, 0, .null, none))).trans (RH_aload_n)
set_option maxRecDepth 100000 in
theorem s310_603 {fu d : Nat} {lv : LV} {st : List Value} {h : AH} : aGo (fu + 1) d (310, 603, lv, st, h) = lI (ld lv 4) fun x => aGo fu d (310, 605, lv, .int x :: st, h) := (st_of (kmOf kt310 rfl : KM 310 603 = some (.iload 4, 2, 0, 0, .null, none))).trans (RH_iload)
set_option maxRecDepth 100000 in
theorem s310_605 {fu d : Nat} {lv : LV} {st : List Value} {h : AH} : aGo (fu + 1) d (310, 605, lv, st, h) = aGo fu d (310, 606, lv, (.int (2)) :: st, h) := (st_of (kmOf kt310 rfl : KM 310 605 = some (.iconst 2, 1, 0, 0, (.int (2)), none))).trans (RH_iconst)
set_option maxRecDepth 100000 in
theorem s310_606 {fu d : Nat} {lv : LV} {st : List Value} {h : AH} : aGo (fu + 1) d (310, 606, lv, st, h) = pI st fun y st => pI st fun x st => aGo fu d (310, 607, lv, .int (x + y) :: st, h) := (st_of (kmOf kt310 rfl : KM 310 606 = some (.iadd, 1, 0, 0, .null, none))).trans (RH_iadd)
set_option maxRecDepth 100000 in
theorem s310_607 {fu d : Nat} {lv : LV} {st : List Value} {h : AH} : aGo (fu + 1) d (310, 607, lv, st, h) = pI st fun i st => pR st fun r st => hIld h r i fun x => aGo fu d (310, 608, lv, .int x :: st, h) := (st_of (kmOf kt310 rfl : KM 310 607 = some (.iaload, 1, 0, 0, .null, none))).trans (RH_iaload)
set_option maxRecDepth 100000 in
theorem s310_608 {fu d : Nat} {lv : LV} {st : List Value} {h : AH} : aGo (fu + 1) d (310, 608, lv, st, h) = lR (ld lv 0) fun x => aGo fu d (310, 609, lv, x :: st, h) := (st_of (kmOf kt310 rfl : KM 310 608 = some (.aload_n 0, 1, 0, 0, .null, none))).trans (RH_aload_n)
set_option maxRecDepth 100000 in
theorem s310_609 {fu d : Nat} {lv : LV} {st : List Value} {h : AH} : aGo (fu + 1) d (310, 609, lv, st, h) = lI (ld lv 4) fun x => aGo fu d (310, 611, lv, .int x :: st, h) := (st_of (kmOf kt310 rfl : KM 310 609 = some (.iload 4, 2, 0, 0, .null, none))).trans (RH_iload)
set_option maxRecDepth 100000 in
theorem s310_611 {fu d : Nat} {lv : LV} {st : List Value} {h : AH} : aGo (fu + 1) d (310, 611, lv, st, h) = aGo fu d (310, 612, lv, (.int (3)) :: st, h) := (st_of (kmOf kt310 rfl : KM 310 611 = some (.iconst 3, 1, 0, 0, (.int (3)), none))).trans (RH_iconst)
set_option maxRecDepth 100000 in
theorem s310_612 {fu d : Nat} {lv : LV} {st : List Value} {h : AH} : aGo (fu + 1) d (310, 612, lv, st, h) = pI st fun y st => pI st fun x st => aGo fu d (310, 613, lv, .int (x + y) :: st, h) := (st_of (kmOf kt310 rfl : KM 310 612 = some (.iadd, 1, 0, 0, .null, none))).trans (RH_iadd)
set_option maxRecDepth 100000 in
theorem s310_613 {fu d : Nat} {lv : LV} {st : List Value} {h : AH} : aGo (fu + 1) d (310, 613, lv, st, h) = pI st fun i st => pR st fun r st => hIld h r i fun x => aGo fu d (310, 614, lv, .int x :: st, h) := (st_of (kmOf kt310 rfl : KM 310 613 = some (.iaload, 1, 0, 0, .null, none))).trans (RH_iaload)
set_option maxRecDepth 100000 in
theorem s310_614 {fu d : Nat} {lv : LV} {st : List Value} {h : AH} : aGo (fu + 1) d (310, 614, lv, st, h) = lR (ld lv 0) fun x => aGo fu d (310, 615, lv, x :: st, h) := (st_of (kmOf kt310 rfl : KM 310 614 = some (.aload_n 0, 1, 0, 0, .null, none))).trans (RH_aload_n)
set_option maxRecDepth 100000 in
theorem s310_615 {fu d : Nat} {lv : LV} {st : List Value} {h : AH} : aGo (fu + 1) d (310, 615, lv, st, h) = lI (ld lv 4) fun x => aGo fu d (310, 617, lv, .int x :: st, h) := (st_of (kmOf kt310 rfl : KM 310 615 = some (.iload 4, 2, 0, 0, .null, none))).trans (RH_iload)
set_option maxRecDepth 100000 in
theorem s310_617 {fu d : Nat} {lv : LV} {st : List Value} {h : AH} : aGo (fu + 1) d (310, 617, lv, st, h) = aGo fu d (310, 618, lv, (.int (4)) :: st, h) := (st_of (kmOf kt310 rfl : KM 310 617 = some (.iconst 4, 1, 0, 0, (.int (4)), none))).trans (RH_iconst)
set_option maxRecDepth 100000 in
theorem s310_618 {fu d : Nat} {lv : LV} {st : List Value} {h : AH} : aGo (fu + 1) d (310, 618, lv, st, h) = pI st fun y st => pI st fun x st => aGo fu d (310, 619, lv, .int (x + y) :: st, h) := (st_of (kmOf kt310 rfl : KM 310 618 = some (.iadd, 1, 0, 0, .null, none))).trans (RH_iadd)
set_option maxRecDepth 100000 in
theorem s310_619 {fu d : Nat} {lv : LV} {st : List Value} {h : AH} : aGo (fu + 1) d (310, 619, lv, st, h) = pI st fun i st => pR st fun r st => hIld h r i fun x => aGo fu d (310, 620, lv, .int x :: st, h) := (st_of (kmOf kt310 rfl : KM 310 619 = some (.iaload, 1, 0, 0, .null, none))).trans (RH_iaload)
set_option maxRecDepth 100000 in
theorem s310_620 {fu d : Nat} {lv : LV} {st : List Value} {h : AH} : aGo (fu + 1) d (310, 620, lv, st, h) = lR (ld lv 0) fun x => aGo fu d (310, 621, lv, x :: st, h) := (st_of (kmOf kt310 rfl : KM 310 620 = some (.aload_n 0, 1, 0, 0, .null, none))).trans (RH_aload_n)
set_option maxRecDepth 100000 in
theorem s310_621 {fu d : Nat} {lv : LV} {st : List Value} {h : AH} : aGo (fu + 1) d (310, 621, lv, st, h) = lI (ld lv 4) fun x => aGo fu d (310, 623, lv, .int x :: st, h) := (st_of (kmOf kt310 rfl : KM 310 621 = some (.iload 4, 2, 0, 0, .null, none))).trans (RH_iload)
set_option maxRecDepth 100000 in
theorem s310_623 {fu d : Nat} {lv : LV} {st : List Value} {h : AH} : aGo (fu + 1) d (310, 623, lv, st, h) = aGo fu d (310, 624, lv, (.int (5)) :: st, h) := (st_of (kmOf kt310 rfl : KM 310 623 = some (.iconst 5, 1, 0, 0, (.int (5)), none))).trans (RH_iconst)
set_option maxRecDepth 100000 in
theorem s310_624 {fu d : Nat} {lv : LV} {st : List Value} {h : AH} : aGo (fu + 1) d (310, 624, lv, st, h) = pI st fun y st => pI st fun x st => aGo fu d (310, 625, lv, .int (x + y) :: st, h) := (st_of (kmOf kt310 rfl : KM 310 624 = some (.iadd, 1, 0, 0, .null, none))).trans (RH_iadd)
set_option maxRecDepth 100000 in
theorem s310_625 {fu d : Nat} {lv : LV} {st : List Value} {h : AH} : aGo (fu + 1) d (310, 625, lv, st, h) = pI st fun i st => pR st fun r st => hIld h r i fun x => aGo fu d (310, 626, lv, .int x :: st, h) := (st_of (kmOf kt310 rfl : KM 310 625 = some (.iaload, 1, 0, 0, .null, none))).trans (RH_iaload)
set_option maxRecDepth 100000 in
theorem s310_626 {fu d : Nat} {lv : LV} {st : List Value} {h : AH} : aGo (fu + 1) d (310, 626, lv, st, h) = ob (popN 6 st []) fun q => gT (isO h 12 q.1 = true ∧ q.2.length ≤ 12 ∧ (layA q.1).length ≤ MX 223) (ob (aCall d 223 q.1 h) (kont d 310 (629) lv q.2)) := (st_of (kmOf kt310 rfl : KM 310 626 = some (.invokevirtual 63, 3, 223, 6, (.retAddr 12), none))).trans (RH_invokevirtual (by decide))
set_option maxRecDepth 100000 in
theorem s310_629 {fu d : Nat} {lv : LV} {st : List Value} {h : AH} : aGo (fu + 1) d (310, 629, lv, st, h) = pI st fun y st => pI st fun x st => if x = y then aGo fu d (310, 1995, lv, st, h) else aGo fu d (310, 632, lv, st, h) := (st_of (kmOf kt310 rfl : KM 310 629 = some (.if_icmp .eq 1366, 3, 1995, 0, .null, none))).trans (RH_icmp_eq)
set_option maxRecDepth 100000 in
theorem s310_632 {fu d : Nat} {lv : LV} {st : List Value} {h : AH} : aGo (fu + 1) d (310, 632, lv, st, h) = aGo fu d (310, 633, lv, (.int (0)) :: st, h) := (st_of (kmOf kt310 rfl : KM 310 632 = some (.iconst 0, 1, 0, 0, (.int (0)), none))).trans (RH_iconst)
set_option maxRecDepth 100000 in
theorem s310_633 {fu d : Nat} {lv : LV} {st : List Value} {h : AH} : aGo (fu + 1) d (310, 633, lv, st, h) = match st with | [.int x] => gT ((1 = 1 → x = 0 ∨ x = 1) ∧ (1 = 2 → x.toInt8.toInt32 = x)) (some (some (.int x), h)) | _ => none := (st_of (kmOf kt310 rfl : KM 310 633 = some (.ireturn, 1, 1, 0, .null, none))).trans (RH_ireturn)
set_option maxRecDepth 100000 in
theorem s310_634 {fu d : Nat} {lv : LV} {st : List Value} {h : AH} : aGo (fu + 1) d (310, 634, lv, st, h) = lR (ld lv 1) fun x => aGo fu d (310, 635, lv, x :: st, h) := (st_of (kmOf kt310 rfl : KM 310 634 = some (.aload_n 1, 1, 0, 0, .null, none))).trans (RH_aload_n)
set_option maxRecDepth 100000 in
theorem s310_635 {fu d : Nat} {lv : LV} {st : List Value} {h : AH} : aGo (fu + 1) d (310, 635, lv, st, h) = lR (ld lv 0) fun x => aGo fu d (310, 636, lv, x :: st, h) := (st_of (kmOf kt310 rfl : KM 310 635 = some (.aload_n 0, 1, 0, 0, .null, none))).trans (RH_aload_n)
set_option maxRecDepth 100000 in
theorem s310_636 {fu d : Nat} {lv : LV} {st : List Value} {h : AH} : aGo (fu + 1) d (310, 636, lv, st, h) = lI (ld lv 4) fun x => aGo fu d (310, 638, lv, .int x :: st, h) := (st_of (kmOf kt310 rfl : KM 310 636 = some (.iload 4, 2, 0, 0, .null, none))).trans (RH_iload)
set_option maxRecDepth 100000 in
theorem s310_638 {fu d : Nat} {lv : LV} {st : List Value} {h : AH} : aGo (fu + 1) d (310, 638, lv, st, h) = aGo fu d (310, 639, lv, (.int (1)) :: st, h) := (st_of (kmOf kt310 rfl : KM 310 638 = some (.iconst 1, 1, 0, 0, (.int (1)), none))).trans (RH_iconst)
set_option maxRecDepth 100000 in
theorem s310_639 {fu d : Nat} {lv : LV} {st : List Value} {h : AH} : aGo (fu + 1) d (310, 639, lv, st, h) = pI st fun y st => pI st fun x st => aGo fu d (310, 640, lv, .int (x + y) :: st, h) := (st_of (kmOf kt310 rfl : KM 310 639 = some (.iadd, 1, 0, 0, .null, none))).trans (RH_iadd)
set_option maxRecDepth 100000 in
theorem s310_640 {fu d : Nat} {lv : LV} {st : List Value} {h : AH} : aGo (fu + 1) d (310, 640, lv, st, h) = pI st fun i st => pR st fun r st => hIld h r i fun x => aGo fu d (310, 641, lv, .int x :: st, h) := (st_of (kmOf kt310 rfl : KM 310 640 = some (.iaload, 1, 0, 0, .null, none))).trans (RH_iaload)
set_option maxRecDepth 100000 in
theorem s310_641 {fu d : Nat} {lv : LV} {st : List Value} {h : AH} : aGo (fu + 1) d (310, 641, lv, st, h) = lR (ld lv 0) fun x => aGo fu d (310, 642, lv, x :: st, h) := (st_of (kmOf kt310 rfl : KM 310 641 = some (.aload_n 0, 1, 0, 0, .null, none))).trans (RH_aload_n)
set_option maxRecDepth 100000 in
theorem s310_642 {fu d : Nat} {lv : LV} {st : List Value} {h : AH} : aGo (fu + 1) d (310, 642, lv, st, h) = lI (ld lv 4) fun x => aGo fu d (310, 644, lv, .int x :: st, h) := (st_of (kmOf kt310 rfl : KM 310 642 = some (.iload 4, 2, 0, 0, .null, none))).trans (RH_iload)
set_option maxRecDepth 100000 in
theorem s310_644 {fu d : Nat} {lv : LV} {st : List Value} {h : AH} : aGo (fu + 1) d (310, 644, lv, st, h) = aGo fu d (310, 645, lv, (.int (2)) :: st, h) := (st_of (kmOf kt310 rfl : KM 310 644 = some (.iconst 2, 1, 0, 0, (.int (2)), none))).trans (RH_iconst)
set_option maxRecDepth 100000 in
theorem s310_645 {fu d : Nat} {lv : LV} {st : List Value} {h : AH} : aGo (fu + 1) d (310, 645, lv, st, h) = pI st fun y st => pI st fun x st => aGo fu d (310, 646, lv, .int (x + y) :: st, h) := (st_of (kmOf kt310 rfl : KM 310 645 = some (.iadd, 1, 0, 0, .null, none))).trans (RH_iadd)
set_option maxRecDepth 100000 in
theorem s310_646 {fu d : Nat} {lv : LV} {st : List Value} {h : AH} : aGo (fu + 1) d (310, 646, lv, st, h) = pI st fun i st => pR st fun r st => hIld h r i fun x => aGo fu d (310, 647, lv, .int x :: st, h) := (st_of (kmOf kt310 rfl : KM 310 646 = some (.iaload, 1, 0, 0, .null, none))).trans (RH_iaload)
set_option maxRecDepth 100000 in
theorem s310_647 {fu d : Nat} {lv : LV} {st : List Value} {h : AH} : aGo (fu + 1) d (310, 647, lv, st, h) = ob (popN 3 st []) fun q => gT (isO h 11 q.1 = true ∧ q.2.length ≤ 12 ∧ (layA q.1).length ≤ MX 128) (ob (aCall d 128 q.1 h) (kont d 310 (650) lv q.2)) := (st_of (kmOf kt310 rfl : KM 310 647 = some (.invokevirtual 64, 3, 128, 3, (.retAddr 11), none))).trans (RH_invokevirtual (by decide))
set_option maxRecDepth 100000 in
theorem s310_650 {fu d : Nat} {lv : LV} {st : List Value} {h : AH} : aGo (fu + 1) d (310, 650, lv, st, h) = lR (ld lv 2) fun x => aGo fu d (310, 651, lv, x :: st, h) := (st_of (kmOf kt310 rfl : KM 310 650 = some (.aload_n 2, 1, 0, 0, .null, none))).trans (RH_aload_n)
set_option maxRecDepth 100000 in
theorem s310_651 {fu d : Nat} {lv : LV} {st : List Value} {h : AH} : aGo (fu + 1) d (310, 651, lv, st, h) = lR (ld lv 0) fun x => aGo fu d (310, 652, lv, x :: st, h) := (st_of (kmOf kt310 rfl : KM 310 651 = some (.aload_n 0, 1, 0, 0, .null, none))).trans (RH_aload_n)
set_option maxRecDepth 100000 in
theorem s310_652 {fu d : Nat} {lv : LV} {st : List Value} {h : AH} : aGo (fu + 1) d (310, 652, lv, st, h) = lI (ld lv 4) fun x => aGo fu d (310, 654, lv, .int x :: st, h) := (st_of (kmOf kt310 rfl : KM 310 652 = some (.iload 4, 2, 0, 0, .null, none))).trans (RH_iload)
set_option maxRecDepth 100000 in
theorem s310_654 {fu d : Nat} {lv : LV} {st : List Value} {h : AH} : aGo (fu + 1) d (310, 654, lv, st, h) = aGo fu d (310, 655, lv, (.int (1)) :: st, h) := (st_of (kmOf kt310 rfl : KM 310 654 = some (.iconst 1, 1, 0, 0, (.int (1)), none))).trans (RH_iconst)
set_option maxRecDepth 100000 in
theorem s310_655 {fu d : Nat} {lv : LV} {st : List Value} {h : AH} : aGo (fu + 1) d (310, 655, lv, st, h) = pI st fun y st => pI st fun x st => aGo fu d (310, 656, lv, .int (x + y) :: st, h) := (st_of (kmOf kt310 rfl : KM 310 655 = some (.iadd, 1, 0, 0, .null, none))).trans (RH_iadd)
set_option maxRecDepth 100000 in
theorem s310_656 {fu d : Nat} {lv : LV} {st : List Value} {h : AH} : aGo (fu + 1) d (310, 656, lv, st, h) = pI st fun i st => pR st fun r st => hIld h r i fun x => aGo fu d (310, 657, lv, .int x :: st, h) := (st_of (kmOf kt310 rfl : KM 310 656 = some (.iaload, 1, 0, 0, .null, none))).trans (RH_iaload)
set_option maxRecDepth 100000 in
theorem s310_657 {fu d : Nat} {lv : LV} {st : List Value} {h : AH} : aGo (fu + 1) d (310, 657, lv, st, h) = lR (ld lv 0) fun x => aGo fu d (310, 658, lv, x :: st, h) := (st_of (kmOf kt310 rfl : KM 310 657 = some (.aload_n 0, 1, 0, 0, .null, none))).trans (RH_aload_n)
set_option maxRecDepth 100000 in
theorem s310_658 {fu d : Nat} {lv : LV} {st : List Value} {h : AH} : aGo (fu + 1) d (310, 658, lv, st, h) = lI (ld lv 4) fun x => aGo fu d (310, 660, lv, .int x :: st, h) := (st_of (kmOf kt310 rfl : KM 310 658 = some (.iload 4, 2, 0, 0, .null, none))).trans (RH_iload)
set_option maxRecDepth 100000 in
theorem s310_660 {fu d : Nat} {lv : LV} {st : List Value} {h : AH} : aGo (fu + 1) d (310, 660, lv, st, h) = aGo fu d (310, 661, lv, (.int (2)) :: st, h) := (st_of (kmOf kt310 rfl : KM 310 660 = some (.iconst 2, 1, 0, 0, (.int (2)), none))).trans (RH_iconst)
set_option maxRecDepth 100000 in
theorem s310_661 {fu d : Nat} {lv : LV} {st : List Value} {h : AH} : aGo (fu + 1) d (310, 661, lv, st, h) = pI st fun y st => pI st fun x st => aGo fu d (310, 662, lv, .int (x + y) :: st, h) := (st_of (kmOf kt310 rfl : KM 310 661 = some (.iadd, 1, 0, 0, .null, none))).trans (RH_iadd)
set_option maxRecDepth 100000 in
theorem s310_662 {fu d : Nat} {lv : LV} {st : List Value} {h : AH} : aGo (fu + 1) d (310, 662, lv, st, h) = pI st fun i st => pR st fun r st => hIld h r i fun x => aGo fu d (310, 663, lv, .int x :: st, h) := (st_of (kmOf kt310 rfl : KM 310 662 = some (.iaload, 1, 0, 0, .null, none))).trans (RH_iaload)
set_option maxRecDepth 100000 in
theorem s310_663 {fu d : Nat} {lv : LV} {st : List Value} {h : AH} : aGo (fu + 1) d (310, 663, lv, st, h) = ob (popN 3 st []) fun q => gT (isO h 12 q.1 = true ∧ q.2.length ≤ 12 ∧ (layA q.1).length ≤ MX 224) (ob (aCall d 224 q.1 h) (kont d 310 (666) lv q.2)) := (st_of (kmOf kt310 rfl : KM 310 663 = some (.invokevirtual 68, 3, 224, 3, (.retAddr 12), none))).trans (RH_invokevirtual (by decide))
set_option maxRecDepth 100000 in
theorem s310_666 {fu d : Nat} {lv : LV} {st : List Value} {h : AH} : aGo (fu + 1) d (310, 666, lv, st, h) = pI st fun y st => pI st fun x st => if x = y then aGo fu d (310, 1995, lv, st, h) else aGo fu d (310, 669, lv, st, h) := (st_of (kmOf kt310 rfl : KM 310 666 = some (.if_icmp .eq 1329, 3, 1995, 0, .null, none))).trans (RH_icmp_eq)
set_option maxRecDepth 100000 in
theorem s310_669 {fu d : Nat} {lv : LV} {st : List Value} {h : AH} : aGo (fu + 1) d (310, 669, lv, st, h) = aGo fu d (310, 670, lv, (.int (0)) :: st, h) := (st_of (kmOf kt310 rfl : KM 310 669 = some (.iconst 0, 1, 0, 0, (.int (0)), none))).trans (RH_iconst)
set_option maxRecDepth 100000 in
theorem s310_670 {fu d : Nat} {lv : LV} {st : List Value} {h : AH} : aGo (fu + 1) d (310, 670, lv, st, h) = match st with | [.int x] => gT ((1 = 1 → x = 0 ∨ x = 1) ∧ (1 = 2 → x.toInt8.toInt32 = x)) (some (some (.int x), h)) | _ => none := (st_of (kmOf kt310 rfl : KM 310 670 = some (.ireturn, 1, 1, 0, .null, none))).trans (RH_ireturn)
set_option maxRecDepth 100000 in
theorem s310_671 {fu d : Nat} {lv : LV} {st : List Value} {h : AH} : aGo (fu + 1) d (310, 671, lv, st, h) = lR (ld lv 1) fun x => aGo fu d (310, 672, lv, x :: st, h) := (st_of (kmOf kt310 rfl : KM 310 671 = some (.aload_n 1, 1, 0, 0, .null, none))).trans (RH_aload_n)
set_option maxRecDepth 100000 in
theorem s310_672 {fu d : Nat} {lv : LV} {st : List Value} {h : AH} : aGo (fu + 1) d (310, 672, lv, st, h) = lR (ld lv 0) fun x => aGo fu d (310, 673, lv, x :: st, h) := (st_of (kmOf kt310 rfl : KM 310 672 = some (.aload_n 0, 1, 0, 0, .null, none))).trans (RH_aload_n)
set_option maxRecDepth 100000 in
theorem s310_673 {fu d : Nat} {lv : LV} {st : List Value} {h : AH} : aGo (fu + 1) d (310, 673, lv, st, h) = lI (ld lv 4) fun x => aGo fu d (310, 675, lv, .int x :: st, h) := (st_of (kmOf kt310 rfl : KM 310 673 = some (.iload 4, 2, 0, 0, .null, none))).trans (RH_iload)
set_option maxRecDepth 100000 in
theorem s310_675 {fu d : Nat} {lv : LV} {st : List Value} {h : AH} : aGo (fu + 1) d (310, 675, lv, st, h) = aGo fu d (310, 676, lv, (.int (1)) :: st, h) := (st_of (kmOf kt310 rfl : KM 310 675 = some (.iconst 1, 1, 0, 0, (.int (1)), none))).trans (RH_iconst)
set_option maxRecDepth 100000 in
theorem s310_676 {fu d : Nat} {lv : LV} {st : List Value} {h : AH} : aGo (fu + 1) d (310, 676, lv, st, h) = pI st fun y st => pI st fun x st => aGo fu d (310, 677, lv, .int (x + y) :: st, h) := (st_of (kmOf kt310 rfl : KM 310 676 = some (.iadd, 1, 0, 0, .null, none))).trans (RH_iadd)
set_option maxRecDepth 100000 in
theorem s310_677 {fu d : Nat} {lv : LV} {st : List Value} {h : AH} : aGo (fu + 1) d (310, 677, lv, st, h) = pI st fun i st => pR st fun r st => hIld h r i fun x => aGo fu d (310, 678, lv, .int x :: st, h) := (st_of (kmOf kt310 rfl : KM 310 677 = some (.iaload, 1, 0, 0, .null, none))).trans (RH_iaload)
set_option maxRecDepth 100000 in
theorem s310_678 {fu d : Nat} {lv : LV} {st : List Value} {h : AH} : aGo (fu + 1) d (310, 678, lv, st, h) = lR (ld lv 0) fun x => aGo fu d (310, 679, lv, x :: st, h) := (st_of (kmOf kt310 rfl : KM 310 678 = some (.aload_n 0, 1, 0, 0, .null, none))).trans (RH_aload_n)
set_option maxRecDepth 100000 in
theorem s310_679 {fu d : Nat} {lv : LV} {st : List Value} {h : AH} : aGo (fu + 1) d (310, 679, lv, st, h) = lI (ld lv 4) fun x => aGo fu d (310, 681, lv, .int x :: st, h) := (st_of (kmOf kt310 rfl : KM 310 679 = some (.iload 4, 2, 0, 0, .null, none))).trans (RH_iload)
set_option maxRecDepth 100000 in
theorem s310_681 {fu d : Nat} {lv : LV} {st : List Value} {h : AH} : aGo (fu + 1) d (310, 681, lv, st, h) = aGo fu d (310, 682, lv, (.int (2)) :: st, h) := (st_of (kmOf kt310 rfl : KM 310 681 = some (.iconst 2, 1, 0, 0, (.int (2)), none))).trans (RH_iconst)
set_option maxRecDepth 100000 in
theorem s310_682 {fu d : Nat} {lv : LV} {st : List Value} {h : AH} : aGo (fu + 1) d (310, 682, lv, st, h) = pI st fun y st => pI st fun x st => aGo fu d (310, 683, lv, .int (x + y) :: st, h) := (st_of (kmOf kt310 rfl : KM 310 682 = some (.iadd, 1, 0, 0, .null, none))).trans (RH_iadd)
set_option maxRecDepth 100000 in
theorem s310_683 {fu d : Nat} {lv : LV} {st : List Value} {h : AH} : aGo (fu + 1) d (310, 683, lv, st, h) = pI st fun i st => pR st fun r st => hIld h r i fun x => aGo fu d (310, 684, lv, .int x :: st, h) := (st_of (kmOf kt310 rfl : KM 310 683 = some (.iaload, 1, 0, 0, .null, none))).trans (RH_iaload)
set_option maxRecDepth 100000 in
theorem s310_684 {fu d : Nat} {lv : LV} {st : List Value} {h : AH} : aGo (fu + 1) d (310, 684, lv, st, h) = lR (ld lv 0) fun x => aGo fu d (310, 685, lv, x :: st, h) := (st_of (kmOf kt310 rfl : KM 310 684 = some (.aload_n 0, 1, 0, 0, .null, none))).trans (RH_aload_n)
set_option maxRecDepth 100000 in
theorem s310_685 {fu d : Nat} {lv : LV} {st : List Value} {h : AH} : aGo (fu + 1) d (310, 685, lv, st, h) = lI (ld lv 4) fun x => aGo fu d (310, 687, lv, .int x :: st, h) := (st_of (kmOf kt310 rfl : KM 310 685 = some (.iload 4, 2, 0, 0, .null, none))).trans (RH_iload)
set_option maxRecDepth 100000 in
theorem s310_687 {fu d : Nat} {lv : LV} {st : List Value} {h : AH} : aGo (fu + 1) d (310, 687, lv, st, h) = aGo fu d (310, 688, lv, (.int (3)) :: st, h) := (st_of (kmOf kt310 rfl : KM 310 687 = some (.iconst 3, 1, 0, 0, (.int (3)), none))).trans (RH_iconst)
set_option maxRecDepth 100000 in
theorem s310_688 {fu d : Nat} {lv : LV} {st : List Value} {h : AH} : aGo (fu + 1) d (310, 688, lv, st, h) = pI st fun y st => pI st fun x st => aGo fu d (310, 689, lv, .int (x + y) :: st, h) := (st_of (kmOf kt310 rfl : KM 310 688 = some (.iadd, 1, 0, 0, .null, none))).trans (RH_iadd)
set_option maxRecDepth 100000 in
theorem s310_689 {fu d : Nat} {lv : LV} {st : List Value} {h : AH} : aGo (fu + 1) d (310, 689, lv, st, h) = pI st fun i st => pR st fun r st => hIld h r i fun x => aGo fu d (310, 690, lv, .int x :: st, h) := (st_of (kmOf kt310 rfl : KM 310 689 = some (.iaload, 1, 0, 0, .null, none))).trans (RH_iaload)
set_option maxRecDepth 100000 in
theorem s310_690 {fu d : Nat} {lv : LV} {st : List Value} {h : AH} : aGo (fu + 1) d (310, 690, lv, st, h) = ob (popN 4 st []) fun q => gT (isO h 11 q.1 = true ∧ q.2.length ≤ 12 ∧ (layA q.1).length ≤ MX 129) (ob (aCall d 129 q.1 h) (kont d 310 (693) lv q.2)) := (st_of (kmOf kt310 rfl : KM 310 690 = some (.invokevirtual 69, 3, 129, 4, (.retAddr 11), none))).trans (RH_invokevirtual (by decide))
set_option maxRecDepth 100000 in
theorem s310_693 {fu d : Nat} {lv : LV} {st : List Value} {h : AH} : aGo (fu + 1) d (310, 693, lv, st, h) = lR (ld lv 2) fun x => aGo fu d (310, 694, lv, x :: st, h) := (st_of (kmOf kt310 rfl : KM 310 693 = some (.aload_n 2, 1, 0, 0, .null, none))).trans (RH_aload_n)
set_option maxRecDepth 100000 in
theorem s310_694 {fu d : Nat} {lv : LV} {st : List Value} {h : AH} : aGo (fu + 1) d (310, 694, lv, st, h) = lR (ld lv 0) fun x => aGo fu d (310, 695, lv, x :: st, h) := (st_of (kmOf kt310 rfl : KM 310 694 = some (.aload_n 0, 1, 0, 0, .null, none))).trans (RH_aload_n)
set_option maxRecDepth 100000 in
theorem s310_695 {fu d : Nat} {lv : LV} {st : List Value} {h : AH} : aGo (fu + 1) d (310, 695, lv, st, h) = lI (ld lv 4) fun x => aGo fu d (310, 697, lv, .int x :: st, h) := (st_of (kmOf kt310 rfl : KM 310 695 = some (.iload 4, 2, 0, 0, .null, none))).trans (RH_iload)
set_option maxRecDepth 100000 in
theorem s310_697 {fu d : Nat} {lv : LV} {st : List Value} {h : AH} : aGo (fu + 1) d (310, 697, lv, st, h) = aGo fu d (310, 698, lv, (.int (1)) :: st, h) := (st_of (kmOf kt310 rfl : KM 310 697 = some (.iconst 1, 1, 0, 0, (.int (1)), none))).trans (RH_iconst)
set_option maxRecDepth 100000 in
theorem s310_698 {fu d : Nat} {lv : LV} {st : List Value} {h : AH} : aGo (fu + 1) d (310, 698, lv, st, h) = pI st fun y st => pI st fun x st => aGo fu d (310, 699, lv, .int (x + y) :: st, h) := (st_of (kmOf kt310 rfl : KM 310 698 = some (.iadd, 1, 0, 0, .null, none))).trans (RH_iadd)
set_option maxRecDepth 100000 in
theorem s310_699 {fu d : Nat} {lv : LV} {st : List Value} {h : AH} : aGo (fu + 1) d (310, 699, lv, st, h) = pI st fun i st => pR st fun r st => hIld h r i fun x => aGo fu d (310, 700, lv, .int x :: st, h) := (st_of (kmOf kt310 rfl : KM 310 699 = some (.iaload, 1, 0, 0, .null, none))).trans (RH_iaload)
set_option maxRecDepth 100000 in
theorem s310_700 {fu d : Nat} {lv : LV} {st : List Value} {h : AH} : aGo (fu + 1) d (310, 700, lv, st, h) = lR (ld lv 0) fun x => aGo fu d (310, 701, lv, x :: st, h) := (st_of (kmOf kt310 rfl : KM 310 700 = some (.aload_n 0, 1, 0, 0, .null, none))).trans (RH_aload_n)
set_option maxRecDepth 100000 in
theorem s310_701 {fu d : Nat} {lv : LV} {st : List Value} {h : AH} : aGo (fu + 1) d (310, 701, lv, st, h) = lI (ld lv 4) fun x => aGo fu d (310, 703, lv, .int x :: st, h) := (st_of (kmOf kt310 rfl : KM 310 701 = some (.iload 4, 2, 0, 0, .null, none))).trans (RH_iload)
set_option maxRecDepth 100000 in
theorem s310_703 {fu d : Nat} {lv : LV} {st : List Value} {h : AH} : aGo (fu + 1) d (310, 703, lv, st, h) = aGo fu d (310, 704, lv, (.int (2)) :: st, h) := (st_of (kmOf kt310 rfl : KM 310 703 = some (.iconst 2, 1, 0, 0, (.int (2)), none))).trans (RH_iconst)
set_option maxRecDepth 100000 in
theorem s310_704 {fu d : Nat} {lv : LV} {st : List Value} {h : AH} : aGo (fu + 1) d (310, 704, lv, st, h) = pI st fun y st => pI st fun x st => aGo fu d (310, 705, lv, .int (x + y) :: st, h) := (st_of (kmOf kt310 rfl : KM 310 704 = some (.iadd, 1, 0, 0, .null, none))).trans (RH_iadd)
set_option maxRecDepth 100000 in
theorem s310_705 {fu d : Nat} {lv : LV} {st : List Value} {h : AH} : aGo (fu + 1) d (310, 705, lv, st, h) = pI st fun i st => pR st fun r st => hIld h r i fun x => aGo fu d (310, 706, lv, .int x :: st, h) := (st_of (kmOf kt310 rfl : KM 310 705 = some (.iaload, 1, 0, 0, .null, none))).trans (RH_iaload)
set_option maxRecDepth 100000 in
theorem s310_706 {fu d : Nat} {lv : LV} {st : List Value} {h : AH} : aGo (fu + 1) d (310, 706, lv, st, h) = lR (ld lv 0) fun x => aGo fu d (310, 707, lv, x :: st, h) := (st_of (kmOf kt310 rfl : KM 310 706 = some (.aload_n 0, 1, 0, 0, .null, none))).trans (RH_aload_n)
set_option maxRecDepth 100000 in
theorem s310_707 {fu d : Nat} {lv : LV} {st : List Value} {h : AH} : aGo (fu + 1) d (310, 707, lv, st, h) = lI (ld lv 4) fun x => aGo fu d (310, 709, lv, .int x :: st, h) := (st_of (kmOf kt310 rfl : KM 310 707 = some (.iload 4, 2, 0, 0, .null, none))).trans (RH_iload)
set_option maxRecDepth 100000 in
theorem s310_709 {fu d : Nat} {lv : LV} {st : List Value} {h : AH} : aGo (fu + 1) d (310, 709, lv, st, h) = aGo fu d (310, 710, lv, (.int (3)) :: st, h) := (st_of (kmOf kt310 rfl : KM 310 709 = some (.iconst 3, 1, 0, 0, (.int (3)), none))).trans (RH_iconst)
set_option maxRecDepth 100000 in
theorem s310_710 {fu d : Nat} {lv : LV} {st : List Value} {h : AH} : aGo (fu + 1) d (310, 710, lv, st, h) = pI st fun y st => pI st fun x st => aGo fu d (310, 711, lv, .int (x + y) :: st, h) := (st_of (kmOf kt310 rfl : KM 310 710 = some (.iadd, 1, 0, 0, .null, none))).trans (RH_iadd)
set_option maxRecDepth 100000 in
theorem s310_711 {fu d : Nat} {lv : LV} {st : List Value} {h : AH} : aGo (fu + 1) d (310, 711, lv, st, h) = pI st fun i st => pR st fun r st => hIld h r i fun x => aGo fu d (310, 712, lv, .int x :: st, h) := (st_of (kmOf kt310 rfl : KM 310 711 = some (.iaload, 1, 0, 0, .null, none))).trans (RH_iaload)
set_option maxRecDepth 100000 in
theorem s310_712 {fu d : Nat} {lv : LV} {st : List Value} {h : AH} : aGo (fu + 1) d (310, 712, lv, st, h) = ob (popN 4 st []) fun q => gT (isO h 12 q.1 = true ∧ q.2.length ≤ 12 ∧ (layA q.1).length ≤ MX 225) (ob (aCall d 225 q.1 h) (kont d 310 (715) lv q.2)) := (st_of (kmOf kt310 rfl : KM 310 712 = some (.invokevirtual 73, 3, 225, 4, (.retAddr 12), none))).trans (RH_invokevirtual (by decide))
set_option maxRecDepth 100000 in
theorem s310_715 {fu d : Nat} {lv : LV} {st : List Value} {h : AH} : aGo (fu + 1) d (310, 715, lv, st, h) = pI st fun y st => pI st fun x st => if x = y then aGo fu d (310, 1995, lv, st, h) else aGo fu d (310, 718, lv, st, h) := (st_of (kmOf kt310 rfl : KM 310 715 = some (.if_icmp .eq 1280, 3, 1995, 0, .null, none))).trans (RH_icmp_eq)
set_option maxRecDepth 100000 in
theorem s310_718 {fu d : Nat} {lv : LV} {st : List Value} {h : AH} : aGo (fu + 1) d (310, 718, lv, st, h) = aGo fu d (310, 719, lv, (.int (0)) :: st, h) := (st_of (kmOf kt310 rfl : KM 310 718 = some (.iconst 0, 1, 0, 0, (.int (0)), none))).trans (RH_iconst)
set_option maxRecDepth 100000 in
theorem s310_719 {fu d : Nat} {lv : LV} {st : List Value} {h : AH} : aGo (fu + 1) d (310, 719, lv, st, h) = match st with | [.int x] => gT ((1 = 1 → x = 0 ∨ x = 1) ∧ (1 = 2 → x.toInt8.toInt32 = x)) (some (some (.int x), h)) | _ => none := (st_of (kmOf kt310 rfl : KM 310 719 = some (.ireturn, 1, 1, 0, .null, none))).trans (RH_ireturn)
set_option maxRecDepth 100000 in
theorem s310_720 {fu d : Nat} {lv : LV} {st : List Value} {h : AH} : aGo (fu + 1) d (310, 720, lv, st, h) = lR (ld lv 1) fun x => aGo fu d (310, 721, lv, x :: st, h) := (st_of (kmOf kt310 rfl : KM 310 720 = some (.aload_n 1, 1, 0, 0, .null, none))).trans (RH_aload_n)
set_option maxRecDepth 100000 in
theorem s310_721 {fu d : Nat} {lv : LV} {st : List Value} {h : AH} : aGo (fu + 1) d (310, 721, lv, st, h) = lR (ld lv 0) fun x => aGo fu d (310, 722, lv, x :: st, h) := (st_of (kmOf kt310 rfl : KM 310 721 = some (.aload_n 0, 1, 0, 0, .null, none))).trans (RH_aload_n)
set_option maxRecDepth 100000 in
theorem s310_722 {fu d : Nat} {lv : LV} {st : List Value} {h : AH} : aGo (fu + 1) d (310, 722, lv, st, h) = lI (ld lv 4) fun x => aGo fu d (310, 724, lv, .int x :: st, h) := (st_of (kmOf kt310 rfl : KM 310 722 = some (.iload 4, 2, 0, 0, .null, none))).trans (RH_iload)
set_option maxRecDepth 100000 in
theorem s310_724 {fu d : Nat} {lv : LV} {st : List Value} {h : AH} : aGo (fu + 1) d (310, 724, lv, st, h) = aGo fu d (310, 725, lv, (.int (1)) :: st, h) := (st_of (kmOf kt310 rfl : KM 310 724 = some (.iconst 1, 1, 0, 0, (.int (1)), none))).trans (RH_iconst)
set_option maxRecDepth 100000 in
theorem s310_725 {fu d : Nat} {lv : LV} {st : List Value} {h : AH} : aGo (fu + 1) d (310, 725, lv, st, h) = pI st fun y st => pI st fun x st => aGo fu d (310, 726, lv, .int (x + y) :: st, h) := (st_of (kmOf kt310 rfl : KM 310 725 = some (.iadd, 1, 0, 0, .null, none))).trans (RH_iadd)
set_option maxRecDepth 100000 in
theorem s310_726 {fu d : Nat} {lv : LV} {st : List Value} {h : AH} : aGo (fu + 1) d (310, 726, lv, st, h) = pI st fun i st => pR st fun r st => hIld h r i fun x => aGo fu d (310, 727, lv, .int x :: st, h) := (st_of (kmOf kt310 rfl : KM 310 726 = some (.iaload, 1, 0, 0, .null, none))).trans (RH_iaload)
set_option maxRecDepth 100000 in
theorem s310_727 {fu d : Nat} {lv : LV} {st : List Value} {h : AH} : aGo (fu + 1) d (310, 727, lv, st, h) = lR (ld lv 0) fun x => aGo fu d (310, 728, lv, x :: st, h) := (st_of (kmOf kt310 rfl : KM 310 727 = some (.aload_n 0, 1, 0, 0, .null, none))).trans (RH_aload_n)
set_option maxRecDepth 100000 in
theorem s310_728 {fu d : Nat} {lv : LV} {st : List Value} {h : AH} : aGo (fu + 1) d (310, 728, lv, st, h) = lI (ld lv 4) fun x => aGo fu d (310, 730, lv, .int x :: st, h) := (st_of (kmOf kt310 rfl : KM 310 728 = some (.iload 4, 2, 0, 0, .null, none))).trans (RH_iload)
set_option maxRecDepth 100000 in
theorem s310_730 {fu d : Nat} {lv : LV} {st : List Value} {h : AH} : aGo (fu + 1) d (310, 730, lv, st, h) = aGo fu d (310, 731, lv, (.int (2)) :: st, h) := (st_of (kmOf kt310 rfl : KM 310 730 = some (.iconst 2, 1, 0, 0, (.int (2)), none))).trans (RH_iconst)
set_option maxRecDepth 100000 in
theorem s310_731 {fu d : Nat} {lv : LV} {st : List Value} {h : AH} : aGo (fu + 1) d (310, 731, lv, st, h) = pI st fun y st => pI st fun x st => aGo fu d (310, 732, lv, .int (x + y) :: st, h) := (st_of (kmOf kt310 rfl : KM 310 731 = some (.iadd, 1, 0, 0, .null, none))).trans (RH_iadd)
set_option maxRecDepth 100000 in
theorem s310_732 {fu d : Nat} {lv : LV} {st : List Value} {h : AH} : aGo (fu + 1) d (310, 732, lv, st, h) = pI st fun i st => pR st fun r st => hIld h r i fun x => aGo fu d (310, 733, lv, .int x :: st, h) := (st_of (kmOf kt310 rfl : KM 310 732 = some (.iaload, 1, 0, 0, .null, none))).trans (RH_iaload)
set_option maxRecDepth 100000 in
theorem s310_733 {fu d : Nat} {lv : LV} {st : List Value} {h : AH} : aGo (fu + 1) d (310, 733, lv, st, h) = lR (ld lv 0) fun x => aGo fu d (310, 734, lv, x :: st, h) := (st_of (kmOf kt310 rfl : KM 310 733 = some (.aload_n 0, 1, 0, 0, .null, none))).trans (RH_aload_n)
set_option maxRecDepth 100000 in
theorem s310_734 {fu d : Nat} {lv : LV} {st : List Value} {h : AH} : aGo (fu + 1) d (310, 734, lv, st, h) = lI (ld lv 4) fun x => aGo fu d (310, 736, lv, .int x :: st, h) := (st_of (kmOf kt310 rfl : KM 310 734 = some (.iload 4, 2, 0, 0, .null, none))).trans (RH_iload)
set_option maxRecDepth 100000 in
theorem s310_736 {fu d : Nat} {lv : LV} {st : List Value} {h : AH} : aGo (fu + 1) d (310, 736, lv, st, h) = aGo fu d (310, 737, lv, (.int (3)) :: st, h) := (st_of (kmOf kt310 rfl : KM 310 736 = some (.iconst 3, 1, 0, 0, (.int (3)), none))).trans (RH_iconst)
set_option maxRecDepth 100000 in
theorem s310_737 {fu d : Nat} {lv : LV} {st : List Value} {h : AH} : aGo (fu + 1) d (310, 737, lv, st, h) = pI st fun y st => pI st fun x st => aGo fu d (310, 738, lv, .int (x + y) :: st, h) := (st_of (kmOf kt310 rfl : KM 310 737 = some (.iadd, 1, 0, 0, .null, none))).trans (RH_iadd)
set_option maxRecDepth 100000 in
theorem s310_738 {fu d : Nat} {lv : LV} {st : List Value} {h : AH} : aGo (fu + 1) d (310, 738, lv, st, h) = pI st fun i st => pR st fun r st => hIld h r i fun x => aGo fu d (310, 739, lv, .int x :: st, h) := (st_of (kmOf kt310 rfl : KM 310 738 = some (.iaload, 1, 0, 0, .null, none))).trans (RH_iaload)
set_option maxRecDepth 100000 in
theorem s310_739 {fu d : Nat} {lv : LV} {st : List Value} {h : AH} : aGo (fu + 1) d (310, 739, lv, st, h) = lR (ld lv 0) fun x => aGo fu d (310, 740, lv, x :: st, h) := (st_of (kmOf kt310 rfl : KM 310 739 = some (.aload_n 0, 1, 0, 0, .null, none))).trans (RH_aload_n)
set_option maxRecDepth 100000 in
theorem s310_740 {fu d : Nat} {lv : LV} {st : List Value} {h : AH} : aGo (fu + 1) d (310, 740, lv, st, h) = lI (ld lv 4) fun x => aGo fu d (310, 742, lv, .int x :: st, h) := (st_of (kmOf kt310 rfl : KM 310 740 = some (.iload 4, 2, 0, 0, .null, none))).trans (RH_iload)
set_option maxRecDepth 100000 in
theorem s310_742 {fu d : Nat} {lv : LV} {st : List Value} {h : AH} : aGo (fu + 1) d (310, 742, lv, st, h) = aGo fu d (310, 743, lv, (.int (4)) :: st, h) := (st_of (kmOf kt310 rfl : KM 310 742 = some (.iconst 4, 1, 0, 0, (.int (4)), none))).trans (RH_iconst)
set_option maxRecDepth 100000 in
theorem s310_743 {fu d : Nat} {lv : LV} {st : List Value} {h : AH} : aGo (fu + 1) d (310, 743, lv, st, h) = pI st fun y st => pI st fun x st => aGo fu d (310, 744, lv, .int (x + y) :: st, h) := (st_of (kmOf kt310 rfl : KM 310 743 = some (.iadd, 1, 0, 0, .null, none))).trans (RH_iadd)
set_option maxRecDepth 100000 in
theorem s310_744 {fu d : Nat} {lv : LV} {st : List Value} {h : AH} : aGo (fu + 1) d (310, 744, lv, st, h) = pI st fun i st => pR st fun r st => hIld h r i fun x => aGo fu d (310, 745, lv, .int x :: st, h) := (st_of (kmOf kt310 rfl : KM 310 744 = some (.iaload, 1, 0, 0, .null, none))).trans (RH_iaload)
set_option maxRecDepth 100000 in
theorem s310_745 {fu d : Nat} {lv : LV} {st : List Value} {h : AH} : aGo (fu + 1) d (310, 745, lv, st, h) = lR (ld lv 0) fun x => aGo fu d (310, 746, lv, x :: st, h) := (st_of (kmOf kt310 rfl : KM 310 745 = some (.aload_n 0, 1, 0, 0, .null, none))).trans (RH_aload_n)
set_option maxRecDepth 100000 in
theorem s310_746 {fu d : Nat} {lv : LV} {st : List Value} {h : AH} : aGo (fu + 1) d (310, 746, lv, st, h) = lI (ld lv 4) fun x => aGo fu d (310, 748, lv, .int x :: st, h) := (st_of (kmOf kt310 rfl : KM 310 746 = some (.iload 4, 2, 0, 0, .null, none))).trans (RH_iload)
set_option maxRecDepth 100000 in
theorem s310_748 {fu d : Nat} {lv : LV} {st : List Value} {h : AH} : aGo (fu + 1) d (310, 748, lv, st, h) = aGo fu d (310, 749, lv, (.int (5)) :: st, h) := (st_of (kmOf kt310 rfl : KM 310 748 = some (.iconst 5, 1, 0, 0, (.int (5)), none))).trans (RH_iconst)
set_option maxRecDepth 100000 in
theorem s310_749 {fu d : Nat} {lv : LV} {st : List Value} {h : AH} : aGo (fu + 1) d (310, 749, lv, st, h) = pI st fun y st => pI st fun x st => aGo fu d (310, 750, lv, .int (x + y) :: st, h) := (st_of (kmOf kt310 rfl : KM 310 749 = some (.iadd, 1, 0, 0, .null, none))).trans (RH_iadd)
set_option maxRecDepth 100000 in
theorem s310_750 {fu d : Nat} {lv : LV} {st : List Value} {h : AH} : aGo (fu + 1) d (310, 750, lv, st, h) = pI st fun i st => pR st fun r st => hIld h r i fun x => aGo fu d (310, 751, lv, .int x :: st, h) := (st_of (kmOf kt310 rfl : KM 310 750 = some (.iaload, 1, 0, 0, .null, none))).trans (RH_iaload)
set_option maxRecDepth 100000 in
theorem s310_751 {fu d : Nat} {lv : LV} {st : List Value} {h : AH} : aGo (fu + 1) d (310, 751, lv, st, h) = lR (ld lv 0) fun x => aGo fu d (310, 752, lv, x :: st, h) := (st_of (kmOf kt310 rfl : KM 310 751 = some (.aload_n 0, 1, 0, 0, .null, none))).trans (RH_aload_n)
set_option maxRecDepth 100000 in
theorem s310_752 {fu d : Nat} {lv : LV} {st : List Value} {h : AH} : aGo (fu + 1) d (310, 752, lv, st, h) = lI (ld lv 4) fun x => aGo fu d (310, 754, lv, .int x :: st, h) := (st_of (kmOf kt310 rfl : KM 310 752 = some (.iload 4, 2, 0, 0, .null, none))).trans (RH_iload)
set_option maxRecDepth 100000 in
theorem s310_754 {fu d : Nat} {lv : LV} {st : List Value} {h : AH} : aGo (fu + 1) d (310, 754, lv, st, h) = aGo fu d (310, 756, lv, (.int (6)) :: st, h) := (st_of (kmOf kt310 rfl : KM 310 754 = some (.bipush 6, 2, 0, 0, (.int (6)), none))).trans (RH_bipush)
set_option maxRecDepth 100000 in
theorem s310_756 {fu d : Nat} {lv : LV} {st : List Value} {h : AH} : aGo (fu + 1) d (310, 756, lv, st, h) = pI st fun y st => pI st fun x st => aGo fu d (310, 757, lv, .int (x + y) :: st, h) := (st_of (kmOf kt310 rfl : KM 310 756 = some (.iadd, 1, 0, 0, .null, none))).trans (RH_iadd)
set_option maxRecDepth 100000 in
theorem s310_757 {fu d : Nat} {lv : LV} {st : List Value} {h : AH} : aGo (fu + 1) d (310, 757, lv, st, h) = pI st fun i st => pR st fun r st => hIld h r i fun x => aGo fu d (310, 758, lv, .int x :: st, h) := (st_of (kmOf kt310 rfl : KM 310 757 = some (.iaload, 1, 0, 0, .null, none))).trans (RH_iaload)
set_option maxRecDepth 100000 in
theorem s310_758 {fu d : Nat} {lv : LV} {st : List Value} {h : AH} : aGo (fu + 1) d (310, 758, lv, st, h) = ob (popN 7 st []) fun q => gT (isO h 11 q.1 = true ∧ q.2.length ≤ 12 ∧ (layA q.1).length ≤ MX 130) (ob (aCall d 130 q.1 h) (kont d 310 (761) lv q.2)) := (st_of (kmOf kt310 rfl : KM 310 758 = some (.invokevirtual 74, 3, 130, 7, (.retAddr 11), none))).trans (RH_invokevirtual (by decide))
set_option maxRecDepth 100000 in
theorem s310_761 {fu d : Nat} {lv : LV} {st : List Value} {h : AH} : aGo (fu + 1) d (310, 761, lv, st, h) = lR (ld lv 2) fun x => aGo fu d (310, 762, lv, x :: st, h) := (st_of (kmOf kt310 rfl : KM 310 761 = some (.aload_n 2, 1, 0, 0, .null, none))).trans (RH_aload_n)
set_option maxRecDepth 100000 in
theorem s310_762 {fu d : Nat} {lv : LV} {st : List Value} {h : AH} : aGo (fu + 1) d (310, 762, lv, st, h) = lR (ld lv 0) fun x => aGo fu d (310, 763, lv, x :: st, h) := (st_of (kmOf kt310 rfl : KM 310 762 = some (.aload_n 0, 1, 0, 0, .null, none))).trans (RH_aload_n)
set_option maxRecDepth 100000 in
theorem s310_763 {fu d : Nat} {lv : LV} {st : List Value} {h : AH} : aGo (fu + 1) d (310, 763, lv, st, h) = lI (ld lv 4) fun x => aGo fu d (310, 765, lv, .int x :: st, h) := (st_of (kmOf kt310 rfl : KM 310 763 = some (.iload 4, 2, 0, 0, .null, none))).trans (RH_iload)
set_option maxRecDepth 100000 in
theorem s310_765 {fu d : Nat} {lv : LV} {st : List Value} {h : AH} : aGo (fu + 1) d (310, 765, lv, st, h) = aGo fu d (310, 766, lv, (.int (1)) :: st, h) := (st_of (kmOf kt310 rfl : KM 310 765 = some (.iconst 1, 1, 0, 0, (.int (1)), none))).trans (RH_iconst)
set_option maxRecDepth 100000 in
theorem s310_766 {fu d : Nat} {lv : LV} {st : List Value} {h : AH} : aGo (fu + 1) d (310, 766, lv, st, h) = pI st fun y st => pI st fun x st => aGo fu d (310, 767, lv, .int (x + y) :: st, h) := (st_of (kmOf kt310 rfl : KM 310 766 = some (.iadd, 1, 0, 0, .null, none))).trans (RH_iadd)
set_option maxRecDepth 100000 in
theorem s310_767 {fu d : Nat} {lv : LV} {st : List Value} {h : AH} : aGo (fu + 1) d (310, 767, lv, st, h) = pI st fun i st => pR st fun r st => hIld h r i fun x => aGo fu d (310, 768, lv, .int x :: st, h) := (st_of (kmOf kt310 rfl : KM 310 767 = some (.iaload, 1, 0, 0, .null, none))).trans (RH_iaload)
set_option maxRecDepth 100000 in
theorem s310_768 {fu d : Nat} {lv : LV} {st : List Value} {h : AH} : aGo (fu + 1) d (310, 768, lv, st, h) = lR (ld lv 0) fun x => aGo fu d (310, 769, lv, x :: st, h) := (st_of (kmOf kt310 rfl : KM 310 768 = some (.aload_n 0, 1, 0, 0, .null, none))).trans (RH_aload_n)
set_option maxRecDepth 100000 in
theorem s310_769 {fu d : Nat} {lv : LV} {st : List Value} {h : AH} : aGo (fu + 1) d (310, 769, lv, st, h) = lI (ld lv 4) fun x => aGo fu d (310, 771, lv, .int x :: st, h) := (st_of (kmOf kt310 rfl : KM 310 769 = some (.iload 4, 2, 0, 0, .null, none))).trans (RH_iload)
set_option maxRecDepth 100000 in
theorem s310_771 {fu d : Nat} {lv : LV} {st : List Value} {h : AH} : aGo (fu + 1) d (310, 771, lv, st, h) = aGo fu d (310, 772, lv, (.int (2)) :: st, h) := (st_of (kmOf kt310 rfl : KM 310 771 = some (.iconst 2, 1, 0, 0, (.int (2)), none))).trans (RH_iconst)
set_option maxRecDepth 100000 in
theorem s310_772 {fu d : Nat} {lv : LV} {st : List Value} {h : AH} : aGo (fu + 1) d (310, 772, lv, st, h) = pI st fun y st => pI st fun x st => aGo fu d (310, 773, lv, .int (x + y) :: st, h) := (st_of (kmOf kt310 rfl : KM 310 772 = some (.iadd, 1, 0, 0, .null, none))).trans (RH_iadd)
set_option maxRecDepth 100000 in
theorem s310_773 {fu d : Nat} {lv : LV} {st : List Value} {h : AH} : aGo (fu + 1) d (310, 773, lv, st, h) = pI st fun i st => pR st fun r st => hIld h r i fun x => aGo fu d (310, 774, lv, .int x :: st, h) := (st_of (kmOf kt310 rfl : KM 310 773 = some (.iaload, 1, 0, 0, .null, none))).trans (RH_iaload)
set_option maxRecDepth 100000 in
theorem s310_774 {fu d : Nat} {lv : LV} {st : List Value} {h : AH} : aGo (fu + 1) d (310, 774, lv, st, h) = lR (ld lv 0) fun x => aGo fu d (310, 775, lv, x :: st, h) := (st_of (kmOf kt310 rfl : KM 310 774 = some (.aload_n 0, 1, 0, 0, .null, none))).trans (RH_aload_n)
set_option maxRecDepth 100000 in
theorem s310_775 {fu d : Nat} {lv : LV} {st : List Value} {h : AH} : aGo (fu + 1) d (310, 775, lv, st, h) = lI (ld lv 4) fun x => aGo fu d (310, 777, lv, .int x :: st, h) := (st_of (kmOf kt310 rfl : KM 310 775 = some (.iload 4, 2, 0, 0, .null, none))).trans (RH_iload)
set_option maxRecDepth 100000 in
theorem s310_777 {fu d : Nat} {lv : LV} {st : List Value} {h : AH} : aGo (fu + 1) d (310, 777, lv, st, h) = aGo fu d (310, 778, lv, (.int (3)) :: st, h) := (st_of (kmOf kt310 rfl : KM 310 777 = some (.iconst 3, 1, 0, 0, (.int (3)), none))).trans (RH_iconst)
set_option maxRecDepth 100000 in
theorem s310_778 {fu d : Nat} {lv : LV} {st : List Value} {h : AH} : aGo (fu + 1) d (310, 778, lv, st, h) = pI st fun y st => pI st fun x st => aGo fu d (310, 779, lv, .int (x + y) :: st, h) := (st_of (kmOf kt310 rfl : KM 310 778 = some (.iadd, 1, 0, 0, .null, none))).trans (RH_iadd)
set_option maxRecDepth 100000 in
theorem s310_779 {fu d : Nat} {lv : LV} {st : List Value} {h : AH} : aGo (fu + 1) d (310, 779, lv, st, h) = pI st fun i st => pR st fun r st => hIld h r i fun x => aGo fu d (310, 780, lv, .int x :: st, h) := (st_of (kmOf kt310 rfl : KM 310 779 = some (.iaload, 1, 0, 0, .null, none))).trans (RH_iaload)
set_option maxRecDepth 100000 in
theorem s310_780 {fu d : Nat} {lv : LV} {st : List Value} {h : AH} : aGo (fu + 1) d (310, 780, lv, st, h) = lR (ld lv 0) fun x => aGo fu d (310, 781, lv, x :: st, h) := (st_of (kmOf kt310 rfl : KM 310 780 = some (.aload_n 0, 1, 0, 0, .null, none))).trans (RH_aload_n)
set_option maxRecDepth 100000 in
theorem s310_781 {fu d : Nat} {lv : LV} {st : List Value} {h : AH} : aGo (fu + 1) d (310, 781, lv, st, h) = lI (ld lv 4) fun x => aGo fu d (310, 783, lv, .int x :: st, h) := (st_of (kmOf kt310 rfl : KM 310 781 = some (.iload 4, 2, 0, 0, .null, none))).trans (RH_iload)
set_option maxRecDepth 100000 in
theorem s310_783 {fu d : Nat} {lv : LV} {st : List Value} {h : AH} : aGo (fu + 1) d (310, 783, lv, st, h) = aGo fu d (310, 784, lv, (.int (4)) :: st, h) := (st_of (kmOf kt310 rfl : KM 310 783 = some (.iconst 4, 1, 0, 0, (.int (4)), none))).trans (RH_iconst)
set_option maxRecDepth 100000 in
theorem s310_784 {fu d : Nat} {lv : LV} {st : List Value} {h : AH} : aGo (fu + 1) d (310, 784, lv, st, h) = pI st fun y st => pI st fun x st => aGo fu d (310, 785, lv, .int (x + y) :: st, h) := (st_of (kmOf kt310 rfl : KM 310 784 = some (.iadd, 1, 0, 0, .null, none))).trans (RH_iadd)
set_option maxRecDepth 100000 in
theorem s310_785 {fu d : Nat} {lv : LV} {st : List Value} {h : AH} : aGo (fu + 1) d (310, 785, lv, st, h) = pI st fun i st => pR st fun r st => hIld h r i fun x => aGo fu d (310, 786, lv, .int x :: st, h) := (st_of (kmOf kt310 rfl : KM 310 785 = some (.iaload, 1, 0, 0, .null, none))).trans (RH_iaload)
set_option maxRecDepth 100000 in
theorem s310_786 {fu d : Nat} {lv : LV} {st : List Value} {h : AH} : aGo (fu + 1) d (310, 786, lv, st, h) = lR (ld lv 0) fun x => aGo fu d (310, 787, lv, x :: st, h) := (st_of (kmOf kt310 rfl : KM 310 786 = some (.aload_n 0, 1, 0, 0, .null, none))).trans (RH_aload_n)
set_option maxRecDepth 100000 in
theorem s310_787 {fu d : Nat} {lv : LV} {st : List Value} {h : AH} : aGo (fu + 1) d (310, 787, lv, st, h) = lI (ld lv 4) fun x => aGo fu d (310, 789, lv, .int x :: st, h) := (st_of (kmOf kt310 rfl : KM 310 787 = some (.iload 4, 2, 0, 0, .null, none))).trans (RH_iload)
set_option maxRecDepth 100000 in
theorem s310_789 {fu d : Nat} {lv : LV} {st : List Value} {h : AH} : aGo (fu + 1) d (310, 789, lv, st, h) = aGo fu d (310, 790, lv, (.int (5)) :: st, h) := (st_of (kmOf kt310 rfl : KM 310 789 = some (.iconst 5, 1, 0, 0, (.int (5)), none))).trans (RH_iconst)
set_option maxRecDepth 100000 in
theorem s310_790 {fu d : Nat} {lv : LV} {st : List Value} {h : AH} : aGo (fu + 1) d (310, 790, lv, st, h) = pI st fun y st => pI st fun x st => aGo fu d (310, 791, lv, .int (x + y) :: st, h) := (st_of (kmOf kt310 rfl : KM 310 790 = some (.iadd, 1, 0, 0, .null, none))).trans (RH_iadd)
set_option maxRecDepth 100000 in
theorem s310_791 {fu d : Nat} {lv : LV} {st : List Value} {h : AH} : aGo (fu + 1) d (310, 791, lv, st, h) = pI st fun i st => pR st fun r st => hIld h r i fun x => aGo fu d (310, 792, lv, .int x :: st, h) := (st_of (kmOf kt310 rfl : KM 310 791 = some (.iaload, 1, 0, 0, .null, none))).trans (RH_iaload)
set_option maxRecDepth 100000 in
theorem s310_792 {fu d : Nat} {lv : LV} {st : List Value} {h : AH} : aGo (fu + 1) d (310, 792, lv, st, h) = lR (ld lv 0) fun x => aGo fu d (310, 793, lv, x :: st, h) := (st_of (kmOf kt310 rfl : KM 310 792 = some (.aload_n 0, 1, 0, 0, .null, none))).trans (RH_aload_n)
set_option maxRecDepth 100000 in
theorem s310_793 {fu d : Nat} {lv : LV} {st : List Value} {h : AH} : aGo (fu + 1) d (310, 793, lv, st, h) = lI (ld lv 4) fun x => aGo fu d (310, 795, lv, .int x :: st, h) := (st_of (kmOf kt310 rfl : KM 310 793 = some (.iload 4, 2, 0, 0, .null, none))).trans (RH_iload)
set_option maxRecDepth 100000 in
theorem s310_795 {fu d : Nat} {lv : LV} {st : List Value} {h : AH} : aGo (fu + 1) d (310, 795, lv, st, h) = aGo fu d (310, 797, lv, (.int (6)) :: st, h) := (st_of (kmOf kt310 rfl : KM 310 795 = some (.bipush 6, 2, 0, 0, (.int (6)), none))).trans (RH_bipush)
set_option maxRecDepth 100000 in
theorem s310_797 {fu d : Nat} {lv : LV} {st : List Value} {h : AH} : aGo (fu + 1) d (310, 797, lv, st, h) = pI st fun y st => pI st fun x st => aGo fu d (310, 798, lv, .int (x + y) :: st, h) := (st_of (kmOf kt310 rfl : KM 310 797 = some (.iadd, 1, 0, 0, .null, none))).trans (RH_iadd)
set_option maxRecDepth 100000 in
theorem s310_798 {fu d : Nat} {lv : LV} {st : List Value} {h : AH} : aGo (fu + 1) d (310, 798, lv, st, h) = pI st fun i st => pR st fun r st => hIld h r i fun x => aGo fu d (310, 799, lv, .int x :: st, h) := (st_of (kmOf kt310 rfl : KM 310 798 = some (.iaload, 1, 0, 0, .null, none))).trans (RH_iaload)
set_option maxRecDepth 100000 in
theorem s310_799 {fu d : Nat} {lv : LV} {st : List Value} {h : AH} : aGo (fu + 1) d (310, 799, lv, st, h) = ob (popN 7 st []) fun q => gT (isO h 12 q.1 = true ∧ q.2.length ≤ 12 ∧ (layA q.1).length ≤ MX 227) (ob (aCall d 227 q.1 h) (kont d 310 (802) lv q.2)) := (st_of (kmOf kt310 rfl : KM 310 799 = some (.invokevirtual 78, 3, 227, 7, (.retAddr 12), none))).trans (RH_invokevirtual (by decide))
set_option maxRecDepth 100000 in
theorem s310_802 {fu d : Nat} {lv : LV} {st : List Value} {h : AH} : aGo (fu + 1) d (310, 802, lv, st, h) = pI st fun y st => pI st fun x st => if x = y then aGo fu d (310, 1995, lv, st, h) else aGo fu d (310, 805, lv, st, h) := (st_of (kmOf kt310 rfl : KM 310 802 = some (.if_icmp .eq 1193, 3, 1995, 0, .null, none))).trans (RH_icmp_eq)
set_option maxRecDepth 100000 in
theorem s310_805 {fu d : Nat} {lv : LV} {st : List Value} {h : AH} : aGo (fu + 1) d (310, 805, lv, st, h) = aGo fu d (310, 806, lv, (.int (0)) :: st, h) := (st_of (kmOf kt310 rfl : KM 310 805 = some (.iconst 0, 1, 0, 0, (.int (0)), none))).trans (RH_iconst)
set_option maxRecDepth 100000 in
theorem s310_806 {fu d : Nat} {lv : LV} {st : List Value} {h : AH} : aGo (fu + 1) d (310, 806, lv, st, h) = match st with | [.int x] => gT ((1 = 1 → x = 0 ∨ x = 1) ∧ (1 = 2 → x.toInt8.toInt32 = x)) (some (some (.int x), h)) | _ => none := (st_of (kmOf kt310 rfl : KM 310 806 = some (.ireturn, 1, 1, 0, .null, none))).trans (RH_ireturn)
set_option maxRecDepth 100000 in
theorem s310_807 {fu d : Nat} {lv : LV} {st : List Value} {h : AH} : aGo (fu + 1) d (310, 807, lv, st, h) = lR (ld lv 1) fun x => aGo fu d (310, 808, lv, x :: st, h) := (st_of (kmOf kt310 rfl : KM 310 807 = some (.aload_n 1, 1, 0, 0, .null, none))).trans (RH_aload_n)
set_option maxRecDepth 100000 in
theorem s310_808 {fu d : Nat} {lv : LV} {st : List Value} {h : AH} : aGo (fu + 1) d (310, 808, lv, st, h) = lR (ld lv 0) fun x => aGo fu d (310, 809, lv, x :: st, h) := (st_of (kmOf kt310 rfl : KM 310 808 = some (.aload_n 0, 1, 0, 0, .null, none))).trans (RH_aload_n)
set_option maxRecDepth 100000 in
theorem s310_809 {fu d : Nat} {lv : LV} {st : List Value} {h : AH} : aGo (fu + 1) d (310, 809, lv, st, h) = lI (ld lv 4) fun x => aGo fu d (310, 811, lv, .int x :: st, h) := (st_of (kmOf kt310 rfl : KM 310 809 = some (.iload 4, 2, 0, 0, .null, none))).trans (RH_iload)
set_option maxRecDepth 100000 in
theorem s310_811 {fu d : Nat} {lv : LV} {st : List Value} {h : AH} : aGo (fu + 1) d (310, 811, lv, st, h) = aGo fu d (310, 812, lv, (.int (1)) :: st, h) := (st_of (kmOf kt310 rfl : KM 310 811 = some (.iconst 1, 1, 0, 0, (.int (1)), none))).trans (RH_iconst)
set_option maxRecDepth 100000 in
theorem s310_812 {fu d : Nat} {lv : LV} {st : List Value} {h : AH} : aGo (fu + 1) d (310, 812, lv, st, h) = pI st fun y st => pI st fun x st => aGo fu d (310, 813, lv, .int (x + y) :: st, h) := (st_of (kmOf kt310 rfl : KM 310 812 = some (.iadd, 1, 0, 0, .null, none))).trans (RH_iadd)
set_option maxRecDepth 100000 in
theorem s310_813 {fu d : Nat} {lv : LV} {st : List Value} {h : AH} : aGo (fu + 1) d (310, 813, lv, st, h) = pI st fun i st => pR st fun r st => hIld h r i fun x => aGo fu d (310, 814, lv, .int x :: st, h) := (st_of (kmOf kt310 rfl : KM 310 813 = some (.iaload, 1, 0, 0, .null, none))).trans (RH_iaload)
set_option maxRecDepth 100000 in
theorem s310_814 {fu d : Nat} {lv : LV} {st : List Value} {h : AH} : aGo (fu + 1) d (310, 814, lv, st, h) = ob (popN 2 st []) fun q => gT (isO h 11 q.1 = true ∧ q.2.length ≤ 12 ∧ (layA q.1).length ≤ MX 131) (ob (aCall d 131 q.1 h) (kont d 310 (817) lv q.2)) := (st_of (kmOf kt310 rfl : KM 310 814 = some (.invokevirtual 79, 3, 131, 2, (.retAddr 11), none))).trans (RH_invokevirtual (by decide))
set_option maxRecDepth 100000 in
theorem s310_817 {fu d : Nat} {lv : LV} {st : List Value} {h : AH} : aGo (fu + 1) d (310, 817, lv, st, h) = lR (ld lv 2) fun x => aGo fu d (310, 818, lv, x :: st, h) := (st_of (kmOf kt310 rfl : KM 310 817 = some (.aload_n 2, 1, 0, 0, .null, none))).trans (RH_aload_n)
set_option maxRecDepth 100000 in
theorem s310_818 {fu d : Nat} {lv : LV} {st : List Value} {h : AH} : aGo (fu + 1) d (310, 818, lv, st, h) = lR (ld lv 0) fun x => aGo fu d (310, 819, lv, x :: st, h) := (st_of (kmOf kt310 rfl : KM 310 818 = some (.aload_n 0, 1, 0, 0, .null, none))).trans (RH_aload_n)
set_option maxRecDepth 100000 in
theorem s310_819 {fu d : Nat} {lv : LV} {st : List Value} {h : AH} : aGo (fu + 1) d (310, 819, lv, st, h) = lI (ld lv 4) fun x => aGo fu d (310, 821, lv, .int x :: st, h) := (st_of (kmOf kt310 rfl : KM 310 819 = some (.iload 4, 2, 0, 0, .null, none))).trans (RH_iload)
set_option maxRecDepth 100000 in
theorem s310_821 {fu d : Nat} {lv : LV} {st : List Value} {h : AH} : aGo (fu + 1) d (310, 821, lv, st, h) = aGo fu d (310, 822, lv, (.int (1)) :: st, h) := (st_of (kmOf kt310 rfl : KM 310 821 = some (.iconst 1, 1, 0, 0, (.int (1)), none))).trans (RH_iconst)
set_option maxRecDepth 100000 in
theorem s310_822 {fu d : Nat} {lv : LV} {st : List Value} {h : AH} : aGo (fu + 1) d (310, 822, lv, st, h) = pI st fun y st => pI st fun x st => aGo fu d (310, 823, lv, .int (x + y) :: st, h) := (st_of (kmOf kt310 rfl : KM 310 822 = some (.iadd, 1, 0, 0, .null, none))).trans (RH_iadd)
set_option maxRecDepth 100000 in
theorem s310_823 {fu d : Nat} {lv : LV} {st : List Value} {h : AH} : aGo (fu + 1) d (310, 823, lv, st, h) = pI st fun i st => pR st fun r st => hIld h r i fun x => aGo fu d (310, 824, lv, .int x :: st, h) := (st_of (kmOf kt310 rfl : KM 310 823 = some (.iaload, 1, 0, 0, .null, none))).trans (RH_iaload)
set_option maxRecDepth 100000 in
theorem s310_824 {fu d : Nat} {lv : LV} {st : List Value} {h : AH} : aGo (fu + 1) d (310, 824, lv, st, h) = ob (popN 2 st []) fun q => gT (isO h 12 q.1 = true ∧ q.2.length ≤ 12 ∧ (layA q.1).length ≤ MX 228) (ob (aCall d 228 q.1 h) (kont d 310 (827) lv q.2)) := (st_of (kmOf kt310 rfl : KM 310 824 = some (.invokevirtual 82, 3, 228, 2, (.retAddr 12), none))).trans (RH_invokevirtual (by decide))
set_option maxRecDepth 100000 in
theorem s310_827 {fu d : Nat} {lv : LV} {st : List Value} {h : AH} : aGo (fu + 1) d (310, 827, lv, st, h) = pI st fun y st => pI st fun x st => if x = y then aGo fu d (310, 1995, lv, st, h) else aGo fu d (310, 830, lv, st, h) := (st_of (kmOf kt310 rfl : KM 310 827 = some (.if_icmp .eq 1168, 3, 1995, 0, .null, none))).trans (RH_icmp_eq)
set_option maxRecDepth 100000 in
theorem s310_830 {fu d : Nat} {lv : LV} {st : List Value} {h : AH} : aGo (fu + 1) d (310, 830, lv, st, h) = aGo fu d (310, 831, lv, (.int (0)) :: st, h) := (st_of (kmOf kt310 rfl : KM 310 830 = some (.iconst 0, 1, 0, 0, (.int (0)), none))).trans (RH_iconst)
set_option maxRecDepth 100000 in
theorem s310_831 {fu d : Nat} {lv : LV} {st : List Value} {h : AH} : aGo (fu + 1) d (310, 831, lv, st, h) = match st with | [.int x] => gT ((1 = 1 → x = 0 ∨ x = 1) ∧ (1 = 2 → x.toInt8.toInt32 = x)) (some (some (.int x), h)) | _ => none := (st_of (kmOf kt310 rfl : KM 310 831 = some (.ireturn, 1, 1, 0, .null, none))).trans (RH_ireturn)
set_option maxRecDepth 100000 in
theorem s310_832 {fu d : Nat} {lv : LV} {st : List Value} {h : AH} : aGo (fu + 1) d (310, 832, lv, st, h) = lR (ld lv 1) fun x => aGo fu d (310, 833, lv, x :: st, h) := (st_of (kmOf kt310 rfl : KM 310 832 = some (.aload_n 1, 1, 0, 0, .null, none))).trans (RH_aload_n)
set_option maxRecDepth 100000 in
theorem s310_833 {fu d : Nat} {lv : LV} {st : List Value} {h : AH} : aGo (fu + 1) d (310, 833, lv, st, h) = ob (popN 1 st []) fun q => gT (isO h 11 q.1 = true ∧ q.2.length ≤ 12 ∧ (layA q.1).length ≤ MX 132) (ob (aCall d 132 q.1 h) (kont d 310 (836) lv q.2)) := (st_of (kmOf kt310 rfl : KM 310 833 = some (.invokevirtual 83, 3, 132, 1, (.retAddr 11), none))).trans (RH_invokevirtual (by decide))
set_option maxRecDepth 100000 in
theorem s310_836 {fu d : Nat} {lv : LV} {st : List Value} {h : AH} : aGo (fu + 1) d (310, 836, lv, st, h) = lR (ld lv 2) fun x => aGo fu d (310, 837, lv, x :: st, h) := (st_of (kmOf kt310 rfl : KM 310 836 = some (.aload_n 2, 1, 0, 0, .null, none))).trans (RH_aload_n)
set_option maxRecDepth 100000 in
theorem s310_837 {fu d : Nat} {lv : LV} {st : List Value} {h : AH} : aGo (fu + 1) d (310, 837, lv, st, h) = ob (popN 1 st []) fun q => gT (isO h 12 q.1 = true ∧ q.2.length ≤ 12 ∧ (layA q.1).length ≤ MX 240) (ob (aCall d 240 q.1 h) (kont d 310 (840) lv q.2)) := (st_of (kmOf kt310 rfl : KM 310 837 = some (.invokevirtual 86, 3, 240, 1, (.retAddr 12), none))).trans (RH_invokevirtual (by decide))
set_option maxRecDepth 100000 in
theorem s310_840 {fu d : Nat} {lv : LV} {st : List Value} {h : AH} : aGo (fu + 1) d (310, 840, lv, st, h) = pI st fun y st => pI st fun x st => if x = y then aGo fu d (310, 1995, lv, st, h) else aGo fu d (310, 843, lv, st, h) := (st_of (kmOf kt310 rfl : KM 310 840 = some (.if_icmp .eq 1155, 3, 1995, 0, .null, none))).trans (RH_icmp_eq)
set_option maxRecDepth 100000 in
theorem s310_843 {fu d : Nat} {lv : LV} {st : List Value} {h : AH} : aGo (fu + 1) d (310, 843, lv, st, h) = aGo fu d (310, 844, lv, (.int (0)) :: st, h) := (st_of (kmOf kt310 rfl : KM 310 843 = some (.iconst 0, 1, 0, 0, (.int (0)), none))).trans (RH_iconst)
set_option maxRecDepth 100000 in
theorem s310_844 {fu d : Nat} {lv : LV} {st : List Value} {h : AH} : aGo (fu + 1) d (310, 844, lv, st, h) = match st with | [.int x] => gT ((1 = 1 → x = 0 ∨ x = 1) ∧ (1 = 2 → x.toInt8.toInt32 = x)) (some (some (.int x), h)) | _ => none := (st_of (kmOf kt310 rfl : KM 310 844 = some (.ireturn, 1, 1, 0, .null, none))).trans (RH_ireturn)
set_option maxRecDepth 100000 in
theorem s310_845 {fu d : Nat} {lv : LV} {st : List Value} {h : AH} : aGo (fu + 1) d (310, 845, lv, st, h) = lR (ld lv 1) fun x => aGo fu d (310, 846, lv, x :: st, h) := (st_of (kmOf kt310 rfl : KM 310 845 = some (.aload_n 1, 1, 0, 0, .null, none))).trans (RH_aload_n)
set_option maxRecDepth 100000 in
theorem s310_846 {fu d : Nat} {lv : LV} {st : List Value} {h : AH} : aGo (fu + 1) d (310, 846, lv, st, h) = lR (ld lv 0) fun x => aGo fu d (310, 847, lv, x :: st, h) := (st_of (kmOf kt310 rfl : KM 310 846 = some (.aload_n 0, 1, 0, 0, .null, none))).trans (RH_aload_n)
set_option maxRecDepth 100000 in
theorem s310_847 {fu d : Nat} {lv : LV} {st : List Value} {h : AH} : aGo (fu + 1) d (310, 847, lv, st, h) = lI (ld lv 4) fun x => aGo fu d (310, 849, lv, .int x :: st, h) := (st_of (kmOf kt310 rfl : KM 310 847 = some (.iload 4, 2, 0, 0, .null, none))).trans (RH_iload)
set_option maxRecDepth 100000 in
theorem s310_849 {fu d : Nat} {lv : LV} {st : List Value} {h : AH} : aGo (fu + 1) d (310, 849, lv, st, h) = aGo fu d (310, 850, lv, (.int (1)) :: st, h) := (st_of (kmOf kt310 rfl : KM 310 849 = some (.iconst 1, 1, 0, 0, (.int (1)), none))).trans (RH_iconst)
set_option maxRecDepth 100000 in
theorem s310_850 {fu d : Nat} {lv : LV} {st : List Value} {h : AH} : aGo (fu + 1) d (310, 850, lv, st, h) = pI st fun y st => pI st fun x st => aGo fu d (310, 851, lv, .int (x + y) :: st, h) := (st_of (kmOf kt310 rfl : KM 310 850 = some (.iadd, 1, 0, 0, .null, none))).trans (RH_iadd)
set_option maxRecDepth 100000 in
theorem s310_851 {fu d : Nat} {lv : LV} {st : List Value} {h : AH} : aGo (fu + 1) d (310, 851, lv, st, h) = pI st fun i st => pR st fun r st => hIld h r i fun x => aGo fu d (310, 852, lv, .int x :: st, h) := (st_of (kmOf kt310 rfl : KM 310 851 = some (.iaload, 1, 0, 0, .null, none))).trans (RH_iaload)
set_option maxRecDepth 100000 in
theorem s310_852 {fu d : Nat} {lv : LV} {st : List Value} {h : AH} : aGo (fu + 1) d (310, 852, lv, st, h) = ob (popN 2 st []) fun q => gT (isO h 11 q.1 = true ∧ q.2.length ≤ 12 ∧ (layA q.1).length ≤ MX 133) (ob (aCall d 133 q.1 h) (kont d 310 (855) lv q.2)) := (st_of (kmOf kt310 rfl : KM 310 852 = some (.invokevirtual 87, 3, 133, 2, (.retAddr 11), none))).trans (RH_invokevirtual (by decide))
set_option maxRecDepth 100000 in
theorem s310_855 {fu d : Nat} {lv : LV} {st : List Value} {h : AH} : aGo (fu + 1) d (310, 855, lv, st, h) = lR (ld lv 2) fun x => aGo fu d (310, 856, lv, x :: st, h) := (st_of (kmOf kt310 rfl : KM 310 855 = some (.aload_n 2, 1, 0, 0, .null, none))).trans (RH_aload_n)
set_option maxRecDepth 100000 in
theorem s310_856 {fu d : Nat} {lv : LV} {st : List Value} {h : AH} : aGo (fu + 1) d (310, 856, lv, st, h) = lR (ld lv 0) fun x => aGo fu d (310, 857, lv, x :: st, h) := (st_of (kmOf kt310 rfl : KM 310 856 = some (.aload_n 0, 1, 0, 0, .null, none))).trans (RH_aload_n)
set_option maxRecDepth 100000 in
theorem s310_857 {fu d : Nat} {lv : LV} {st : List Value} {h : AH} : aGo (fu + 1) d (310, 857, lv, st, h) = lI (ld lv 4) fun x => aGo fu d (310, 859, lv, .int x :: st, h) := (st_of (kmOf kt310 rfl : KM 310 857 = some (.iload 4, 2, 0, 0, .null, none))).trans (RH_iload)
set_option maxRecDepth 100000 in
theorem s310_859 {fu d : Nat} {lv : LV} {st : List Value} {h : AH} : aGo (fu + 1) d (310, 859, lv, st, h) = aGo fu d (310, 860, lv, (.int (1)) :: st, h) := (st_of (kmOf kt310 rfl : KM 310 859 = some (.iconst 1, 1, 0, 0, (.int (1)), none))).trans (RH_iconst)
set_option maxRecDepth 100000 in
theorem s310_860 {fu d : Nat} {lv : LV} {st : List Value} {h : AH} : aGo (fu + 1) d (310, 860, lv, st, h) = pI st fun y st => pI st fun x st => aGo fu d (310, 861, lv, .int (x + y) :: st, h) := (st_of (kmOf kt310 rfl : KM 310 860 = some (.iadd, 1, 0, 0, .null, none))).trans (RH_iadd)
set_option maxRecDepth 100000 in
theorem s310_861 {fu d : Nat} {lv : LV} {st : List Value} {h : AH} : aGo (fu + 1) d (310, 861, lv, st, h) = pI st fun i st => pR st fun r st => hIld h r i fun x => aGo fu d (310, 862, lv, .int x :: st, h) := (st_of (kmOf kt310 rfl : KM 310 861 = some (.iaload, 1, 0, 0, .null, none))).trans (RH_iaload)
set_option maxRecDepth 100000 in
theorem s310_862 {fu d : Nat} {lv : LV} {st : List Value} {h : AH} : aGo (fu + 1) d (310, 862, lv, st, h) = ob (popN 2 st []) fun q => gT (isO h 12 q.1 = true ∧ q.2.length ≤ 12 ∧ (layA q.1).length ≤ MX 241) (ob (aCall d 241 q.1 h) (kont d 310 (865) lv q.2)) := (st_of (kmOf kt310 rfl : KM 310 862 = some (.invokevirtual 90, 3, 241, 2, (.retAddr 12), none))).trans (RH_invokevirtual (by decide))
set_option maxRecDepth 100000 in
theorem s310_865 {fu d : Nat} {lv : LV} {st : List Value} {h : AH} : aGo (fu + 1) d (310, 865, lv, st, h) = pI st fun y st => pI st fun x st => if x = y then aGo fu d (310, 1995, lv, st, h) else aGo fu d (310, 868, lv, st, h) := (st_of (kmOf kt310 rfl : KM 310 865 = some (.if_icmp .eq 1130, 3, 1995, 0, .null, none))).trans (RH_icmp_eq)
set_option maxRecDepth 100000 in
theorem s310_868 {fu d : Nat} {lv : LV} {st : List Value} {h : AH} : aGo (fu + 1) d (310, 868, lv, st, h) = aGo fu d (310, 869, lv, (.int (0)) :: st, h) := (st_of (kmOf kt310 rfl : KM 310 868 = some (.iconst 0, 1, 0, 0, (.int (0)), none))).trans (RH_iconst)
set_option maxRecDepth 100000 in
theorem s310_869 {fu d : Nat} {lv : LV} {st : List Value} {h : AH} : aGo (fu + 1) d (310, 869, lv, st, h) = match st with | [.int x] => gT ((1 = 1 → x = 0 ∨ x = 1) ∧ (1 = 2 → x.toInt8.toInt32 = x)) (some (some (.int x), h)) | _ => none := (st_of (kmOf kt310 rfl : KM 310 869 = some (.ireturn, 1, 1, 0, .null, none))).trans (RH_ireturn)
set_option maxRecDepth 100000 in
theorem s310_870 {fu d : Nat} {lv : LV} {st : List Value} {h : AH} : aGo (fu + 1) d (310, 870, lv, st, h) = lR (ld lv 1) fun x => aGo fu d (310, 871, lv, x :: st, h) := (st_of (kmOf kt310 rfl : KM 310 870 = some (.aload_n 1, 1, 0, 0, .null, none))).trans (RH_aload_n)
set_option maxRecDepth 100000 in
theorem s310_871 {fu d : Nat} {lv : LV} {st : List Value} {h : AH} : aGo (fu + 1) d (310, 871, lv, st, h) = lR (ld lv 0) fun x => aGo fu d (310, 872, lv, x :: st, h) := (st_of (kmOf kt310 rfl : KM 310 871 = some (.aload_n 0, 1, 0, 0, .null, none))).trans (RH_aload_n)
set_option maxRecDepth 100000 in
theorem s310_872 {fu d : Nat} {lv : LV} {st : List Value} {h : AH} : aGo (fu + 1) d (310, 872, lv, st, h) = lI (ld lv 4) fun x => aGo fu d (310, 874, lv, .int x :: st, h) := (st_of (kmOf kt310 rfl : KM 310 872 = some (.iload 4, 2, 0, 0, .null, none))).trans (RH_iload)
set_option maxRecDepth 100000 in
theorem s310_874 {fu d : Nat} {lv : LV} {st : List Value} {h : AH} : aGo (fu + 1) d (310, 874, lv, st, h) = aGo fu d (310, 875, lv, (.int (1)) :: st, h) := (st_of (kmOf kt310 rfl : KM 310 874 = some (.iconst 1, 1, 0, 0, (.int (1)), none))).trans (RH_iconst)
set_option maxRecDepth 100000 in
theorem s310_875 {fu d : Nat} {lv : LV} {st : List Value} {h : AH} : aGo (fu + 1) d (310, 875, lv, st, h) = pI st fun y st => pI st fun x st => aGo fu d (310, 876, lv, .int (x + y) :: st, h) := (st_of (kmOf kt310 rfl : KM 310 875 = some (.iadd, 1, 0, 0, .null, none))).trans (RH_iadd)
set_option maxRecDepth 100000 in
theorem s310_876 {fu d : Nat} {lv : LV} {st : List Value} {h : AH} : aGo (fu + 1) d (310, 876, lv, st, h) = pI st fun i st => pR st fun r st => hIld h r i fun x => aGo fu d (310, 877, lv, .int x :: st, h) := (st_of (kmOf kt310 rfl : KM 310 876 = some (.iaload, 1, 0, 0, .null, none))).trans (RH_iaload)
set_option maxRecDepth 100000 in
theorem s310_877 {fu d : Nat} {lv : LV} {st : List Value} {h : AH} : aGo (fu + 1) d (310, 877, lv, st, h) = ob (popN 2 st []) fun q => gT (isO h 11 q.1 = true ∧ q.2.length ≤ 12 ∧ (layA q.1).length ≤ MX 134) (ob (aCall d 134 q.1 h) (kont d 310 (880) lv q.2)) := (st_of (kmOf kt310 rfl : KM 310 877 = some (.invokevirtual 91, 3, 134, 2, (.retAddr 11), none))).trans (RH_invokevirtual (by decide))
set_option maxRecDepth 100000 in
theorem s310_880 {fu d : Nat} {lv : LV} {st : List Value} {h : AH} : aGo (fu + 1) d (310, 880, lv, st, h) = lR (ld lv 2) fun x => aGo fu d (310, 881, lv, x :: st, h) := (st_of (kmOf kt310 rfl : KM 310 880 = some (.aload_n 2, 1, 0, 0, .null, none))).trans (RH_aload_n)
set_option maxRecDepth 100000 in
theorem s310_881 {fu d : Nat} {lv : LV} {st : List Value} {h : AH} : aGo (fu + 1) d (310, 881, lv, st, h) = lR (ld lv 0) fun x => aGo fu d (310, 882, lv, x :: st, h) := (st_of (kmOf kt310 rfl : KM 310 881 = some (.aload_n 0, 1, 0, 0, .null, none))).trans (RH_aload_n)
set_option maxRecDepth 100000 in
theorem s310_882 {fu d : Nat} {lv : LV} {st : List Value} {h : AH} : aGo (fu + 1) d (310, 882, lv, st, h) = lI (ld lv 4) fun x => aGo fu d (310, 884, lv, .int x :: st, h) := (st_of (kmOf kt310 rfl : KM 310 882 = some (.iload 4, 2, 0, 0, .null, none))).trans (RH_iload)
set_option maxRecDepth 100000 in
theorem s310_884 {fu d : Nat} {lv : LV} {st : List Value} {h : AH} : aGo (fu + 1) d (310, 884, lv, st, h) = aGo fu d (310, 885, lv, (.int (1)) :: st, h) := (st_of (kmOf kt310 rfl : KM 310 884 = some (.iconst 1, 1, 0, 0, (.int (1)), none))).trans (RH_iconst)
set_option maxRecDepth 100000 in
theorem s310_885 {fu d : Nat} {lv : LV} {st : List Value} {h : AH} : aGo (fu + 1) d (310, 885, lv, st, h) = pI st fun y st => pI st fun x st => aGo fu d (310, 886, lv, .int (x + y) :: st, h) := (st_of (kmOf kt310 rfl : KM 310 885 = some (.iadd, 1, 0, 0, .null, none))).trans (RH_iadd)
set_option maxRecDepth 100000 in
theorem s310_886 {fu d : Nat} {lv : LV} {st : List Value} {h : AH} : aGo (fu + 1) d (310, 886, lv, st, h) = pI st fun i st => pR st fun r st => hIld h r i fun x => aGo fu d (310, 887, lv, .int x :: st, h) := (st_of (kmOf kt310 rfl : KM 310 886 = some (.iaload, 1, 0, 0, .null, none))).trans (RH_iaload)
set_option maxRecDepth 100000 in
theorem s310_887 {fu d : Nat} {lv : LV} {st : List Value} {h : AH} : aGo (fu + 1) d (310, 887, lv, st, h) = ob (popN 2 st []) fun q => gT (isO h 12 q.1 = true ∧ q.2.length ≤ 12 ∧ (layA q.1).length ≤ MX 242) (ob (aCall d 242 q.1 h) (kont d 310 (890) lv q.2)) := (st_of (kmOf kt310 rfl : KM 310 887 = some (.invokevirtual 94, 3, 242, 2, (.retAddr 12), none))).trans (RH_invokevirtual (by decide))
set_option maxRecDepth 100000 in
theorem s310_890 {fu d : Nat} {lv : LV} {st : List Value} {h : AH} : aGo (fu + 1) d (310, 890, lv, st, h) = pI st fun y st => pI st fun x st => if x = y then aGo fu d (310, 1995, lv, st, h) else aGo fu d (310, 893, lv, st, h) := (st_of (kmOf kt310 rfl : KM 310 890 = some (.if_icmp .eq 1105, 3, 1995, 0, .null, none))).trans (RH_icmp_eq)
set_option maxRecDepth 100000 in
theorem s310_893 {fu d : Nat} {lv : LV} {st : List Value} {h : AH} : aGo (fu + 1) d (310, 893, lv, st, h) = aGo fu d (310, 894, lv, (.int (0)) :: st, h) := (st_of (kmOf kt310 rfl : KM 310 893 = some (.iconst 0, 1, 0, 0, (.int (0)), none))).trans (RH_iconst)
set_option maxRecDepth 100000 in
theorem s310_894 {fu d : Nat} {lv : LV} {st : List Value} {h : AH} : aGo (fu + 1) d (310, 894, lv, st, h) = match st with | [.int x] => gT ((1 = 1 → x = 0 ∨ x = 1) ∧ (1 = 2 → x.toInt8.toInt32 = x)) (some (some (.int x), h)) | _ => none := (st_of (kmOf kt310 rfl : KM 310 894 = some (.ireturn, 1, 1, 0, .null, none))).trans (RH_ireturn)
set_option maxRecDepth 100000 in
theorem s310_895 {fu d : Nat} {lv : LV} {st : List Value} {h : AH} : aGo (fu + 1) d (310, 895, lv, st, h) = lR (ld lv 1) fun x => aGo fu d (310, 896, lv, x :: st, h) := (st_of (kmOf kt310 rfl : KM 310 895 = some (.aload_n 1, 1, 0, 0, .null, none))).trans (RH_aload_n)
set_option maxRecDepth 100000 in
theorem s310_896 {fu d : Nat} {lv : LV} {st : List Value} {h : AH} : aGo (fu + 1) d (310, 896, lv, st, h) = lR (ld lv 0) fun x => aGo fu d (310, 897, lv, x :: st, h) := (st_of (kmOf kt310 rfl : KM 310 896 = some (.aload_n 0, 1, 0, 0, .null, none))).trans (RH_aload_n)
set_option maxRecDepth 100000 in
theorem s310_897 {fu d : Nat} {lv : LV} {st : List Value} {h : AH} : aGo (fu + 1) d (310, 897, lv, st, h) = lI (ld lv 4) fun x => aGo fu d (310, 899, lv, .int x :: st, h) := (st_of (kmOf kt310 rfl : KM 310 897 = some (.iload 4, 2, 0, 0, .null, none))).trans (RH_iload)
set_option maxRecDepth 100000 in
theorem s310_899 {fu d : Nat} {lv : LV} {st : List Value} {h : AH} : aGo (fu + 1) d (310, 899, lv, st, h) = aGo fu d (310, 900, lv, (.int (1)) :: st, h) := (st_of (kmOf kt310 rfl : KM 310 899 = some (.iconst 1, 1, 0, 0, (.int (1)), none))).trans (RH_iconst)
set_option maxRecDepth 100000 in
theorem s310_900 {fu d : Nat} {lv : LV} {st : List Value} {h : AH} : aGo (fu + 1) d (310, 900, lv, st, h) = pI st fun y st => pI st fun x st => aGo fu d (310, 901, lv, .int (x + y) :: st, h) := (st_of (kmOf kt310 rfl : KM 310 900 = some (.iadd, 1, 0, 0, .null, none))).trans (RH_iadd)
set_option maxRecDepth 100000 in
theorem s310_901 {fu d : Nat} {lv : LV} {st : List Value} {h : AH} : aGo (fu + 1) d (310, 901, lv, st, h) = pI st fun i st => pR st fun r st => hIld h r i fun x => aGo fu d (310, 902, lv, .int x :: st, h) := (st_of (kmOf kt310 rfl : KM 310 901 = some (.iaload, 1, 0, 0, .null, none))).trans (RH_iaload)
set_option maxRecDepth 100000 in
theorem s310_902 {fu d : Nat} {lv : LV} {st : List Value} {h : AH} : aGo (fu + 1) d (310, 902, lv, st, h) = ob (popN 2 st []) fun q => gT (isO h 11 q.1 = true ∧ q.2.length ≤ 12 ∧ (layA q.1).length ≤ MX 135) (ob (aCall d 135 q.1 h) (kont d 310 (905) lv q.2)) := (st_of (kmOf kt310 rfl : KM 310 902 = some (.invokevirtual 95, 3, 135, 2, (.retAddr 11), none))).trans (RH_invokevirtual (by decide))
set_option maxRecDepth 100000 in
theorem s310_905 {fu d : Nat} {lv : LV} {st : List Value} {h : AH} : aGo (fu + 1) d (310, 905, lv, st, h) = lR (ld lv 2) fun x => aGo fu d (310, 906, lv, x :: st, h) := (st_of (kmOf kt310 rfl : KM 310 905 = some (.aload_n 2, 1, 0, 0, .null, none))).trans (RH_aload_n)
set_option maxRecDepth 100000 in
theorem s310_906 {fu d : Nat} {lv : LV} {st : List Value} {h : AH} : aGo (fu + 1) d (310, 906, lv, st, h) = lR (ld lv 0) fun x => aGo fu d (310, 907, lv, x :: st, h) := (st_of (kmOf kt310 rfl : KM 310 906 = some (.aload_n 0, 1, 0, 0, .null, none))).trans (RH_aload_n)
set_option maxRecDepth 100000 in
theorem s310_907 {fu d : Nat} {lv : LV} {st : List Value} {h : AH} : aGo (fu + 1) d (310, 907, lv, st, h) = lI (ld lv 4) fun x => aGo fu d (310, 909, lv, .int x :: st, h) := (st_of (kmOf kt310 rfl : KM 310 907 = some (.iload 4, 2, 0, 0, .null, none))).trans (RH_iload)
set_option maxRecDepth 100000 in
theorem s310_909 {fu d : Nat} {lv : LV} {st : List Value} {h : AH} : aGo (fu + 1) d (310, 909, lv, st, h) = aGo fu d (310, 910, lv, (.int (1)) :: st, h) := (st_of (kmOf kt310 rfl : KM 310 909 = some (.iconst 1, 1, 0, 0, (.int (1)), none))).trans (RH_iconst)
set_option maxRecDepth 100000 in
theorem s310_910 {fu d : Nat} {lv : LV} {st : List Value} {h : AH} : aGo (fu + 1) d (310, 910, lv, st, h) = pI st fun y st => pI st fun x st => aGo fu d (310, 911, lv, .int (x + y) :: st, h) := (st_of (kmOf kt310 rfl : KM 310 910 = some (.iadd, 1, 0, 0, .null, none))).trans (RH_iadd)
set_option maxRecDepth 100000 in
theorem s310_911 {fu d : Nat} {lv : LV} {st : List Value} {h : AH} : aGo (fu + 1) d (310, 911, lv, st, h) = pI st fun i st => pR st fun r st => hIld h r i fun x => aGo fu d (310, 912, lv, .int x :: st, h) := (st_of (kmOf kt310 rfl : KM 310 911 = some (.iaload, 1, 0, 0, .null, none))).trans (RH_iaload)
set_option maxRecDepth 100000 in
theorem s310_912 {fu d : Nat} {lv : LV} {st : List Value} {h : AH} : aGo (fu + 1) d (310, 912, lv, st, h) = ob (popN 2 st []) fun q => gT (isO h 12 q.1 = true ∧ q.2.length ≤ 12 ∧ (layA q.1).length ≤ MX 243) (ob (aCall d 243 q.1 h) (kont d 310 (915) lv q.2)) := (st_of (kmOf kt310 rfl : KM 310 912 = some (.invokevirtual 98, 3, 243, 2, (.retAddr 12), none))).trans (RH_invokevirtual (by decide))
set_option maxRecDepth 100000 in
theorem s310_915 {fu d : Nat} {lv : LV} {st : List Value} {h : AH} : aGo (fu + 1) d (310, 915, lv, st, h) = pI st fun y st => pI st fun x st => if x = y then aGo fu d (310, 1995, lv, st, h) else aGo fu d (310, 918, lv, st, h) := (st_of (kmOf kt310 rfl : KM 310 915 = some (.if_icmp .eq 1080, 3, 1995, 0, .null, none))).trans (RH_icmp_eq)
set_option maxRecDepth 100000 in
theorem s310_918 {fu d : Nat} {lv : LV} {st : List Value} {h : AH} : aGo (fu + 1) d (310, 918, lv, st, h) = aGo fu d (310, 919, lv, (.int (0)) :: st, h) := (st_of (kmOf kt310 rfl : KM 310 918 = some (.iconst 0, 1, 0, 0, (.int (0)), none))).trans (RH_iconst)
set_option maxRecDepth 100000 in
theorem s310_919 {fu d : Nat} {lv : LV} {st : List Value} {h : AH} : aGo (fu + 1) d (310, 919, lv, st, h) = match st with | [.int x] => gT ((1 = 1 → x = 0 ∨ x = 1) ∧ (1 = 2 → x.toInt8.toInt32 = x)) (some (some (.int x), h)) | _ => none := (st_of (kmOf kt310 rfl : KM 310 919 = some (.ireturn, 1, 1, 0, .null, none))).trans (RH_ireturn)
set_option maxRecDepth 100000 in
theorem s310_920 {fu d : Nat} {lv : LV} {st : List Value} {h : AH} : aGo (fu + 1) d (310, 920, lv, st, h) = lR (ld lv 1) fun x => aGo fu d (310, 921, lv, x :: st, h) := (st_of (kmOf kt310 rfl : KM 310 920 = some (.aload_n 1, 1, 0, 0, .null, none))).trans (RH_aload_n)
set_option maxRecDepth 100000 in
theorem s310_921 {fu d : Nat} {lv : LV} {st : List Value} {h : AH} : aGo (fu + 1) d (310, 921, lv, st, h) = lR (ld lv 0) fun x => aGo fu d (310, 922, lv, x :: st, h) := (st_of (kmOf kt310 rfl : KM 310 921 = some (.aload_n 0, 1, 0, 0, .null, none))).trans (RH_aload_n)
set_option maxRecDepth 100000 in
theorem s310_922 {fu d : Nat} {lv : LV} {st : List Value} {h : AH} : aGo (fu + 1) d (310, 922, lv, st, h) = lI (ld lv 4) fun x => aGo fu d (310, 924, lv, .int x :: st, h) := (st_of (kmOf kt310 rfl : KM 310 922 = some (.iload 4, 2, 0, 0, .null, none))).trans (RH_iload)
set_option maxRecDepth 100000 in
theorem s310_924 {fu d : Nat} {lv : LV} {st : List Value} {h : AH} : aGo (fu + 1) d (310, 924, lv, st, h) = aGo fu d (310, 925, lv, (.int (1)) :: st, h) := (st_of (kmOf kt310 rfl : KM 310 924 = some (.iconst 1, 1, 0, 0, (.int (1)), none))).trans (RH_iconst)
set_option maxRecDepth 100000 in
theorem s310_925 {fu d : Nat} {lv : LV} {st : List Value} {h : AH} : aGo (fu + 1) d (310, 925, lv, st, h) = pI st fun y st => pI st fun x st => aGo fu d (310, 926, lv, .int (x + y) :: st, h) := (st_of (kmOf kt310 rfl : KM 310 925 = some (.iadd, 1, 0, 0, .null, none))).trans (RH_iadd)
set_option maxRecDepth 100000 in
theorem s310_926 {fu d : Nat} {lv : LV} {st : List Value} {h : AH} : aGo (fu + 1) d (310, 926, lv, st, h) = pI st fun i st => pR st fun r st => hIld h r i fun x => aGo fu d (310, 927, lv, .int x :: st, h) := (st_of (kmOf kt310 rfl : KM 310 926 = some (.iaload, 1, 0, 0, .null, none))).trans (RH_iaload)
set_option maxRecDepth 100000 in
theorem s310_927 {fu d : Nat} {lv : LV} {st : List Value} {h : AH} : aGo (fu + 1) d (310, 927, lv, st, h) = lR (ld lv 0) fun x => aGo fu d (310, 928, lv, x :: st, h) := (st_of (kmOf kt310 rfl : KM 310 927 = some (.aload_n 0, 1, 0, 0, .null, none))).trans (RH_aload_n)
set_option maxRecDepth 100000 in
theorem s310_928 {fu d : Nat} {lv : LV} {st : List Value} {h : AH} : aGo (fu + 1) d (310, 928, lv, st, h) = lI (ld lv 4) fun x => aGo fu d (310, 930, lv, .int x :: st, h) := (st_of (kmOf kt310 rfl : KM 310 928 = some (.iload 4, 2, 0, 0, .null, none))).trans (RH_iload)
set_option maxRecDepth 100000 in
theorem s310_930 {fu d : Nat} {lv : LV} {st : List Value} {h : AH} : aGo (fu + 1) d (310, 930, lv, st, h) = aGo fu d (310, 931, lv, (.int (2)) :: st, h) := (st_of (kmOf kt310 rfl : KM 310 930 = some (.iconst 2, 1, 0, 0, (.int (2)), none))).trans (RH_iconst)
set_option maxRecDepth 100000 in
theorem s310_931 {fu d : Nat} {lv : LV} {st : List Value} {h : AH} : aGo (fu + 1) d (310, 931, lv, st, h) = pI st fun y st => pI st fun x st => aGo fu d (310, 932, lv, .int (x + y) :: st, h) := (st_of (kmOf kt310 rfl : KM 310 931 = some (.iadd, 1, 0, 0, .null, none))).trans (RH_iadd)
set_option maxRecDepth 100000 in
theorem s310_932 {fu d : Nat} {lv : LV} {st : List Value} {h : AH} : aGo (fu + 1) d (310, 932, lv, st, h) = pI st fun i st => pR st fun r st => hIld h r i fun x => aGo fu d (310, 933, lv, .int x :: st, h) := (st_of (kmOf kt310 rfl : KM 310 932 = some (.iaload, 1, 0, 0, .null, none))).trans (RH_iaload)
set_option maxRecDepth 100000 in
theorem s310_933 {fu d : Nat} {lv : LV} {st : List Value} {h : AH} : aGo (fu + 1) d (310, 933, lv, st, h) = ob (popN 3 st []) fun q => gT (isO h 11 q.1 = true ∧ q.2.length ≤ 12 ∧ (layA q.1).length ≤ MX 136) (ob (aCall d 136 q.1 h) (kont d 310 (936) lv q.2)) := (st_of (kmOf kt310 rfl : KM 310 933 = some (.invokevirtual 99, 3, 136, 3, (.retAddr 11), none))).trans (RH_invokevirtual (by decide))
set_option maxRecDepth 100000 in
theorem s310_936 {fu d : Nat} {lv : LV} {st : List Value} {h : AH} : aGo (fu + 1) d (310, 936, lv, st, h) = lR (ld lv 2) fun x => aGo fu d (310, 937, lv, x :: st, h) := (st_of (kmOf kt310 rfl : KM 310 936 = some (.aload_n 2, 1, 0, 0, .null, none))).trans (RH_aload_n)
set_option maxRecDepth 100000 in
theorem s310_937 {fu d : Nat} {lv : LV} {st : List Value} {h : AH} : aGo (fu + 1) d (310, 937, lv, st, h) = lR (ld lv 0) fun x => aGo fu d (310, 938, lv, x :: st, h) := (st_of (kmOf kt310 rfl : KM 310 937 = some (.aload_n 0, 1, 0, 0, .null, none))).trans (RH_aload_n)
set_option maxRecDepth 100000 in
theorem s310_938 {fu d : Nat} {lv : LV} {st : List Value} {h : AH} : aGo (fu + 1) d (310, 938, lv, st, h) = lI (ld lv 4) fun x => aGo fu d (310, 940, lv, .int x :: st, h) := (st_of (kmOf kt310 rfl : KM 310 938 = some (.iload 4, 2, 0, 0, .null, none))).trans (RH_iload)
set_option maxRecDepth 100000 in
theorem s310_940 {fu d : Nat} {lv : LV} {st : List Value} {h : AH} : aGo (fu + 1) d (310, 940, lv, st, h) = aGo fu d (310, 941, lv, (.int (1)) :: st, h) := (st_of (kmOf kt310 rfl : KM 310 940 = some (.iconst 1, 1, 0, 0, (.int (1)), none))).trans (RH_iconst)
set_option maxRecDepth 100000 in
theorem s310_941 {fu d : Nat} {lv : LV} {st : List Value} {h : AH} : aGo (fu + 1) d (310, 941, lv, st, h) = pI st fun y st => pI st fun x st => aGo fu d (310, 942, lv, .int (x + y) :: st, h) := (st_of (kmOf kt310 rfl : KM 310 941 = some (.iadd, 1, 0, 0, .null, none))).trans (RH_iadd)
set_option maxRecDepth 100000 in
theorem s310_942 {fu d : Nat} {lv : LV} {st : List Value} {h : AH} : aGo (fu + 1) d (310, 942, lv, st, h) = pI st fun i st => pR st fun r st => hIld h r i fun x => aGo fu d (310, 943, lv, .int x :: st, h) := (st_of (kmOf kt310 rfl : KM 310 942 = some (.iaload, 1, 0, 0, .null, none))).trans (RH_iaload)
set_option maxRecDepth 100000 in
theorem s310_943 {fu d : Nat} {lv : LV} {st : List Value} {h : AH} : aGo (fu + 1) d (310, 943, lv, st, h) = lR (ld lv 0) fun x => aGo fu d (310, 944, lv, x :: st, h) := (st_of (kmOf kt310 rfl : KM 310 943 = some (.aload_n 0, 1, 0, 0, .null, none))).trans (RH_aload_n)
set_option maxRecDepth 100000 in
theorem s310_944 {fu d : Nat} {lv : LV} {st : List Value} {h : AH} : aGo (fu + 1) d (310, 944, lv, st, h) = lI (ld lv 4) fun x => aGo fu d (310, 946, lv, .int x :: st, h) := (st_of (kmOf kt310 rfl : KM 310 944 = some (.iload 4, 2, 0, 0, .null, none))).trans (RH_iload)
set_option maxRecDepth 100000 in
theorem s310_946 {fu d : Nat} {lv : LV} {st : List Value} {h : AH} : aGo (fu + 1) d (310, 946, lv, st, h) = aGo fu d (310, 947, lv, (.int (2)) :: st, h) := (st_of (kmOf kt310 rfl : KM 310 946 = some (.iconst 2, 1, 0, 0, (.int (2)), none))).trans (RH_iconst)
set_option maxRecDepth 100000 in
theorem s310_947 {fu d : Nat} {lv : LV} {st : List Value} {h : AH} : aGo (fu + 1) d (310, 947, lv, st, h) = pI st fun y st => pI st fun x st => aGo fu d (310, 948, lv, .int (x + y) :: st, h) := (st_of (kmOf kt310 rfl : KM 310 947 = some (.iadd, 1, 0, 0, .null, none))).trans (RH_iadd)
set_option maxRecDepth 100000 in
theorem s310_948 {fu d : Nat} {lv : LV} {st : List Value} {h : AH} : aGo (fu + 1) d (310, 948, lv, st, h) = pI st fun i st => pR st fun r st => hIld h r i fun x => aGo fu d (310, 949, lv, .int x :: st, h) := (st_of (kmOf kt310 rfl : KM 310 948 = some (.iaload, 1, 0, 0, .null, none))).trans (RH_iaload)
set_option maxRecDepth 100000 in
theorem s310_949 {fu d : Nat} {lv : LV} {st : List Value} {h : AH} : aGo (fu + 1) d (310, 949, lv, st, h) = ob (popN 3 st []) fun q => gT (isO h 12 q.1 = true ∧ q.2.length ≤ 12 ∧ (layA q.1).length ≤ MX 244) (ob (aCall d 244 q.1 h) (kont d 310 (952) lv q.2)) := (st_of (kmOf kt310 rfl : KM 310 949 = some (.invokevirtual 102, 3, 244, 3, (.retAddr 12), none))).trans (RH_invokevirtual (by decide))
set_option maxRecDepth 100000 in
theorem s310_952 {fu d : Nat} {lv : LV} {st : List Value} {h : AH} : aGo (fu + 1) d (310, 952, lv, st, h) = pI st fun y st => pI st fun x st => if x = y then aGo fu d (310, 1995, lv, st, h) else aGo fu d (310, 955, lv, st, h) := (st_of (kmOf kt310 rfl : KM 310 952 = some (.if_icmp .eq 1043, 3, 1995, 0, .null, none))).trans (RH_icmp_eq)
set_option maxRecDepth 100000 in
theorem s310_955 {fu d : Nat} {lv : LV} {st : List Value} {h : AH} : aGo (fu + 1) d (310, 955, lv, st, h) = aGo fu d (310, 956, lv, (.int (0)) :: st, h) := (st_of (kmOf kt310 rfl : KM 310 955 = some (.iconst 0, 1, 0, 0, (.int (0)), none))).trans (RH_iconst)
set_option maxRecDepth 100000 in
theorem s310_956 {fu d : Nat} {lv : LV} {st : List Value} {h : AH} : aGo (fu + 1) d (310, 956, lv, st, h) = match st with | [.int x] => gT ((1 = 1 → x = 0 ∨ x = 1) ∧ (1 = 2 → x.toInt8.toInt32 = x)) (some (some (.int x), h)) | _ => none := (st_of (kmOf kt310 rfl : KM 310 956 = some (.ireturn, 1, 1, 0, .null, none))).trans (RH_ireturn)
set_option maxRecDepth 100000 in
theorem s310_957 {fu d : Nat} {lv : LV} {st : List Value} {h : AH} : aGo (fu + 1) d (310, 957, lv, st, h) = lR (ld lv 1) fun x => aGo fu d (310, 958, lv, x :: st, h) := (st_of (kmOf kt310 rfl : KM 310 957 = some (.aload_n 1, 1, 0, 0, .null, none))).trans (RH_aload_n)
set_option maxRecDepth 100000 in
theorem s310_958 {fu d : Nat} {lv : LV} {st : List Value} {h : AH} : aGo (fu + 1) d (310, 958, lv, st, h) = lR (ld lv 0) fun x => aGo fu d (310, 959, lv, x :: st, h) := (st_of (kmOf kt310 rfl : KM 310 958 = some (.aload_n 0, 1, 0, 0, .null, none))).trans (RH_aload_n)
set_option maxRecDepth 100000 in
theorem s310_959 {fu d : Nat} {lv : LV} {st : List Value} {h : AH} : aGo (fu + 1) d (310, 959, lv, st, h) = lI (ld lv 4) fun x => aGo fu d (310, 961, lv, .int x :: st, h) := (st_of (kmOf kt310 rfl : KM 310 959 = some (.iload 4, 2, 0, 0, .null, none))).trans (RH_iload)
set_option maxRecDepth 100000 in
theorem s310_961 {fu d : Nat} {lv : LV} {st : List Value} {h : AH} : aGo (fu + 1) d (310, 961, lv, st, h) = aGo fu d (310, 962, lv, (.int (1)) :: st, h) := (st_of (kmOf kt310 rfl : KM 310 961 = some (.iconst 1, 1, 0, 0, (.int (1)), none))).trans (RH_iconst)
set_option maxRecDepth 100000 in
theorem s310_962 {fu d : Nat} {lv : LV} {st : List Value} {h : AH} : aGo (fu + 1) d (310, 962, lv, st, h) = pI st fun y st => pI st fun x st => aGo fu d (310, 963, lv, .int (x + y) :: st, h) := (st_of (kmOf kt310 rfl : KM 310 962 = some (.iadd, 1, 0, 0, .null, none))).trans (RH_iadd)
set_option maxRecDepth 100000 in
theorem s310_963 {fu d : Nat} {lv : LV} {st : List Value} {h : AH} : aGo (fu + 1) d (310, 963, lv, st, h) = pI st fun i st => pR st fun r st => hIld h r i fun x => aGo fu d (310, 964, lv, .int x :: st, h) := (st_of (kmOf kt310 rfl : KM 310 963 = some (.iaload, 1, 0, 0, .null, none))).trans (RH_iaload)
set_option maxRecDepth 100000 in
theorem s310_964 {fu d : Nat} {lv : LV} {st : List Value} {h : AH} : aGo (fu + 1) d (310, 964, lv, st, h) = lR (ld lv 0) fun x => aGo fu d (310, 965, lv, x :: st, h) := (st_of (kmOf kt310 rfl : KM 310 964 = some (.aload_n 0, 1, 0, 0, .null, none))).trans (RH_aload_n)
set_option maxRecDepth 100000 in
theorem s310_965 {fu d : Nat} {lv : LV} {st : List Value} {h : AH} : aGo (fu + 1) d (310, 965, lv, st, h) = lI (ld lv 4) fun x => aGo fu d (310, 967, lv, .int x :: st, h) := (st_of (kmOf kt310 rfl : KM 310 965 = some (.iload 4, 2, 0, 0, .null, none))).trans (RH_iload)
set_option maxRecDepth 100000 in
theorem s310_967 {fu d : Nat} {lv : LV} {st : List Value} {h : AH} : aGo (fu + 1) d (310, 967, lv, st, h) = aGo fu d (310, 968, lv, (.int (2)) :: st, h) := (st_of (kmOf kt310 rfl : KM 310 967 = some (.iconst 2, 1, 0, 0, (.int (2)), none))).trans (RH_iconst)
set_option maxRecDepth 100000 in
theorem s310_968 {fu d : Nat} {lv : LV} {st : List Value} {h : AH} : aGo (fu + 1) d (310, 968, lv, st, h) = pI st fun y st => pI st fun x st => aGo fu d (310, 969, lv, .int (x + y) :: st, h) := (st_of (kmOf kt310 rfl : KM 310 968 = some (.iadd, 1, 0, 0, .null, none))).trans (RH_iadd)
set_option maxRecDepth 100000 in
theorem s310_969 {fu d : Nat} {lv : LV} {st : List Value} {h : AH} : aGo (fu + 1) d (310, 969, lv, st, h) = pI st fun i st => pR st fun r st => hIld h r i fun x => aGo fu d (310, 970, lv, .int x :: st, h) := (st_of (kmOf kt310 rfl : KM 310 969 = some (.iaload, 1, 0, 0, .null, none))).trans (RH_iaload)
set_option maxRecDepth 100000 in
theorem s310_970 {fu d : Nat} {lv : LV} {st : List Value} {h : AH} : aGo (fu + 1) d (310, 970, lv, st, h) = lR (ld lv 0) fun x => aGo fu d (310, 971, lv, x :: st, h) := (st_of (kmOf kt310 rfl : KM 310 970 = some (.aload_n 0, 1, 0, 0, .null, none))).trans (RH_aload_n)
set_option maxRecDepth 100000 in
theorem s310_971 {fu d : Nat} {lv : LV} {st : List Value} {h : AH} : aGo (fu + 1) d (310, 971, lv, st, h) = lI (ld lv 4) fun x => aGo fu d (310, 973, lv, .int x :: st, h) := (st_of (kmOf kt310 rfl : KM 310 971 = some (.iload 4, 2, 0, 0, .null, none))).trans (RH_iload)
set_option maxRecDepth 100000 in
theorem s310_973 {fu d : Nat} {lv : LV} {st : List Value} {h : AH} : aGo (fu + 1) d (310, 973, lv, st, h) = aGo fu d (310, 974, lv, (.int (3)) :: st, h) := (st_of (kmOf kt310 rfl : KM 310 973 = some (.iconst 3, 1, 0, 0, (.int (3)), none))).trans (RH_iconst)
set_option maxRecDepth 100000 in
theorem s310_974 {fu d : Nat} {lv : LV} {st : List Value} {h : AH} : aGo (fu + 1) d (310, 974, lv, st, h) = pI st fun y st => pI st fun x st => aGo fu d (310, 975, lv, .int (x + y) :: st, h) := (st_of (kmOf kt310 rfl : KM 310 974 = some (.iadd, 1, 0, 0, .null, none))).trans (RH_iadd)
set_option maxRecDepth 100000 in
theorem s310_975 {fu d : Nat} {lv : LV} {st : List Value} {h : AH} : aGo (fu + 1) d (310, 975, lv, st, h) = pI st fun i st => pR st fun r st => hIld h r i fun x => aGo fu d (310, 976, lv, .int x :: st, h) := (st_of (kmOf kt310 rfl : KM 310 975 = some (.iaload, 1, 0, 0, .null, none))).trans (RH_iaload)
set_option maxRecDepth 100000 in
theorem s310_976 {fu d : Nat} {lv : LV} {st : List Value} {h : AH} : aGo (fu + 1) d (310, 976, lv, st, h) = pI st fun x st => if x = 0 then aGo fu d (310, 983, lv, st, h) else aGo fu d (310, 979, lv, st, h) := (st_of (kmOf kt310 rfl : KM 310 976 = some (.ifCond .eq 7, 3, 983, 0, .null, none))).trans (RH_if_eq)
set_option maxRecDepth 100000 in
theorem s310_979 {fu d : Nat} {lv : LV} {st : List Value} {h : AH} : aGo (fu + 1) d (310, 979, lv, st, h) = aGo fu d (310, 980, lv, (.int (1)) :: st, h) := (st_of (kmOf kt310 rfl : KM 310 979 = some (.iconst 1, 1, 0, 0, (.int (1)), none))).trans (RH_iconst)
set_option maxRecDepth 100000 in
theorem s310_980 {fu d : Nat} {lv : LV} {st : List Value} {h : AH} : aGo (fu + 1) d (310, 980, lv, st, h) = aGo fu d (310, 984, lv, st, h) := (st_of (kmOf kt310 rfl : KM 310 980 = some (.goto 4, 3, 984, 0, .null, none))).trans (RH_goto)
set_option maxRecDepth 100000 in
theorem s310_983 {fu d : Nat} {lv : LV} {st : List Value} {h : AH} : aGo (fu + 1) d (310, 983, lv, st, h) = aGo fu d (310, 984, lv, (.int (0)) :: st, h) := (st_of (kmOf kt310 rfl : KM 310 983 = some (.iconst 0, 1, 0, 0, (.int (0)), none))).trans (RH_iconst)
set_option maxRecDepth 100000 in
theorem s310_984 {fu d : Nat} {lv : LV} {st : List Value} {h : AH} : aGo (fu + 1) d (310, 984, lv, st, h) = ob (popN 4 st []) fun q => gT (isO h 11 q.1 = true ∧ q.2.length ≤ 12 ∧ (layA q.1).length ≤ MX 137) (ob (aCall d 137 q.1 h) (kont d 310 (987) lv q.2)) := (st_of (kmOf kt310 rfl : KM 310 984 = some (.invokevirtual 103, 3, 137, 4, (.retAddr 11), none))).trans (RH_invokevirtual (by decide))
set_option maxRecDepth 100000 in
theorem s310_987 {fu d : Nat} {lv : LV} {st : List Value} {h : AH} : aGo (fu + 1) d (310, 987, lv, st, h) = lR (ld lv 2) fun x => aGo fu d (310, 988, lv, x :: st, h) := (st_of (kmOf kt310 rfl : KM 310 987 = some (.aload_n 2, 1, 0, 0, .null, none))).trans (RH_aload_n)
set_option maxRecDepth 100000 in
theorem s310_988 {fu d : Nat} {lv : LV} {st : List Value} {h : AH} : aGo (fu + 1) d (310, 988, lv, st, h) = lR (ld lv 0) fun x => aGo fu d (310, 989, lv, x :: st, h) := (st_of (kmOf kt310 rfl : KM 310 988 = some (.aload_n 0, 1, 0, 0, .null, none))).trans (RH_aload_n)
set_option maxRecDepth 100000 in
theorem s310_989 {fu d : Nat} {lv : LV} {st : List Value} {h : AH} : aGo (fu + 1) d (310, 989, lv, st, h) = lI (ld lv 4) fun x => aGo fu d (310, 991, lv, .int x :: st, h) := (st_of (kmOf kt310 rfl : KM 310 989 = some (.iload 4, 2, 0, 0, .null, none))).trans (RH_iload)
set_option maxRecDepth 100000 in
theorem s310_991 {fu d : Nat} {lv : LV} {st : List Value} {h : AH} : aGo (fu + 1) d (310, 991, lv, st, h) = aGo fu d (310, 992, lv, (.int (1)) :: st, h) := (st_of (kmOf kt310 rfl : KM 310 991 = some (.iconst 1, 1, 0, 0, (.int (1)), none))).trans (RH_iconst)
set_option maxRecDepth 100000 in
theorem s310_992 {fu d : Nat} {lv : LV} {st : List Value} {h : AH} : aGo (fu + 1) d (310, 992, lv, st, h) = pI st fun y st => pI st fun x st => aGo fu d (310, 993, lv, .int (x + y) :: st, h) := (st_of (kmOf kt310 rfl : KM 310 992 = some (.iadd, 1, 0, 0, .null, none))).trans (RH_iadd)
set_option maxRecDepth 100000 in
theorem s310_993 {fu d : Nat} {lv : LV} {st : List Value} {h : AH} : aGo (fu + 1) d (310, 993, lv, st, h) = pI st fun i st => pR st fun r st => hIld h r i fun x => aGo fu d (310, 994, lv, .int x :: st, h) := (st_of (kmOf kt310 rfl : KM 310 993 = some (.iaload, 1, 0, 0, .null, none))).trans (RH_iaload)
set_option maxRecDepth 100000 in
theorem s310_994 {fu d : Nat} {lv : LV} {st : List Value} {h : AH} : aGo (fu + 1) d (310, 994, lv, st, h) = lR (ld lv 0) fun x => aGo fu d (310, 995, lv, x :: st, h) := (st_of (kmOf kt310 rfl : KM 310 994 = some (.aload_n 0, 1, 0, 0, .null, none))).trans (RH_aload_n)
set_option maxRecDepth 100000 in
theorem s310_995 {fu d : Nat} {lv : LV} {st : List Value} {h : AH} : aGo (fu + 1) d (310, 995, lv, st, h) = lI (ld lv 4) fun x => aGo fu d (310, 997, lv, .int x :: st, h) := (st_of (kmOf kt310 rfl : KM 310 995 = some (.iload 4, 2, 0, 0, .null, none))).trans (RH_iload)
set_option maxRecDepth 100000 in
theorem s310_997 {fu d : Nat} {lv : LV} {st : List Value} {h : AH} : aGo (fu + 1) d (310, 997, lv, st, h) = aGo fu d (310, 998, lv, (.int (2)) :: st, h) := (st_of (kmOf kt310 rfl : KM 310 997 = some (.iconst 2, 1, 0, 0, (.int (2)), none))).trans (RH_iconst)
set_option maxRecDepth 100000 in
theorem s310_998 {fu d : Nat} {lv : LV} {st : List Value} {h : AH} : aGo (fu + 1) d (310, 998, lv, st, h) = pI st fun y st => pI st fun x st => aGo fu d (310, 999, lv, .int (x + y) :: st, h) := (st_of (kmOf kt310 rfl : KM 310 998 = some (.iadd, 1, 0, 0, .null, none))).trans (RH_iadd)
set_option maxRecDepth 100000 in
theorem s310_999 {fu d : Nat} {lv : LV} {st : List Value} {h : AH} : aGo (fu + 1) d (310, 999, lv, st, h) = pI st fun i st => pR st fun r st => hIld h r i fun x => aGo fu d (310, 1000, lv, .int x :: st, h) := (st_of (kmOf kt310 rfl : KM 310 999 = some (.iaload, 1, 0, 0, .null, none))).trans (RH_iaload)
set_option maxRecDepth 100000 in
theorem s310_1000 {fu d : Nat} {lv : LV} {st : List Value} {h : AH} : aGo (fu + 1) d (310, 1000, lv, st, h) = lR (ld lv 0) fun x => aGo fu d (310, 1001, lv, x :: st, h) := (st_of (kmOf kt310 rfl : KM 310 1000 = some (.aload_n 0, 1, 0, 0, .null, none))).trans (RH_aload_n)
set_option maxRecDepth 100000 in
theorem s310_1001 {fu d : Nat} {lv : LV} {st : List Value} {h : AH} : aGo (fu + 1) d (310, 1001, lv, st, h) = lI (ld lv 4) fun x => aGo fu d (310, 1003, lv, .int x :: st, h) := (st_of (kmOf kt310 rfl : KM 310 1001 = some (.iload 4, 2, 0, 0, .null, none))).trans (RH_iload)
set_option maxRecDepth 100000 in
theorem s310_1003 {fu d : Nat} {lv : LV} {st : List Value} {h : AH} : aGo (fu + 1) d (310, 1003, lv, st, h) = aGo fu d (310, 1004, lv, (.int (3)) :: st, h) := (st_of (kmOf kt310 rfl : KM 310 1003 = some (.iconst 3, 1, 0, 0, (.int (3)), none))).trans (RH_iconst)
set_option maxRecDepth 100000 in
theorem s310_1004 {fu d : Nat} {lv : LV} {st : List Value} {h : AH} : aGo (fu + 1) d (310, 1004, lv, st, h) = pI st fun y st => pI st fun x st => aGo fu d (310, 1005, lv, .int (x + y) :: st, h) := (st_of (kmOf kt310 rfl : KM 310 1004 = some (.iadd, 1, 0, 0, .null, none))).trans (RH_iadd)
set_option maxRecDepth 100000 in
theorem s310_1005 {fu d : Nat} {lv : LV} {st : List Value} {h : AH} : aGo (fu + 1) d (310, 1005, lv, st, h) = pI st fun i st => pR st fun r st => hIld h r i fun x => aGo fu d (310, 1006, lv, .int x :: st, h) := (st_of (kmOf kt310 rfl : KM 310 1005 = some (.iaload, 1, 0, 0, .null, none))).trans (RH_iaload)
set_option maxRecDepth 100000 in
theorem s310_1006 {fu d : Nat} {lv : LV} {st : List Value} {h : AH} : aGo (fu + 1) d (310, 1006, lv, st, h) = pI st fun x st => if x = 0 then aGo fu d (310, 1013, lv, st, h) else aGo fu d (310, 1009, lv, st, h) := (st_of (kmOf kt310 rfl : KM 310 1006 = some (.ifCond .eq 7, 3, 1013, 0, .null, none))).trans (RH_if_eq)
set_option maxRecDepth 100000 in
theorem s310_1009 {fu d : Nat} {lv : LV} {st : List Value} {h : AH} : aGo (fu + 1) d (310, 1009, lv, st, h) = aGo fu d (310, 1010, lv, (.int (1)) :: st, h) := (st_of (kmOf kt310 rfl : KM 310 1009 = some (.iconst 1, 1, 0, 0, (.int (1)), none))).trans (RH_iconst)
set_option maxRecDepth 100000 in
theorem s310_1010 {fu d : Nat} {lv : LV} {st : List Value} {h : AH} : aGo (fu + 1) d (310, 1010, lv, st, h) = aGo fu d (310, 1014, lv, st, h) := (st_of (kmOf kt310 rfl : KM 310 1010 = some (.goto 4, 3, 1014, 0, .null, none))).trans (RH_goto)
set_option maxRecDepth 100000 in
theorem s310_1013 {fu d : Nat} {lv : LV} {st : List Value} {h : AH} : aGo (fu + 1) d (310, 1013, lv, st, h) = aGo fu d (310, 1014, lv, (.int (0)) :: st, h) := (st_of (kmOf kt310 rfl : KM 310 1013 = some (.iconst 0, 1, 0, 0, (.int (0)), none))).trans (RH_iconst)
set_option maxRecDepth 100000 in
theorem s310_1014 {fu d : Nat} {lv : LV} {st : List Value} {h : AH} : aGo (fu + 1) d (310, 1014, lv, st, h) = ob (popN 4 st []) fun q => gT (isO h 12 q.1 = true ∧ q.2.length ≤ 12 ∧ (layA q.1).length ≤ MX 248) (ob (aCall d 248 q.1 h) (kont d 310 (1017) lv q.2)) := (st_of (kmOf kt310 rfl : KM 310 1014 = some (.invokevirtual 107, 3, 248, 4, (.retAddr 12), none))).trans (RH_invokevirtual (by decide))
set_option maxRecDepth 100000 in
theorem s310_1017 {fu d : Nat} {lv : LV} {st : List Value} {h : AH} : aGo (fu + 1) d (310, 1017, lv, st, h) = pI st fun y st => pI st fun x st => if x = y then aGo fu d (310, 1995, lv, st, h) else aGo fu d (310, 1020, lv, st, h) := (st_of (kmOf kt310 rfl : KM 310 1017 = some (.if_icmp .eq 978, 3, 1995, 0, .null, none))).trans (RH_icmp_eq)
set_option maxRecDepth 100000 in
theorem s310_1020 {fu d : Nat} {lv : LV} {st : List Value} {h : AH} : aGo (fu + 1) d (310, 1020, lv, st, h) = aGo fu d (310, 1021, lv, (.int (0)) :: st, h) := (st_of (kmOf kt310 rfl : KM 310 1020 = some (.iconst 0, 1, 0, 0, (.int (0)), none))).trans (RH_iconst)
set_option maxRecDepth 100000 in
theorem s310_1021 {fu d : Nat} {lv : LV} {st : List Value} {h : AH} : aGo (fu + 1) d (310, 1021, lv, st, h) = match st with | [.int x] => gT ((1 = 1 → x = 0 ∨ x = 1) ∧ (1 = 2 → x.toInt8.toInt32 = x)) (some (some (.int x), h)) | _ => none := (st_of (kmOf kt310 rfl : KM 310 1021 = some (.ireturn, 1, 1, 0, .null, none))).trans (RH_ireturn)
set_option maxRecDepth 100000 in
theorem s310_1022 {fu d : Nat} {lv : LV} {st : List Value} {h : AH} : aGo (fu + 1) d (310, 1022, lv, st, h) = lR (ld lv 1) fun x => aGo fu d (310, 1023, lv, x :: st, h) := (st_of (kmOf kt310 rfl : KM 310 1022 = some (.aload_n 1, 1, 0, 0, .null, none))).trans (RH_aload_n)
set_option maxRecDepth 100000 in
theorem s310_1023 {fu d : Nat} {lv : LV} {st : List Value} {h : AH} : aGo (fu + 1) d (310, 1023, lv, st, h) = lR (ld lv 0) fun x => aGo fu d (310, 1024, lv, x :: st, h) := (st_of (kmOf kt310 rfl : KM 310 1023 = some (.aload_n 0, 1, 0, 0, .null, none))).trans (RH_aload_n)
set_option maxRecDepth 100000 in
theorem s310_1024 {fu d : Nat} {lv : LV} {st : List Value} {h : AH} : aGo (fu + 1) d (310, 1024, lv, st, h) = lI (ld lv 4) fun x => aGo fu d (310, 1026, lv, .int x :: st, h) := (st_of (kmOf kt310 rfl : KM 310 1024 = some (.iload 4, 2, 0, 0, .null, none))).trans (RH_iload)
set_option maxRecDepth 100000 in
theorem s310_1026 {fu d : Nat} {lv : LV} {st : List Value} {h : AH} : aGo (fu + 1) d (310, 1026, lv, st, h) = aGo fu d (310, 1027, lv, (.int (1)) :: st, h) := (st_of (kmOf kt310 rfl : KM 310 1026 = some (.iconst 1, 1, 0, 0, (.int (1)), none))).trans (RH_iconst)
set_option maxRecDepth 100000 in
theorem s310_1027 {fu d : Nat} {lv : LV} {st : List Value} {h : AH} : aGo (fu + 1) d (310, 1027, lv, st, h) = pI st fun y st => pI st fun x st => aGo fu d (310, 1028, lv, .int (x + y) :: st, h) := (st_of (kmOf kt310 rfl : KM 310 1027 = some (.iadd, 1, 0, 0, .null, none))).trans (RH_iadd)
set_option maxRecDepth 100000 in
theorem s310_1028 {fu d : Nat} {lv : LV} {st : List Value} {h : AH} : aGo (fu + 1) d (310, 1028, lv, st, h) = pI st fun i st => pR st fun r st => hIld h r i fun x => aGo fu d (310, 1029, lv, .int x :: st, h) := (st_of (kmOf kt310 rfl : KM 310 1028 = some (.iaload, 1, 0, 0, .null, none))).trans (RH_iaload)
set_option maxRecDepth 100000 in
theorem s310_1029 {fu d : Nat} {lv : LV} {st : List Value} {h : AH} : aGo (fu + 1) d (310, 1029, lv, st, h) = lR (ld lv 0) fun x => aGo fu d (310, 1030, lv, x :: st, h) := (st_of (kmOf kt310 rfl : KM 310 1029 = some (.aload_n 0, 1, 0, 0, .null, none))).trans (RH_aload_n)
set_option maxRecDepth 100000 in
theorem s310_1030 {fu d : Nat} {lv : LV} {st : List Value} {h : AH} : aGo (fu + 1) d (310, 1030, lv, st, h) = lI (ld lv 4) fun x => aGo fu d (310, 1032, lv, .int x :: st, h) := (st_of (kmOf kt310 rfl : KM 310 1030 = some (.iload 4, 2, 0, 0, .null, none))).trans (RH_iload)
set_option maxRecDepth 100000 in
theorem s310_1032 {fu d : Nat} {lv : LV} {st : List Value} {h : AH} : aGo (fu + 1) d (310, 1032, lv, st, h) = aGo fu d (310, 1033, lv, (.int (2)) :: st, h) := (st_of (kmOf kt310 rfl : KM 310 1032 = some (.iconst 2, 1, 0, 0, (.int (2)), none))).trans (RH_iconst)
set_option maxRecDepth 100000 in
theorem s310_1033 {fu d : Nat} {lv : LV} {st : List Value} {h : AH} : aGo (fu + 1) d (310, 1033, lv, st, h) = pI st fun y st => pI st fun x st => aGo fu d (310, 1034, lv, .int (x + y) :: st, h) := (st_of (kmOf kt310 rfl : KM 310 1033 = some (.iadd, 1, 0, 0, .null, none))).trans (RH_iadd)
set_option maxRecDepth 100000 in
theorem s310_1034 {fu d : Nat} {lv : LV} {st : List Value} {h : AH} : aGo (fu + 1) d (310, 1034, lv, st, h) = pI st fun i st => pR st fun r st => hIld h r i fun x => aGo fu d (310, 1035, lv, .int x :: st, h) := (st_of (kmOf kt310 rfl : KM 310 1034 = some (.iaload, 1, 0, 0, .null, none))).trans (RH_iaload)
set_option maxRecDepth 100000 in
theorem s310_1035 {fu d : Nat} {lv : LV} {st : List Value} {h : AH} : aGo (fu + 1) d (310, 1035, lv, st, h) = lR (ld lv 0) fun x => aGo fu d (310, 1036, lv, x :: st, h) := (st_of (kmOf kt310 rfl : KM 310 1035 = some (.aload_n 0, 1, 0, 0, .null, none))).trans (RH_aload_n)
set_option maxRecDepth 100000 in
theorem s310_1036 {fu d : Nat} {lv : LV} {st : List Value} {h : AH} : aGo (fu + 1) d (310, 1036, lv, st, h) = lI (ld lv 4) fun x => aGo fu d (310, 1038, lv, .int x :: st, h) := (st_of (kmOf kt310 rfl : KM 310 1036 = some (.iload 4, 2, 0, 0, .null, none))).trans (RH_iload)
set_option maxRecDepth 100000 in
theorem s310_1038 {fu d : Nat} {lv : LV} {st : List Value} {h : AH} : aGo (fu + 1) d (310, 1038, lv, st, h) = aGo fu d (310, 1039, lv, (.int (3)) :: st, h) := (st_of (kmOf kt310 rfl : KM 310 1038 = some (.iconst 3, 1, 0, 0, (.int (3)), none))).trans (RH_iconst)
set_option maxRecDepth 100000 in
theorem s310_1039 {fu d : Nat} {lv : LV} {st : List Value} {h : AH} : aGo (fu + 1) d (310, 1039, lv, st, h) = pI st fun y st => pI st fun x st => aGo fu d (310, 1040, lv, .int (x + y) :: st, h) := (st_of (kmOf kt310 rfl : KM 310 1039 = some (.iadd, 1, 0, 0, .null, none))).trans (RH_iadd)
set_option maxRecDepth 100000 in
theorem s310_1040 {fu d : Nat} {lv : LV} {st : List Value} {h : AH} : aGo (fu + 1) d (310, 1040, lv, st, h) = pI st fun i st => pR st fun r st => hIld h r i fun x => aGo fu d (310, 1041, lv, .int x :: st, h) := (st_of (kmOf kt310 rfl : KM 310 1040 = some (.iaload, 1, 0, 0, .null, none))).trans (RH_iaload)
set_option maxRecDepth 100000 in
theorem s310_1041 {fu d : Nat} {lv : LV} {st : List Value} {h : AH} : aGo (fu + 1) d (310, 1041, lv, st, h) = ob (popN 4 st []) fun q => gT (isO h 11 q.1 = true ∧ q.2.length ≤ 12 ∧ (layA q.1).length ≤ MX 138) (ob (aCall d 138 q.1 h) (kont d 310 (1044) lv q.2)) := (st_of (kmOf kt310 rfl : KM 310 1041 = some (.invokevirtual 108, 3, 138, 4, (.retAddr 11), none))).trans (RH_invokevirtual (by decide))
set_option maxRecDepth 100000 in
theorem s310_1044 {fu d : Nat} {lv : LV} {st : List Value} {h : AH} : aGo (fu + 1) d (310, 1044, lv, st, h) = lR (ld lv 2) fun x => aGo fu d (310, 1045, lv, x :: st, h) := (st_of (kmOf kt310 rfl : KM 310 1044 = some (.aload_n 2, 1, 0, 0, .null, none))).trans (RH_aload_n)
set_option maxRecDepth 100000 in
theorem s310_1045 {fu d : Nat} {lv : LV} {st : List Value} {h : AH} : aGo (fu + 1) d (310, 1045, lv, st, h) = lR (ld lv 0) fun x => aGo fu d (310, 1046, lv, x :: st, h) := (st_of (kmOf kt310 rfl : KM 310 1045 = some (.aload_n 0, 1, 0, 0, .null, none))).trans (RH_aload_n)
set_option maxRecDepth 100000 in
theorem s310_1046 {fu d : Nat} {lv : LV} {st : List Value} {h : AH} : aGo (fu + 1) d (310, 1046, lv, st, h) = lI (ld lv 4) fun x => aGo fu d (310, 1048, lv, .int x :: st, h) := (st_of (kmOf kt310 rfl : KM 310 1046 = some (.iload 4, 2, 0, 0, .null, none))).trans (RH_iload)
set_option maxRecDepth 100000 in
theorem s310_1048 {fu d : Nat} {lv : LV} {st : List Value} {h : AH} : aGo (fu + 1) d (310, 1048, lv, st, h) = aGo fu d (310, 1049, lv, (.int (1)) :: st, h) := (st_of (kmOf kt310 rfl : KM 310 1048 = some (.iconst 1, 1, 0, 0, (.int (1)), none))).trans (RH_iconst)
set_option maxRecDepth 100000 in
theorem s310_1049 {fu d : Nat} {lv : LV} {st : List Value} {h : AH} : aGo (fu + 1) d (310, 1049, lv, st, h) = pI st fun y st => pI st fun x st => aGo fu d (310, 1050, lv, .int (x + y) :: st, h) := (st_of (kmOf kt310 rfl : KM 310 1049 = some (.iadd, 1, 0, 0, .null, none))).trans (RH_iadd)
set_option maxRecDepth 100000 in
theorem s310_1050 {fu d : Nat} {lv : LV} {st : List Value} {h : AH} : aGo (fu + 1) d (310, 1050, lv, st, h) = pI st fun i st => pR st fun r st => hIld h r i fun x => aGo fu d (310, 1051, lv, .int x :: st, h) := (st_of (kmOf kt310 rfl : KM 310 1050 = some (.iaload, 1, 0, 0, .null, none))).trans (RH_iaload)
set_option maxRecDepth 100000 in
theorem s310_1051 {fu d : Nat} {lv : LV} {st : List Value} {h : AH} : aGo (fu + 1) d (310, 1051, lv, st, h) = lR (ld lv 0) fun x => aGo fu d (310, 1052, lv, x :: st, h) := (st_of (kmOf kt310 rfl : KM 310 1051 = some (.aload_n 0, 1, 0, 0, .null, none))).trans (RH_aload_n)
set_option maxRecDepth 100000 in
theorem s310_1052 {fu d : Nat} {lv : LV} {st : List Value} {h : AH} : aGo (fu + 1) d (310, 1052, lv, st, h) = lI (ld lv 4) fun x => aGo fu d (310, 1054, lv, .int x :: st, h) := (st_of (kmOf kt310 rfl : KM 310 1052 = some (.iload 4, 2, 0, 0, .null, none))).trans (RH_iload)
set_option maxRecDepth 100000 in
theorem s310_1054 {fu d : Nat} {lv : LV} {st : List Value} {h : AH} : aGo (fu + 1) d (310, 1054, lv, st, h) = aGo fu d (310, 1055, lv, (.int (2)) :: st, h) := (st_of (kmOf kt310 rfl : KM 310 1054 = some (.iconst 2, 1, 0, 0, (.int (2)), none))).trans (RH_iconst)
set_option maxRecDepth 100000 in
theorem s310_1055 {fu d : Nat} {lv : LV} {st : List Value} {h : AH} : aGo (fu + 1) d (310, 1055, lv, st, h) = pI st fun y st => pI st fun x st => aGo fu d (310, 1056, lv, .int (x + y) :: st, h) := (st_of (kmOf kt310 rfl : KM 310 1055 = some (.iadd, 1, 0, 0, .null, none))).trans (RH_iadd)
set_option maxRecDepth 100000 in
theorem s310_1056 {fu d : Nat} {lv : LV} {st : List Value} {h : AH} : aGo (fu + 1) d (310, 1056, lv, st, h) = pI st fun i st => pR st fun r st => hIld h r i fun x => aGo fu d (310, 1057, lv, .int x :: st, h) := (st_of (kmOf kt310 rfl : KM 310 1056 = some (.iaload, 1, 0, 0, .null, none))).trans (RH_iaload)
set_option maxRecDepth 100000 in
theorem s310_1057 {fu d : Nat} {lv : LV} {st : List Value} {h : AH} : aGo (fu + 1) d (310, 1057, lv, st, h) = lR (ld lv 0) fun x => aGo fu d (310, 1058, lv, x :: st, h) := (st_of (kmOf kt310 rfl : KM 310 1057 = some (.aload_n 0, 1, 0, 0, .null, none))).trans (RH_aload_n)
set_option maxRecDepth 100000 in
theorem s310_1058 {fu d : Nat} {lv : LV} {st : List Value} {h : AH} : aGo (fu + 1) d (310, 1058, lv, st, h) = lI (ld lv 4) fun x => aGo fu d (310, 1060, lv, .int x :: st, h) := (st_of (kmOf kt310 rfl : KM 310 1058 = some (.iload 4, 2, 0, 0, .null, none))).trans (RH_iload)
set_option maxRecDepth 100000 in
theorem s310_1060 {fu d : Nat} {lv : LV} {st : List Value} {h : AH} : aGo (fu + 1) d (310, 1060, lv, st, h) = aGo fu d (310, 1061, lv, (.int (3)) :: st, h) := (st_of (kmOf kt310 rfl : KM 310 1060 = some (.iconst 3, 1, 0, 0, (.int (3)), none))).trans (RH_iconst)
set_option maxRecDepth 100000 in
theorem s310_1061 {fu d : Nat} {lv : LV} {st : List Value} {h : AH} : aGo (fu + 1) d (310, 1061, lv, st, h) = pI st fun y st => pI st fun x st => aGo fu d (310, 1062, lv, .int (x + y) :: st, h) := (st_of (kmOf kt310 rfl : KM 310 1061 = some (.iadd, 1, 0, 0, .null, none))).trans (RH_iadd)
set_option maxRecDepth 100000 in
theorem s310_1062 {fu d : Nat} {lv : LV} {st : List Value} {h : AH} : aGo (fu + 1) d (310, 1062, lv, st, h) = pI st fun i st => pR st fun r st => hIld h r i fun x => aGo fu d (310, 1063, lv, .int x :: st, h) := (st_of (kmOf kt310 rfl : KM 310 1062 = some (.iaload, 1, 0, 0, .null, none))).trans (RH_iaload)
set_option maxRecDepth 100000 in
theorem s310_1063 {fu d : Nat} {lv : LV} {st : List Value} {h : AH} : aGo (fu + 1) d (310, 1063, lv, st, h) = ob (popN 4 st []) fun q => gT (isO h 12 q.1 = true ∧ q.2.length ≤ 12 ∧ (layA q.1).length ≤ MX 250) (ob (aCall d 250 q.1 h) (kont d 310 (1066) lv q.2)) := (st_of (kmOf kt310 rfl : KM 310 1063 = some (.invokevirtual 111, 3, 250, 4, (.retAddr 12), none))).trans (RH_invokevirtual (by decide))
set_option maxRecDepth 100000 in
theorem s310_1066 {fu d : Nat} {lv : LV} {st : List Value} {h : AH} : aGo (fu + 1) d (310, 1066, lv, st, h) = pI st fun y st => pI st fun x st => if x = y then aGo fu d (310, 1995, lv, st, h) else aGo fu d (310, 1069, lv, st, h) := (st_of (kmOf kt310 rfl : KM 310 1066 = some (.if_icmp .eq 929, 3, 1995, 0, .null, none))).trans (RH_icmp_eq)
set_option maxRecDepth 100000 in
theorem s310_1069 {fu d : Nat} {lv : LV} {st : List Value} {h : AH} : aGo (fu + 1) d (310, 1069, lv, st, h) = aGo fu d (310, 1070, lv, (.int (0)) :: st, h) := (st_of (kmOf kt310 rfl : KM 310 1069 = some (.iconst 0, 1, 0, 0, (.int (0)), none))).trans (RH_iconst)
set_option maxRecDepth 100000 in
theorem s310_1070 {fu d : Nat} {lv : LV} {st : List Value} {h : AH} : aGo (fu + 1) d (310, 1070, lv, st, h) = match st with | [.int x] => gT ((1 = 1 → x = 0 ∨ x = 1) ∧ (1 = 2 → x.toInt8.toInt32 = x)) (some (some (.int x), h)) | _ => none := (st_of (kmOf kt310 rfl : KM 310 1070 = some (.ireturn, 1, 1, 0, .null, none))).trans (RH_ireturn)
set_option maxRecDepth 100000 in
theorem s310_1071 {fu d : Nat} {lv : LV} {st : List Value} {h : AH} : aGo (fu + 1) d (310, 1071, lv, st, h) = lR (ld lv 1) fun x => aGo fu d (310, 1072, lv, x :: st, h) := (st_of (kmOf kt310 rfl : KM 310 1071 = some (.aload_n 1, 1, 0, 0, .null, none))).trans (RH_aload_n)
set_option maxRecDepth 100000 in
theorem s310_1072 {fu d : Nat} {lv : LV} {st : List Value} {h : AH} : aGo (fu + 1) d (310, 1072, lv, st, h) = lR (ld lv 0) fun x => aGo fu d (310, 1073, lv, x :: st, h) := (st_of (kmOf kt310 rfl : KM 310 1072 = some (.aload_n 0, 1, 0, 0, .null, none))).trans (RH_aload_n)
set_option maxRecDepth 100000 in
theorem s310_1073 {fu d : Nat} {lv : LV} {st : List Value} {h : AH} : aGo (fu + 1) d (310, 1073, lv, st, h) = lI (ld lv 4) fun x => aGo fu d (310, 1075, lv, .int x :: st, h) := (st_of (kmOf kt310 rfl : KM 310 1073 = some (.iload 4, 2, 0, 0, .null, none))).trans (RH_iload)
set_option maxRecDepth 100000 in
theorem s310_1075 {fu d : Nat} {lv : LV} {st : List Value} {h : AH} : aGo (fu + 1) d (310, 1075, lv, st, h) = aGo fu d (310, 1076, lv, (.int (1)) :: st, h) := (st_of (kmOf kt310 rfl : KM 310 1075 = some (.iconst 1, 1, 0, 0, (.int (1)), none))).trans (RH_iconst)
set_option maxRecDepth 100000 in
theorem s310_1076 {fu d : Nat} {lv : LV} {st : List Value} {h : AH} : aGo (fu + 1) d (310, 1076, lv, st, h) = pI st fun y st => pI st fun x st => aGo fu d (310, 1077, lv, .int (x + y) :: st, h) := (st_of (kmOf kt310 rfl : KM 310 1076 = some (.iadd, 1, 0, 0, .null, none))).trans (RH_iadd)
set_option maxRecDepth 100000 in
theorem s310_1077 {fu d : Nat} {lv : LV} {st : List Value} {h : AH} : aGo (fu + 1) d (310, 1077, lv, st, h) = pI st fun i st => pR st fun r st => hIld h r i fun x => aGo fu d (310, 1078, lv, .int x :: st, h) := (st_of (kmOf kt310 rfl : KM 310 1077 = some (.iaload, 1, 0, 0, .null, none))).trans (RH_iaload)
set_option maxRecDepth 100000 in
theorem s310_1078 {fu d : Nat} {lv : LV} {st : List Value} {h : AH} : aGo (fu + 1) d (310, 1078, lv, st, h) = ob (popN 2 st []) fun q => gT (isO h 11 q.1 = true ∧ q.2.length ≤ 12 ∧ (layA q.1).length ≤ MX 139) (ob (aCall d 139 q.1 h) (kont d 310 (1081) lv q.2)) := (st_of (kmOf kt310 rfl : KM 310 1078 = some (.invokevirtual 112, 3, 139, 2, (.retAddr 11), none))).trans (RH_invokevirtual (by decide))
set_option maxRecDepth 100000 in
theorem s310_1081 {fu d : Nat} {lv : LV} {st : List Value} {h : AH} : aGo (fu + 1) d (310, 1081, lv, st, h) = lR (ld lv 2) fun x => aGo fu d (310, 1082, lv, x :: st, h) := (st_of (kmOf kt310 rfl : KM 310 1081 = some (.aload_n 2, 1, 0, 0, .null, none))).trans (RH_aload_n)
set_option maxRecDepth 100000 in
theorem s310_1082 {fu d : Nat} {lv : LV} {st : List Value} {h : AH} : aGo (fu + 1) d (310, 1082, lv, st, h) = lR (ld lv 0) fun x => aGo fu d (310, 1083, lv, x :: st, h) := (st_of (kmOf kt310 rfl : KM 310 1082 = some (.aload_n 0, 1, 0, 0, .null, none))).trans (RH_aload_n)
set_option maxRecDepth 100000 in
theorem s310_1083 {fu d : Nat} {lv : LV} {st : List Value} {h : AH} : aGo (fu + 1) d (310, 1083, lv, st, h) = lI (ld lv 4) fun x => aGo fu d (310, 1085, lv, .int x :: st, h) := (st_of (kmOf kt310 rfl : KM 310 1083 = some (.iload 4, 2, 0, 0, .null, none))).trans (RH_iload)
set_option maxRecDepth 100000 in
theorem s310_1085 {fu d : Nat} {lv : LV} {st : List Value} {h : AH} : aGo (fu + 1) d (310, 1085, lv, st, h) = aGo fu d (310, 1086, lv, (.int (1)) :: st, h) := (st_of (kmOf kt310 rfl : KM 310 1085 = some (.iconst 1, 1, 0, 0, (.int (1)), none))).trans (RH_iconst)
set_option maxRecDepth 100000 in
theorem s310_1086 {fu d : Nat} {lv : LV} {st : List Value} {h : AH} : aGo (fu + 1) d (310, 1086, lv, st, h) = pI st fun y st => pI st fun x st => aGo fu d (310, 1087, lv, .int (x + y) :: st, h) := (st_of (kmOf kt310 rfl : KM 310 1086 = some (.iadd, 1, 0, 0, .null, none))).trans (RH_iadd)
set_option maxRecDepth 100000 in
theorem s310_1087 {fu d : Nat} {lv : LV} {st : List Value} {h : AH} : aGo (fu + 1) d (310, 1087, lv, st, h) = pI st fun i st => pR st fun r st => hIld h r i fun x => aGo fu d (310, 1088, lv, .int x :: st, h) := (st_of (kmOf kt310 rfl : KM 310 1087 = some (.iaload, 1, 0, 0, .null, none))).trans (RH_iaload)
set_option maxRecDepth 100000 in
theorem s310_1088 {fu d : Nat} {lv : LV} {st : List Value} {h : AH} : aGo (fu + 1) d (310, 1088, lv, st, h) = ob (popN 2 st []) fun q => gT (isO h 12 q.1 = true ∧ q.2.length ≤ 12 ∧ (layA q.1).length ≤ MX 251) (ob (aCall d 251 q.1 h) (kont d 310 (1091) lv q.2)) := (st_of (kmOf kt310 rfl : KM 310 1088 = some (.invokevirtual 115, 3, 251, 2, (.retAddr 12), none))).trans (RH_invokevirtual (by decide))
set_option maxRecDepth 100000 in
theorem s310_1091 {fu d : Nat} {lv : LV} {st : List Value} {h : AH} : aGo (fu + 1) d (310, 1091, lv, st, h) = pI st fun y st => pI st fun x st => if x = y then aGo fu d (310, 1995, lv, st, h) else aGo fu d (310, 1094, lv, st, h) := (st_of (kmOf kt310 rfl : KM 310 1091 = some (.if_icmp .eq 904, 3, 1995, 0, .null, none))).trans (RH_icmp_eq)
set_option maxRecDepth 100000 in
theorem s310_1094 {fu d : Nat} {lv : LV} {st : List Value} {h : AH} : aGo (fu + 1) d (310, 1094, lv, st, h) = aGo fu d (310, 1095, lv, (.int (0)) :: st, h) := (st_of (kmOf kt310 rfl : KM 310 1094 = some (.iconst 0, 1, 0, 0, (.int (0)), none))).trans (RH_iconst)
set_option maxRecDepth 100000 in
theorem s310_1095 {fu d : Nat} {lv : LV} {st : List Value} {h : AH} : aGo (fu + 1) d (310, 1095, lv, st, h) = match st with | [.int x] => gT ((1 = 1 → x = 0 ∨ x = 1) ∧ (1 = 2 → x.toInt8.toInt32 = x)) (some (some (.int x), h)) | _ => none := (st_of (kmOf kt310 rfl : KM 310 1095 = some (.ireturn, 1, 1, 0, .null, none))).trans (RH_ireturn)
set_option maxRecDepth 100000 in
theorem s310_1096 {fu d : Nat} {lv : LV} {st : List Value} {h : AH} : aGo (fu + 1) d (310, 1096, lv, st, h) = lR (ld lv 1) fun x => aGo fu d (310, 1097, lv, x :: st, h) := (st_of (kmOf kt310 rfl : KM 310 1096 = some (.aload_n 1, 1, 0, 0, .null, none))).trans (RH_aload_n)
set_option maxRecDepth 100000 in
theorem s310_1097 {fu d : Nat} {lv : LV} {st : List Value} {h : AH} : aGo (fu + 1) d (310, 1097, lv, st, h) = lR (ld lv 0) fun x => aGo fu d (310, 1098, lv, x :: st, h) := (st_of (kmOf kt310 rfl : KM 310 1097 = some (.aload_n 0, 1, 0, 0, .null, none))).trans (RH_aload_n)
set_option maxRecDepth 100000 in
theorem s310_1098 {fu d : Nat} {lv : LV} {st : List Value} {h : AH} : aGo (fu + 1) d (310, 1098, lv, st, h) = lI (ld lv 4) fun x => aGo fu d (310, 1100, lv, .int x :: st, h) := (st_of (kmOf kt310 rfl : KM 310 1098 = some (.iload 4, 2, 0, 0, .null, none))).trans (RH_iload)
set_option maxRecDepth 100000 in
theorem s310_1100 {fu d : Nat} {lv : LV} {st : List Value} {h : AH} : aGo (fu + 1) d (310, 1100, lv, st, h) = aGo fu d (310, 1101, lv, (.int (1)) :: st, h) := (st_of (kmOf kt310 rfl : KM 310 1100 = some (.iconst 1, 1, 0, 0, (.int (1)), none))).trans (RH_iconst)
set_option maxRecDepth 100000 in
theorem s310_1101 {fu d : Nat} {lv : LV} {st : List Value} {h : AH} : aGo (fu + 1) d (310, 1101, lv, st, h) = pI st fun y st => pI st fun x st => aGo fu d (310, 1102, lv, .int (x + y) :: st, h) := (st_of (kmOf kt310 rfl : KM 310 1101 = some (.iadd, 1, 0, 0, .null, none))).trans (RH_iadd)
set_option maxRecDepth 100000 in
theorem s310_1102 {fu d : Nat} {lv : LV} {st : List Value} {h : AH} : aGo (fu + 1) d (310, 1102, lv, st, h) = pI st fun i st => pR st fun r st => hIld h r i fun x => aGo fu d (310, 1103, lv, .int x :: st, h) := (st_of (kmOf kt310 rfl : KM 310 1102 = some (.iaload, 1, 0, 0, .null, none))).trans (RH_iaload)
set_option maxRecDepth 100000 in
theorem s310_1103 {fu d : Nat} {lv : LV} {st : List Value} {h : AH} : aGo (fu + 1) d (310, 1103, lv, st, h) = lR (ld lv 0) fun x => aGo fu d (310, 1104, lv, x :: st, h) := (st_of (kmOf kt310 rfl : KM 310 1103 = some (.aload_n 0, 1, 0, 0, .null, none))).trans (RH_aload_n)
set_option maxRecDepth 100000 in
theorem s310_1104 {fu d : Nat} {lv : LV} {st : List Value} {h : AH} : aGo (fu + 1) d (310, 1104, lv, st, h) = lI (ld lv 4) fun x => aGo fu d (310, 1106, lv, .int x :: st, h) := (st_of (kmOf kt310 rfl : KM 310 1104 = some (.iload 4, 2, 0, 0, .null, none))).trans (RH_iload)
set_option maxRecDepth 100000 in
theorem s310_1106 {fu d : Nat} {lv : LV} {st : List Value} {h : AH} : aGo (fu + 1) d (310, 1106, lv, st, h) = aGo fu d (310, 1107, lv, (.int (2)) :: st, h) := (st_of (kmOf kt310 rfl : KM 310 1106 = some (.iconst 2, 1, 0, 0, (.int (2)), none))).trans (RH_iconst)
set_option maxRecDepth 100000 in
theorem s310_1107 {fu d : Nat} {lv : LV} {st : List Value} {h : AH} : aGo (fu + 1) d (310, 1107, lv, st, h) = pI st fun y st => pI st fun x st => aGo fu d (310, 1108, lv, .int (x + y) :: st, h) := (st_of (kmOf kt310 rfl : KM 310 1107 = some (.iadd, 1, 0, 0, .null, none))).trans (RH_iadd)
set_option maxRecDepth 100000 in
theorem s310_1108 {fu d : Nat} {lv : LV} {st : List Value} {h : AH} : aGo (fu + 1) d (310, 1108, lv, st, h) = pI st fun i st => pR st fun r st => hIld h r i fun x => aGo fu d (310, 1109, lv, .int x :: st, h) := (st_of (kmOf kt310 rfl : KM 310 1108 = some (.iaload, 1, 0, 0, .null, none))).trans (RH_iaload)
set_option maxRecDepth 100000 in
theorem s310_1109 {fu d : Nat} {lv : LV} {st : List Value} {h : AH} : aGo (fu + 1) d (310, 1109, lv, st, h) = ob (popN 3 st []) fun q => gT (isO h 11 q.1 = true ∧ q.2.length ≤ 12 ∧ (layA q.1).length ≤ MX 140) (ob (aCall d 140 q.1 h) (kont d 310 (1112) lv q.2)) := (st_of (kmOf kt310 rfl : KM 310 1109 = some (.invokevirtual 116, 3, 140, 3, (.retAddr 11), none))).trans (RH_invokevirtual (by decide))
set_option maxRecDepth 100000 in
theorem s310_1112 {fu d : Nat} {lv : LV} {st : List Value} {h : AH} : aGo (fu + 1) d (310, 1112, lv, st, h) = lR (ld lv 2) fun x => aGo fu d (310, 1113, lv, x :: st, h) := (st_of (kmOf kt310 rfl : KM 310 1112 = some (.aload_n 2, 1, 0, 0, .null, none))).trans (RH_aload_n)
set_option maxRecDepth 100000 in
theorem s310_1113 {fu d : Nat} {lv : LV} {st : List Value} {h : AH} : aGo (fu + 1) d (310, 1113, lv, st, h) = lR (ld lv 0) fun x => aGo fu d (310, 1114, lv, x :: st, h) := (st_of (kmOf kt310 rfl : KM 310 1113 = some (.aload_n 0, 1, 0, 0, .null, none))).trans (RH_aload_n)
set_option maxRecDepth 100000 in
theorem s310_1114 {fu d : Nat} {lv : LV} {st : List Value} {h : AH} : aGo (fu + 1) d (310, 1114, lv, st, h) = lI (ld lv 4) fun x => aGo fu d (310, 1116, lv, .int x :: st, h) := (st_of (kmOf kt310 rfl : KM 310 1114 = some (.iload 4, 2, 0, 0, .null, none))).trans (RH_iload)
set_option maxRecDepth 100000 in
theorem s310_1116 {fu d : Nat} {lv : LV} {st : List Value} {h : AH} : aGo (fu + 1) d (310, 1116, lv, st, h) = aGo fu d (310, 1117, lv, (.int (1)) :: st, h) := (st_of (kmOf kt310 rfl : KM 310 1116 = some (.iconst 1, 1, 0, 0, (.int (1)), none))).trans (RH_iconst)
set_option maxRecDepth 100000 in
theorem s310_1117 {fu d : Nat} {lv : LV} {st : List Value} {h : AH} : aGo (fu + 1) d (310, 1117, lv, st, h) = pI st fun y st => pI st fun x st => aGo fu d (310, 1118, lv, .int (x + y) :: st, h) := (st_of (kmOf kt310 rfl : KM 310 1117 = some (.iadd, 1, 0, 0, .null, none))).trans (RH_iadd)
set_option maxRecDepth 100000 in
theorem s310_1118 {fu d : Nat} {lv : LV} {st : List Value} {h : AH} : aGo (fu + 1) d (310, 1118, lv, st, h) = pI st fun i st => pR st fun r st => hIld h r i fun x => aGo fu d (310, 1119, lv, .int x :: st, h) := (st_of (kmOf kt310 rfl : KM 310 1118 = some (.iaload, 1, 0, 0, .null, none))).trans (RH_iaload)
set_option maxRecDepth 100000 in
theorem s310_1119 {fu d : Nat} {lv : LV} {st : List Value} {h : AH} : aGo (fu + 1) d (310, 1119, lv, st, h) = lR (ld lv 0) fun x => aGo fu d (310, 1120, lv, x :: st, h) := (st_of (kmOf kt310 rfl : KM 310 1119 = some (.aload_n 0, 1, 0, 0, .null, none))).trans (RH_aload_n)
set_option maxRecDepth 100000 in
theorem s310_1120 {fu d : Nat} {lv : LV} {st : List Value} {h : AH} : aGo (fu + 1) d (310, 1120, lv, st, h) = lI (ld lv 4) fun x => aGo fu d (310, 1122, lv, .int x :: st, h) := (st_of (kmOf kt310 rfl : KM 310 1120 = some (.iload 4, 2, 0, 0, .null, none))).trans (RH_iload)
set_option maxRecDepth 100000 in
theorem s310_1122 {fu d : Nat} {lv : LV} {st : List Value} {h : AH} : aGo (fu + 1) d (310, 1122, lv, st, h) = aGo fu d (310, 1123, lv, (.int (2)) :: st, h) := (st_of (kmOf kt310 rfl : KM 310 1122 = some (.iconst 2, 1, 0, 0, (.int (2)), none))).trans (RH_iconst)
set_option maxRecDepth 100000 in
theorem s310_1123 {fu d : Nat} {lv : LV} {st : List Value} {h : AH} : aGo (fu + 1) d (310, 1123, lv, st, h) = pI st fun y st => pI st fun x st => aGo fu d (310, 1124, lv, .int (x + y) :: st, h) := (st_of (kmOf kt310 rfl : KM 310 1123 = some (.iadd, 1, 0, 0, .null, none))).trans (RH_iadd)
set_option maxRecDepth 100000 in
theorem s310_1124 {fu d : Nat} {lv : LV} {st : List Value} {h : AH} : aGo (fu + 1) d (310, 1124, lv, st, h) = pI st fun i st => pR st fun r st => hIld h r i fun x => aGo fu d (310, 1125, lv, .int x :: st, h) := (st_of (kmOf kt310 rfl : KM 310 1124 = some (.iaload, 1, 0, 0, .null, none))).trans (RH_iaload)
set_option maxRecDepth 100000 in
theorem s310_1125 {fu d : Nat} {lv : LV} {st : List Value} {h : AH} : aGo (fu + 1) d (310, 1125, lv, st, h) = ob (popN 3 st []) fun q => gT (isO h 12 q.1 = true ∧ q.2.length ≤ 12 ∧ (layA q.1).length ≤ MX 252) (ob (aCall d 252 q.1 h) (kont d 310 (1128) lv q.2)) := (st_of (kmOf kt310 rfl : KM 310 1125 = some (.invokevirtual 119, 3, 252, 3, (.retAddr 12), none))).trans (RH_invokevirtual (by decide))
set_option maxRecDepth 100000 in
theorem s310_1128 {fu d : Nat} {lv : LV} {st : List Value} {h : AH} : aGo (fu + 1) d (310, 1128, lv, st, h) = pI st fun y st => pI st fun x st => if x = y then aGo fu d (310, 1995, lv, st, h) else aGo fu d (310, 1131, lv, st, h) := (st_of (kmOf kt310 rfl : KM 310 1128 = some (.if_icmp .eq 867, 3, 1995, 0, .null, none))).trans (RH_icmp_eq)
set_option maxRecDepth 100000 in
theorem s310_1131 {fu d : Nat} {lv : LV} {st : List Value} {h : AH} : aGo (fu + 1) d (310, 1131, lv, st, h) = aGo fu d (310, 1132, lv, (.int (0)) :: st, h) := (st_of (kmOf kt310 rfl : KM 310 1131 = some (.iconst 0, 1, 0, 0, (.int (0)), none))).trans (RH_iconst)
set_option maxRecDepth 100000 in
theorem s310_1132 {fu d : Nat} {lv : LV} {st : List Value} {h : AH} : aGo (fu + 1) d (310, 1132, lv, st, h) = match st with | [.int x] => gT ((1 = 1 → x = 0 ∨ x = 1) ∧ (1 = 2 → x.toInt8.toInt32 = x)) (some (some (.int x), h)) | _ => none := (st_of (kmOf kt310 rfl : KM 310 1132 = some (.ireturn, 1, 1, 0, .null, none))).trans (RH_ireturn)
set_option maxRecDepth 100000 in
theorem s310_1133 {fu d : Nat} {lv : LV} {st : List Value} {h : AH} : aGo (fu + 1) d (310, 1133, lv, st, h) = lR (ld lv 1) fun x => aGo fu d (310, 1134, lv, x :: st, h) := (st_of (kmOf kt310 rfl : KM 310 1133 = some (.aload_n 1, 1, 0, 0, .null, none))).trans (RH_aload_n)
set_option maxRecDepth 100000 in
theorem s310_1134 {fu d : Nat} {lv : LV} {st : List Value} {h : AH} : aGo (fu + 1) d (310, 1134, lv, st, h) = lR (ld lv 0) fun x => aGo fu d (310, 1135, lv, x :: st, h) := (st_of (kmOf kt310 rfl : KM 310 1134 = some (.aload_n 0, 1, 0, 0, .null, none))).trans (RH_aload_n)
set_option maxRecDepth 100000 in
theorem s310_1135 {fu d : Nat} {lv : LV} {st : List Value} {h : AH} : aGo (fu + 1) d (310, 1135, lv, st, h) = lI (ld lv 4) fun x => aGo fu d (310, 1137, lv, .int x :: st, h) := (st_of (kmOf kt310 rfl : KM 310 1135 = some (.iload 4, 2, 0, 0, .null, none))).trans (RH_iload)
set_option maxRecDepth 100000 in
theorem s310_1137 {fu d : Nat} {lv : LV} {st : List Value} {h : AH} : aGo (fu + 1) d (310, 1137, lv, st, h) = aGo fu d (310, 1138, lv, (.int (1)) :: st, h) := (st_of (kmOf kt310 rfl : KM 310 1137 = some (.iconst 1, 1, 0, 0, (.int (1)), none))).trans (RH_iconst)
set_option maxRecDepth 100000 in
theorem s310_1138 {fu d : Nat} {lv : LV} {st : List Value} {h : AH} : aGo (fu + 1) d (310, 1138, lv, st, h) = pI st fun y st => pI st fun x st => aGo fu d (310, 1139, lv, .int (x + y) :: st, h) := (st_of (kmOf kt310 rfl : KM 310 1138 = some (.iadd, 1, 0, 0, .null, none))).trans (RH_iadd)
set_option maxRecDepth 100000 in
theorem s310_1139 {fu d : Nat} {lv : LV} {st : List Value} {h : AH} : aGo (fu + 1) d (310, 1139, lv, st, h) = pI st fun i st => pR st fun r st => hIld h r i fun x => aGo fu d (310, 1140, lv, .int x :: st, h) := (st_of (kmOf kt310 rfl : KM 310 1139 = some (.iaload, 1, 0, 0, .null, none))).trans (RH_iaload)
set_option maxRecDepth 100000 in
theorem s310_1140 {fu d : Nat} {lv : LV} {st : List Value} {h : AH} : aGo (fu + 1) d (310, 1140, lv, st, h) = lR (ld lv 0) fun x => aGo fu d (310, 1141, lv, x :: st, h) := (st_of (kmOf kt310 rfl : KM 310 1140 = some (.aload_n 0, 1, 0, 0, .null, none))).trans (RH_aload_n)
set_option maxRecDepth 100000 in
theorem s310_1141 {fu d : Nat} {lv : LV} {st : List Value} {h : AH} : aGo (fu + 1) d (310, 1141, lv, st, h) = lI (ld lv 4) fun x => aGo fu d (310, 1143, lv, .int x :: st, h) := (st_of (kmOf kt310 rfl : KM 310 1141 = some (.iload 4, 2, 0, 0, .null, none))).trans (RH_iload)
set_option maxRecDepth 100000 in
theorem s310_1143 {fu d : Nat} {lv : LV} {st : List Value} {h : AH} : aGo (fu + 1) d (310, 1143, lv, st, h) = aGo fu d (310, 1144, lv, (.int (2)) :: st, h) := (st_of (kmOf kt310 rfl : KM 310 1143 = some (.iconst 2, 1, 0, 0, (.int (2)), none))).trans (RH_iconst)
set_option maxRecDepth 100000 in
theorem s310_1144 {fu d : Nat} {lv : LV} {st : List Value} {h : AH} : aGo (fu + 1) d (310, 1144, lv, st, h) = pI st fun y st => pI st fun x st => aGo fu d (310, 1145, lv, .int (x + y) :: st, h) := (st_of (kmOf kt310 rfl : KM 310 1144 = some (.iadd, 1, 0, 0, .null, none))).trans (RH_iadd)
set_option maxRecDepth 100000 in
theorem s310_1145 {fu d : Nat} {lv : LV} {st : List Value} {h : AH} : aGo (fu + 1) d (310, 1145, lv, st, h) = pI st fun i st => pR st fun r st => hIld h r i fun x => aGo fu d (310, 1146, lv, .int x :: st, h) := (st_of (kmOf kt310 rfl : KM 310 1145 = some (.iaload, 1, 0, 0, .null, none))).trans (RH_iaload)
set_option maxRecDepth 100000 in
theorem s310_1146 {fu d : Nat} {lv : LV} {st : List Value} {h : AH} : aGo (fu + 1) d (310, 1146, lv, st, h) = ob (popN 3 st []) fun q => gT (isO h 11 q.1 = true ∧ q.2.length ≤ 12 ∧ (layA q.1).length ≤ MX 141) (ob (aCall d 141 q.1 h) (kont d 310 (1149) lv q.2)) := (st_of (kmOf kt310 rfl : KM 310 1146 = some (.invokevirtual 120, 3, 141, 3, (.retAddr 11), none))).trans (RH_invokevirtual (by decide))
set_option maxRecDepth 100000 in
theorem s310_1149 {fu d : Nat} {lv : LV} {st : List Value} {h : AH} : aGo (fu + 1) d (310, 1149, lv, st, h) = lR (ld lv 2) fun x => aGo fu d (310, 1150, lv, x :: st, h) := (st_of (kmOf kt310 rfl : KM 310 1149 = some (.aload_n 2, 1, 0, 0, .null, none))).trans (RH_aload_n)
set_option maxRecDepth 100000 in
theorem s310_1150 {fu d : Nat} {lv : LV} {st : List Value} {h : AH} : aGo (fu + 1) d (310, 1150, lv, st, h) = lR (ld lv 0) fun x => aGo fu d (310, 1151, lv, x :: st, h) := (st_of (kmOf kt310 rfl : KM 310 1150 = some (.aload_n 0, 1, 0, 0, .null, none))).trans (RH_aload_n)
set_option maxRecDepth 100000 in
theorem s310_1151 {fu d : Nat} {lv : LV} {st : List Value} {h : AH} : aGo (fu + 1) d (310, 1151, lv, st, h) = lI (ld lv 4) fun x => aGo fu d (310, 1153, lv, .int x :: st, h) := (st_of (kmOf kt310 rfl : KM 310 1151 = some (.iload 4, 2, 0, 0, .null, none))).trans (RH_iload)
set_option maxRecDepth 100000 in
theorem s310_1153 {fu d : Nat} {lv : LV} {st : List Value} {h : AH} : aGo (fu + 1) d (310, 1153, lv, st, h) = aGo fu d (310, 1154, lv, (.int (1)) :: st, h) := (st_of (kmOf kt310 rfl : KM 310 1153 = some (.iconst 1, 1, 0, 0, (.int (1)), none))).trans (RH_iconst)
set_option maxRecDepth 100000 in
theorem s310_1154 {fu d : Nat} {lv : LV} {st : List Value} {h : AH} : aGo (fu + 1) d (310, 1154, lv, st, h) = pI st fun y st => pI st fun x st => aGo fu d (310, 1155, lv, .int (x + y) :: st, h) := (st_of (kmOf kt310 rfl : KM 310 1154 = some (.iadd, 1, 0, 0, .null, none))).trans (RH_iadd)
set_option maxRecDepth 100000 in
theorem s310_1155 {fu d : Nat} {lv : LV} {st : List Value} {h : AH} : aGo (fu + 1) d (310, 1155, lv, st, h) = pI st fun i st => pR st fun r st => hIld h r i fun x => aGo fu d (310, 1156, lv, .int x :: st, h) := (st_of (kmOf kt310 rfl : KM 310 1155 = some (.iaload, 1, 0, 0, .null, none))).trans (RH_iaload)
set_option maxRecDepth 100000 in
theorem s310_1156 {fu d : Nat} {lv : LV} {st : List Value} {h : AH} : aGo (fu + 1) d (310, 1156, lv, st, h) = lR (ld lv 0) fun x => aGo fu d (310, 1157, lv, x :: st, h) := (st_of (kmOf kt310 rfl : KM 310 1156 = some (.aload_n 0, 1, 0, 0, .null, none))).trans (RH_aload_n)
set_option maxRecDepth 100000 in
theorem s310_1157 {fu d : Nat} {lv : LV} {st : List Value} {h : AH} : aGo (fu + 1) d (310, 1157, lv, st, h) = lI (ld lv 4) fun x => aGo fu d (310, 1159, lv, .int x :: st, h) := (st_of (kmOf kt310 rfl : KM 310 1157 = some (.iload 4, 2, 0, 0, .null, none))).trans (RH_iload)
set_option maxRecDepth 100000 in
theorem s310_1159 {fu d : Nat} {lv : LV} {st : List Value} {h : AH} : aGo (fu + 1) d (310, 1159, lv, st, h) = aGo fu d (310, 1160, lv, (.int (2)) :: st, h) := (st_of (kmOf kt310 rfl : KM 310 1159 = some (.iconst 2, 1, 0, 0, (.int (2)), none))).trans (RH_iconst)
set_option maxRecDepth 100000 in
theorem s310_1160 {fu d : Nat} {lv : LV} {st : List Value} {h : AH} : aGo (fu + 1) d (310, 1160, lv, st, h) = pI st fun y st => pI st fun x st => aGo fu d (310, 1161, lv, .int (x + y) :: st, h) := (st_of (kmOf kt310 rfl : KM 310 1160 = some (.iadd, 1, 0, 0, .null, none))).trans (RH_iadd)
set_option maxRecDepth 100000 in
theorem s310_1161 {fu d : Nat} {lv : LV} {st : List Value} {h : AH} : aGo (fu + 1) d (310, 1161, lv, st, h) = pI st fun i st => pR st fun r st => hIld h r i fun x => aGo fu d (310, 1162, lv, .int x :: st, h) := (st_of (kmOf kt310 rfl : KM 310 1161 = some (.iaload, 1, 0, 0, .null, none))).trans (RH_iaload)
set_option maxRecDepth 100000 in
theorem s310_1162 {fu d : Nat} {lv : LV} {st : List Value} {h : AH} : aGo (fu + 1) d (310, 1162, lv, st, h) = ob (popN 3 st []) fun q => gT (isO h 12 q.1 = true ∧ q.2.length ≤ 12 ∧ (layA q.1).length ≤ MX 253) (ob (aCall d 253 q.1 h) (kont d 310 (1165) lv q.2)) := (st_of (kmOf kt310 rfl : KM 310 1162 = some (.invokevirtual 123, 3, 253, 3, (.retAddr 12), none))).trans (RH_invokevirtual (by decide))
set_option maxRecDepth 100000 in
theorem s310_1165 {fu d : Nat} {lv : LV} {st : List Value} {h : AH} : aGo (fu + 1) d (310, 1165, lv, st, h) = pI st fun y st => pI st fun x st => if x = y then aGo fu d (310, 1995, lv, st, h) else aGo fu d (310, 1168, lv, st, h) := (st_of (kmOf kt310 rfl : KM 310 1165 = some (.if_icmp .eq 830, 3, 1995, 0, .null, none))).trans (RH_icmp_eq)
set_option maxRecDepth 100000 in
theorem s310_1168 {fu d : Nat} {lv : LV} {st : List Value} {h : AH} : aGo (fu + 1) d (310, 1168, lv, st, h) = aGo fu d (310, 1169, lv, (.int (0)) :: st, h) := (st_of (kmOf kt310 rfl : KM 310 1168 = some (.iconst 0, 1, 0, 0, (.int (0)), none))).trans (RH_iconst)
set_option maxRecDepth 100000 in
theorem s310_1169 {fu d : Nat} {lv : LV} {st : List Value} {h : AH} : aGo (fu + 1) d (310, 1169, lv, st, h) = match st with | [.int x] => gT ((1 = 1 → x = 0 ∨ x = 1) ∧ (1 = 2 → x.toInt8.toInt32 = x)) (some (some (.int x), h)) | _ => none := (st_of (kmOf kt310 rfl : KM 310 1169 = some (.ireturn, 1, 1, 0, .null, none))).trans (RH_ireturn)
set_option maxRecDepth 100000 in
theorem s310_1170 {fu d : Nat} {lv : LV} {st : List Value} {h : AH} : aGo (fu + 1) d (310, 1170, lv, st, h) = lR (ld lv 1) fun x => aGo fu d (310, 1171, lv, x :: st, h) := (st_of (kmOf kt310 rfl : KM 310 1170 = some (.aload_n 1, 1, 0, 0, .null, none))).trans (RH_aload_n)
set_option maxRecDepth 100000 in
theorem s310_1171 {fu d : Nat} {lv : LV} {st : List Value} {h : AH} : aGo (fu + 1) d (310, 1171, lv, st, h) = lR (ld lv 0) fun x => aGo fu d (310, 1172, lv, x :: st, h) := (st_of (kmOf kt310 rfl : KM 310 1171 = some (.aload_n 0, 1, 0, 0, .null, none))).trans (RH_aload_n)
set_option maxRecDepth 100000 in
theorem s310_1172 {fu d : Nat} {lv : LV} {st : List Value} {h : AH} : aGo (fu + 1) d (310, 1172, lv, st, h) = lI (ld lv 4) fun x => aGo fu d (310, 1174, lv, .int x :: st, h) := (st_of (kmOf kt310 rfl : KM 310 1172 = some (.iload 4, 2, 0, 0, .null, none))).trans (RH_iload)
set_option maxRecDepth 100000 in
theorem s310_1174 {fu d : Nat} {lv : LV} {st : List Value} {h : AH} : aGo (fu + 1) d (310, 1174, lv, st, h) = aGo fu d (310, 1175, lv, (.int (1)) :: st, h) := (st_of (kmOf kt310 rfl : KM 310 1174 = some (.iconst 1, 1, 0, 0, (.int (1)), none))).trans (RH_iconst)
set_option maxRecDepth 100000 in
theorem s310_1175 {fu d : Nat} {lv : LV} {st : List Value} {h : AH} : aGo (fu + 1) d (310, 1175, lv, st, h) = pI st fun y st => pI st fun x st => aGo fu d (310, 1176, lv, .int (x + y) :: st, h) := (st_of (kmOf kt310 rfl : KM 310 1175 = some (.iadd, 1, 0, 0, .null, none))).trans (RH_iadd)
set_option maxRecDepth 100000 in
theorem s310_1176 {fu d : Nat} {lv : LV} {st : List Value} {h : AH} : aGo (fu + 1) d (310, 1176, lv, st, h) = pI st fun i st => pR st fun r st => hIld h r i fun x => aGo fu d (310, 1177, lv, .int x :: st, h) := (st_of (kmOf kt310 rfl : KM 310 1176 = some (.iaload, 1, 0, 0, .null, none))).trans (RH_iaload)
set_option maxRecDepth 100000 in
theorem s310_1177 {fu d : Nat} {lv : LV} {st : List Value} {h : AH} : aGo (fu + 1) d (310, 1177, lv, st, h) = lR (ld lv 0) fun x => aGo fu d (310, 1178, lv, x :: st, h) := (st_of (kmOf kt310 rfl : KM 310 1177 = some (.aload_n 0, 1, 0, 0, .null, none))).trans (RH_aload_n)
set_option maxRecDepth 100000 in
theorem s310_1178 {fu d : Nat} {lv : LV} {st : List Value} {h : AH} : aGo (fu + 1) d (310, 1178, lv, st, h) = lI (ld lv 4) fun x => aGo fu d (310, 1180, lv, .int x :: st, h) := (st_of (kmOf kt310 rfl : KM 310 1178 = some (.iload 4, 2, 0, 0, .null, none))).trans (RH_iload)
set_option maxRecDepth 100000 in
theorem s310_1180 {fu d : Nat} {lv : LV} {st : List Value} {h : AH} : aGo (fu + 1) d (310, 1180, lv, st, h) = aGo fu d (310, 1181, lv, (.int (2)) :: st, h) := (st_of (kmOf kt310 rfl : KM 310 1180 = some (.iconst 2, 1, 0, 0, (.int (2)), none))).trans (RH_iconst)
set_option maxRecDepth 100000 in
theorem s310_1181 {fu d : Nat} {lv : LV} {st : List Value} {h : AH} : aGo (fu + 1) d (310, 1181, lv, st, h) = pI st fun y st => pI st fun x st => aGo fu d (310, 1182, lv, .int (x + y) :: st, h) := (st_of (kmOf kt310 rfl : KM 310 1181 = some (.iadd, 1, 0, 0, .null, none))).trans (RH_iadd)
set_option maxRecDepth 100000 in
theorem s310_1182 {fu d : Nat} {lv : LV} {st : List Value} {h : AH} : aGo (fu + 1) d (310, 1182, lv, st, h) = pI st fun i st => pR st fun r st => hIld h r i fun x => aGo fu d (310, 1183, lv, .int x :: st, h) := (st_of (kmOf kt310 rfl : KM 310 1182 = some (.iaload, 1, 0, 0, .null, none))).trans (RH_iaload)
set_option maxRecDepth 100000 in
theorem s310_1183 {fu d : Nat} {lv : LV} {st : List Value} {h : AH} : aGo (fu + 1) d (310, 1183, lv, st, h) = lR (ld lv 0) fun x => aGo fu d (310, 1184, lv, x :: st, h) := (st_of (kmOf kt310 rfl : KM 310 1183 = some (.aload_n 0, 1, 0, 0, .null, none))).trans (RH_aload_n)
set_option maxRecDepth 100000 in
theorem s310_1184 {fu d : Nat} {lv : LV} {st : List Value} {h : AH} : aGo (fu + 1) d (310, 1184, lv, st, h) = lI (ld lv 4) fun x => aGo fu d (310, 1186, lv, .int x :: st, h) := (st_of (kmOf kt310 rfl : KM 310 1184 = some (.iload 4, 2, 0, 0, .null, none))).trans (RH_iload)
set_option maxRecDepth 100000 in
theorem s310_1186 {fu d : Nat} {lv : LV} {st : List Value} {h : AH} : aGo (fu + 1) d (310, 1186, lv, st, h) = aGo fu d (310, 1187, lv, (.int (3)) :: st, h) := (st_of (kmOf kt310 rfl : KM 310 1186 = some (.iconst 3, 1, 0, 0, (.int (3)), none))).trans (RH_iconst)
set_option maxRecDepth 100000 in
theorem s310_1187 {fu d : Nat} {lv : LV} {st : List Value} {h : AH} : aGo (fu + 1) d (310, 1187, lv, st, h) = pI st fun y st => pI st fun x st => aGo fu d (310, 1188, lv, .int (x + y) :: st, h) := (st_of (kmOf kt310 rfl : KM 310 1187 = some (.iadd, 1, 0, 0, .null, none))).trans (RH_iadd)
set_option maxRecDepth 100000 in
theorem s310_1188 {fu d : Nat} {lv : LV} {st : List Value} {h : AH} : aGo (fu + 1) d (310, 1188, lv, st, h) = pI st fun i st => pR st fun r st => hIld h r i fun x => aGo fu d (310, 1189, lv, .int x :: st, h) := (st_of (kmOf kt310 rfl : KM 310 1188 = some (.iaload, 1, 0, 0, .null, none))).trans (RH_iaload)
set_option maxRecDepth 100000 in
theorem s310_1189 {fu d : Nat} {lv : LV} {st : List Value} {h : AH} : aGo (fu + 1) d (310, 1189, lv, st, h) = ob (popN 4 st []) fun q => gT (isO h 11 q.1 = true ∧ q.2.length ≤ 12 ∧ (layA q.1).length ≤ MX 142) (ob (aCall d 142 q.1 h) (kont d 310 (1192) lv q.2)) := (st_of (kmOf kt310 rfl : KM 310 1189 = some (.invokevirtual 124, 3, 142, 4, (.retAddr 11), none))).trans (RH_invokevirtual (by decide))
set_option maxRecDepth 100000 in
theorem s310_1192 {fu d : Nat} {lv : LV} {st : List Value} {h : AH} : aGo (fu + 1) d (310, 1192, lv, st, h) = lR (ld lv 2) fun x => aGo fu d (310, 1193, lv, x :: st, h) := (st_of (kmOf kt310 rfl : KM 310 1192 = some (.aload_n 2, 1, 0, 0, .null, none))).trans (RH_aload_n)
set_option maxRecDepth 100000 in
theorem s310_1193 {fu d : Nat} {lv : LV} {st : List Value} {h : AH} : aGo (fu + 1) d (310, 1193, lv, st, h) = lR (ld lv 0) fun x => aGo fu d (310, 1194, lv, x :: st, h) := (st_of (kmOf kt310 rfl : KM 310 1193 = some (.aload_n 0, 1, 0, 0, .null, none))).trans (RH_aload_n)
set_option maxRecDepth 100000 in
theorem s310_1194 {fu d : Nat} {lv : LV} {st : List Value} {h : AH} : aGo (fu + 1) d (310, 1194, lv, st, h) = lI (ld lv 4) fun x => aGo fu d (310, 1196, lv, .int x :: st, h) := (st_of (kmOf kt310 rfl : KM 310 1194 = some (.iload 4, 2, 0, 0, .null, none))).trans (RH_iload)
set_option maxRecDepth 100000 in
theorem s310_1196 {fu d : Nat} {lv : LV} {st : List Value} {h : AH} : aGo (fu + 1) d (310, 1196, lv, st, h) = aGo fu d (310, 1197, lv, (.int (1)) :: st, h) := (st_of (kmOf kt310 rfl : KM 310 1196 = some (.iconst 1, 1, 0, 0, (.int (1)), none))).trans (RH_iconst)
set_option maxRecDepth 100000 in
theorem s310_1197 {fu d : Nat} {lv : LV} {st : List Value} {h : AH} : aGo (fu + 1) d (310, 1197, lv, st, h) = pI st fun y st => pI st fun x st => aGo fu d (310, 1198, lv, .int (x + y) :: st, h) := (st_of (kmOf kt310 rfl : KM 310 1197 = some (.iadd, 1, 0, 0, .null, none))).trans (RH_iadd)
set_option maxRecDepth 100000 in
theorem s310_1198 {fu d : Nat} {lv : LV} {st : List Value} {h : AH} : aGo (fu + 1) d (310, 1198, lv, st, h) = pI st fun i st => pR st fun r st => hIld h r i fun x => aGo fu d (310, 1199, lv, .int x :: st, h) := (st_of (kmOf kt310 rfl : KM 310 1198 = some (.iaload, 1, 0, 0, .null, none))).trans (RH_iaload)
set_option maxRecDepth 100000 in
theorem s310_1199 {fu d : Nat} {lv : LV} {st : List Value} {h : AH} : aGo (fu + 1) d (310, 1199, lv, st, h) = lR (ld lv 0) fun x => aGo fu d (310, 1200, lv, x :: st, h) := (st_of (kmOf kt310 rfl : KM 310 1199 = some (.aload_n 0, 1, 0, 0, .null, none))).trans (RH_aload_n)
set_option maxRecDepth 100000 in
theorem s310_1200 {fu d : Nat} {lv : LV} {st : List Value} {h : AH} : aGo (fu + 1) d (310, 1200, lv, st, h) = lI (ld lv 4) fun x => aGo fu d (310, 1202, lv, .int x :: st, h) := (st_of (kmOf kt310 rfl : KM 310 1200 = some (.iload 4, 2, 0, 0, .null, none))).trans (RH_iload)
set_option maxRecDepth 100000 in
theorem s310_1202 {fu d : Nat} {lv : LV} {st : List Value} {h : AH} : aGo (fu + 1) d (310, 1202, lv, st, h) = aGo fu d (310, 1203, lv, (.int (2)) :: st, h) := (st_of (kmOf kt310 rfl : KM 310 1202 = some (.iconst 2, 1, 0, 0, (.int (2)), none))).trans (RH_iconst)
set_option maxRecDepth 100000 in
theorem s310_1203 {fu d : Nat} {lv : LV} {st : List Value} {h : AH} : aGo (fu + 1) d (310, 1203, lv, st, h) = pI st fun y st => pI st fun x st => aGo fu d (310, 1204, lv, .int (x + y) :: st, h) := (st_of (kmOf kt310 rfl : KM 310 1203 = some (.iadd, 1, 0, 0, .null, none))).trans (RH_iadd)
set_option maxRecDepth 100000 in
theorem s310_1204 {fu d : Nat} {lv : LV} {st : List Value} {h : AH} : aGo (fu + 1) d (310, 1204, lv, st, h) = pI st fun i st => pR st fun r st => hIld h r i fun x => aGo fu d (310, 1205, lv, .int x :: st, h) := (st_of (kmOf kt310 rfl : KM 310 1204 = some (.iaload, 1, 0, 0, .null, none))).trans (RH_iaload)
set_option maxRecDepth 100000 in
theorem s310_1205 {fu d : Nat} {lv : LV} {st : List Value} {h : AH} : aGo (fu + 1) d (310, 1205, lv, st, h) = lR (ld lv 0) fun x => aGo fu d (310, 1206, lv, x :: st, h) := (st_of (kmOf kt310 rfl : KM 310 1205 = some (.aload_n 0, 1, 0, 0, .null, none))).trans (RH_aload_n)
set_option maxRecDepth 100000 in
theorem s310_1206 {fu d : Nat} {lv : LV} {st : List Value} {h : AH} : aGo (fu + 1) d (310, 1206, lv, st, h) = lI (ld lv 4) fun x => aGo fu d (310, 1208, lv, .int x :: st, h) := (st_of (kmOf kt310 rfl : KM 310 1206 = some (.iload 4, 2, 0, 0, .null, none))).trans (RH_iload)
set_option maxRecDepth 100000 in
theorem s310_1208 {fu d : Nat} {lv : LV} {st : List Value} {h : AH} : aGo (fu + 1) d (310, 1208, lv, st, h) = aGo fu d (310, 1209, lv, (.int (3)) :: st, h) := (st_of (kmOf kt310 rfl : KM 310 1208 = some (.iconst 3, 1, 0, 0, (.int (3)), none))).trans (RH_iconst)
set_option maxRecDepth 100000 in
theorem s310_1209 {fu d : Nat} {lv : LV} {st : List Value} {h : AH} : aGo (fu + 1) d (310, 1209, lv, st, h) = pI st fun y st => pI st fun x st => aGo fu d (310, 1210, lv, .int (x + y) :: st, h) := (st_of (kmOf kt310 rfl : KM 310 1209 = some (.iadd, 1, 0, 0, .null, none))).trans (RH_iadd)
set_option maxRecDepth 100000 in
theorem s310_1210 {fu d : Nat} {lv : LV} {st : List Value} {h : AH} : aGo (fu + 1) d (310, 1210, lv, st, h) = pI st fun i st => pR st fun r st => hIld h r i fun x => aGo fu d (310, 1211, lv, .int x :: st, h) := (st_of (kmOf kt310 rfl : KM 310 1210 = some (.iaload, 1, 0, 0, .null, none))).trans (RH_iaload)
set_option maxRecDepth 100000 in
theorem s310_1211 {fu d : Nat} {lv : LV} {st : List Value} {h : AH} : aGo (fu + 1) d (310, 1211, lv, st, h) = ob (popN 4 st []) fun q => gT (isO h 12 q.1 = true ∧ q.2.length ≤ 12 ∧ (layA q.1).length ≤ MX 255) (ob (aCall d 255 q.1 h) (kont d 310 (1214) lv q.2)) := (st_of (kmOf kt310 rfl : KM 310 1211 = some (.invokevirtual 127, 3, 255, 4, (.retAddr 12), none))).trans (RH_invokevirtual (by decide))
set_option maxRecDepth 100000 in
theorem s310_1214 {fu d : Nat} {lv : LV} {st : List Value} {h : AH} : aGo (fu + 1) d (310, 1214, lv, st, h) = pI st fun y st => pI st fun x st => if x = y then aGo fu d (310, 1995, lv, st, h) else aGo fu d (310, 1217, lv, st, h) := (st_of (kmOf kt310 rfl : KM 310 1214 = some (.if_icmp .eq 781, 3, 1995, 0, .null, none))).trans (RH_icmp_eq)
set_option maxRecDepth 100000 in
theorem s310_1217 {fu d : Nat} {lv : LV} {st : List Value} {h : AH} : aGo (fu + 1) d (310, 1217, lv, st, h) = aGo fu d (310, 1218, lv, (.int (0)) :: st, h) := (st_of (kmOf kt310 rfl : KM 310 1217 = some (.iconst 0, 1, 0, 0, (.int (0)), none))).trans (RH_iconst)
set_option maxRecDepth 100000 in
theorem s310_1218 {fu d : Nat} {lv : LV} {st : List Value} {h : AH} : aGo (fu + 1) d (310, 1218, lv, st, h) = match st with | [.int x] => gT ((1 = 1 → x = 0 ∨ x = 1) ∧ (1 = 2 → x.toInt8.toInt32 = x)) (some (some (.int x), h)) | _ => none := (st_of (kmOf kt310 rfl : KM 310 1218 = some (.ireturn, 1, 1, 0, .null, none))).trans (RH_ireturn)
set_option maxRecDepth 100000 in
theorem s310_1219 {fu d : Nat} {lv : LV} {st : List Value} {h : AH} : aGo (fu + 1) d (310, 1219, lv, st, h) = lR (ld lv 1) fun x => aGo fu d (310, 1220, lv, x :: st, h) := (st_of (kmOf kt310 rfl : KM 310 1219 = some (.aload_n 1, 1, 0, 0, .null, none))).trans (RH_aload_n)
set_option maxRecDepth 100000 in
theorem s310_1220 {fu d : Nat} {lv : LV} {st : List Value} {h : AH} : aGo (fu + 1) d (310, 1220, lv, st, h) = lR (ld lv 0) fun x => aGo fu d (310, 1221, lv, x :: st, h) := (st_of (kmOf kt310 rfl : KM 310 1220 = some (.aload_n 0, 1, 0, 0, .null, none))).trans (RH_aload_n)
set_option maxRecDepth 100000 in
theorem s310_1221 {fu d : Nat} {lv : LV} {st : List Value} {h : AH} : aGo (fu + 1) d (310, 1221, lv, st, h) = lI (ld lv 4) fun x => aGo fu d (310, 1223, lv, .int x :: st, h) := (st_of (kmOf kt310 rfl : KM 310 1221 = some (.iload 4, 2, 0, 0, .null, none))).trans (RH_iload)
set_option maxRecDepth 100000 in
theorem s310_1223 {fu d : Nat} {lv : LV} {st : List Value} {h : AH} : aGo (fu + 1) d (310, 1223, lv, st, h) = aGo fu d (310, 1224, lv, (.int (1)) :: st, h) := (st_of (kmOf kt310 rfl : KM 310 1223 = some (.iconst 1, 1, 0, 0, (.int (1)), none))).trans (RH_iconst)
set_option maxRecDepth 100000 in
theorem s310_1224 {fu d : Nat} {lv : LV} {st : List Value} {h : AH} : aGo (fu + 1) d (310, 1224, lv, st, h) = pI st fun y st => pI st fun x st => aGo fu d (310, 1225, lv, .int (x + y) :: st, h) := (st_of (kmOf kt310 rfl : KM 310 1224 = some (.iadd, 1, 0, 0, .null, none))).trans (RH_iadd)
set_option maxRecDepth 100000 in
theorem s310_1225 {fu d : Nat} {lv : LV} {st : List Value} {h : AH} : aGo (fu + 1) d (310, 1225, lv, st, h) = pI st fun i st => pR st fun r st => hIld h r i fun x => aGo fu d (310, 1226, lv, .int x :: st, h) := (st_of (kmOf kt310 rfl : KM 310 1225 = some (.iaload, 1, 0, 0, .null, none))).trans (RH_iaload)
set_option maxRecDepth 100000 in
theorem s310_1226 {fu d : Nat} {lv : LV} {st : List Value} {h : AH} : aGo (fu + 1) d (310, 1226, lv, st, h) = ob (popN 2 st []) fun q => gT (isO h 11 q.1 = true ∧ q.2.length ≤ 12 ∧ (layA q.1).length ≤ MX 143) (ob (aCall d 143 q.1 h) (kont d 310 (1229) lv q.2)) := (st_of (kmOf kt310 rfl : KM 310 1226 = some (.invokevirtual 128, 3, 143, 2, (.retAddr 11), none))).trans (RH_invokevirtual (by decide))
set_option maxRecDepth 100000 in
theorem s310_1229 {fu d : Nat} {lv : LV} {st : List Value} {h : AH} : aGo (fu + 1) d (310, 1229, lv, st, h) = lR (ld lv 2) fun x => aGo fu d (310, 1230, lv, x :: st, h) := (st_of (kmOf kt310 rfl : KM 310 1229 = some (.aload_n 2, 1, 0, 0, .null, none))).trans (RH_aload_n)
set_option maxRecDepth 100000 in
theorem s310_1230 {fu d : Nat} {lv : LV} {st : List Value} {h : AH} : aGo (fu + 1) d (310, 1230, lv, st, h) = lR (ld lv 0) fun x => aGo fu d (310, 1231, lv, x :: st, h) := (st_of (kmOf kt310 rfl : KM 310 1230 = some (.aload_n 0, 1, 0, 0, .null, none))).trans (RH_aload_n)
set_option maxRecDepth 100000 in
theorem s310_1231 {fu d : Nat} {lv : LV} {st : List Value} {h : AH} : aGo (fu + 1) d (310, 1231, lv, st, h) = lI (ld lv 4) fun x => aGo fu d (310, 1233, lv, .int x :: st, h) := (st_of (kmOf kt310 rfl : KM 310 1231 = some (.iload 4, 2, 0, 0, .null, none))).trans (RH_iload)
set_option maxRecDepth 100000 in
theorem s310_1233 {fu d : Nat} {lv : LV} {st : List Value} {h : AH} : aGo (fu + 1) d (310, 1233, lv, st, h) = aGo fu d (310, 1234, lv, (.int (1)) :: st, h) := (st_of (kmOf kt310 rfl : KM 310 1233 = some (.iconst 1, 1, 0, 0, (.int (1)), none))).trans (RH_iconst)
set_option maxRecDepth 100000 in
theorem s310_1234 {fu d : Nat} {lv : LV} {st : List Value} {h : AH} : aGo (fu + 1) d (310, 1234, lv, st, h) = pI st fun y st => pI st fun x st => aGo fu d (310, 1235, lv, .int (x + y) :: st, h) := (st_of (kmOf kt310 rfl : KM 310 1234 = some (.iadd, 1, 0, 0, .null, none))).trans (RH_iadd)
set_option maxRecDepth 100000 in
theorem s310_1235 {fu d : Nat} {lv : LV} {st : List Value} {h : AH} : aGo (fu + 1) d (310, 1235, lv, st, h) = pI st fun i st => pR st fun r st => hIld h r i fun x => aGo fu d (310, 1236, lv, .int x :: st, h) := (st_of (kmOf kt310 rfl : KM 310 1235 = some (.iaload, 1, 0, 0, .null, none))).trans (RH_iaload)
set_option maxRecDepth 100000 in
theorem s310_1236 {fu d : Nat} {lv : LV} {st : List Value} {h : AH} : aGo (fu + 1) d (310, 1236, lv, st, h) = ob (popN 2 st []) fun q => gT (isO h 12 q.1 = true ∧ q.2.length ≤ 12 ∧ (layA q.1).length ≤ MX 256) (ob (aCall d 256 q.1 h) (kont d 310 (1239) lv q.2)) := (st_of (kmOf kt310 rfl : KM 310 1236 = some (.invokevirtual 131, 3, 256, 2, (.retAddr 12), none))).trans (RH_invokevirtual (by decide))
set_option maxRecDepth 100000 in
theorem s310_1239 {fu d : Nat} {lv : LV} {st : List Value} {h : AH} : aGo (fu + 1) d (310, 1239, lv, st, h) = pI st fun y st => pI st fun x st => if x = y then aGo fu d (310, 1995, lv, st, h) else aGo fu d (310, 1242, lv, st, h) := (st_of (kmOf kt310 rfl : KM 310 1239 = some (.if_icmp .eq 756, 3, 1995, 0, .null, none))).trans (RH_icmp_eq)
set_option maxRecDepth 100000 in
theorem s310_1242 {fu d : Nat} {lv : LV} {st : List Value} {h : AH} : aGo (fu + 1) d (310, 1242, lv, st, h) = aGo fu d (310, 1243, lv, (.int (0)) :: st, h) := (st_of (kmOf kt310 rfl : KM 310 1242 = some (.iconst 0, 1, 0, 0, (.int (0)), none))).trans (RH_iconst)
set_option maxRecDepth 100000 in
theorem s310_1243 {fu d : Nat} {lv : LV} {st : List Value} {h : AH} : aGo (fu + 1) d (310, 1243, lv, st, h) = match st with | [.int x] => gT ((1 = 1 → x = 0 ∨ x = 1) ∧ (1 = 2 → x.toInt8.toInt32 = x)) (some (some (.int x), h)) | _ => none := (st_of (kmOf kt310 rfl : KM 310 1243 = some (.ireturn, 1, 1, 0, .null, none))).trans (RH_ireturn)
set_option maxRecDepth 100000 in
theorem s310_1244 {fu d : Nat} {lv : LV} {st : List Value} {h : AH} : aGo (fu + 1) d (310, 1244, lv, st, h) = lR (ld lv 1) fun x => aGo fu d (310, 1245, lv, x :: st, h) := (st_of (kmOf kt310 rfl : KM 310 1244 = some (.aload_n 1, 1, 0, 0, .null, none))).trans (RH_aload_n)
set_option maxRecDepth 100000 in
theorem s310_1245 {fu d : Nat} {lv : LV} {st : List Value} {h : AH} : aGo (fu + 1) d (310, 1245, lv, st, h) = ob (popN 1 st []) fun q => gT (isO h 11 q.1 = true ∧ q.2.length ≤ 12 ∧ (layA q.1).length ≤ MX 144) (ob (aCall d 144 q.1 h) (kont d 310 (1248) lv q.2)) := (st_of (kmOf kt310 rfl : KM 310 1245 = some (.invokevirtual 132, 3, 144, 1, (.retAddr 11), none))).trans (RH_invokevirtual (by decide))
set_option maxRecDepth 100000 in
theorem s310_1248 {fu d : Nat} {lv : LV} {st : List Value} {h : AH} : aGo (fu + 1) d (310, 1248, lv, st, h) = lR (ld lv 2) fun x => aGo fu d (310, 1249, lv, x :: st, h) := (st_of (kmOf kt310 rfl : KM 310 1248 = some (.aload_n 2, 1, 0, 0, .null, none))).trans (RH_aload_n)
set_option maxRecDepth 100000 in
theorem s310_1249 {fu d : Nat} {lv : LV} {st : List Value} {h : AH} : aGo (fu + 1) d (310, 1249, lv, st, h) = ob (popN 1 st []) fun q => gT (isO h 12 q.1 = true ∧ q.2.length ≤ 12 ∧ (layA q.1).length ≤ MX 258) (ob (aCall d 258 q.1 h) (kont d 310 (1252) lv q.2)) := (st_of (kmOf kt310 rfl : KM 310 1249 = some (.invokevirtual 135, 3, 258, 1, (.retAddr 12), none))).trans (RH_invokevirtual (by decide))
set_option maxRecDepth 100000 in
theorem s310_1252 {fu d : Nat} {lv : LV} {st : List Value} {h : AH} : aGo (fu + 1) d (310, 1252, lv, st, h) = pI st fun y st => pI st fun x st => if x = y then aGo fu d (310, 1995, lv, st, h) else aGo fu d (310, 1255, lv, st, h) := (st_of (kmOf kt310 rfl : KM 310 1252 = some (.if_icmp .eq 743, 3, 1995, 0, .null, none))).trans (RH_icmp_eq)
set_option maxRecDepth 100000 in
theorem s310_1255 {fu d : Nat} {lv : LV} {st : List Value} {h : AH} : aGo (fu + 1) d (310, 1255, lv, st, h) = aGo fu d (310, 1256, lv, (.int (0)) :: st, h) := (st_of (kmOf kt310 rfl : KM 310 1255 = some (.iconst 0, 1, 0, 0, (.int (0)), none))).trans (RH_iconst)
set_option maxRecDepth 100000 in
theorem s310_1256 {fu d : Nat} {lv : LV} {st : List Value} {h : AH} : aGo (fu + 1) d (310, 1256, lv, st, h) = match st with | [.int x] => gT ((1 = 1 → x = 0 ∨ x = 1) ∧ (1 = 2 → x.toInt8.toInt32 = x)) (some (some (.int x), h)) | _ => none := (st_of (kmOf kt310 rfl : KM 310 1256 = some (.ireturn, 1, 1, 0, .null, none))).trans (RH_ireturn)
set_option maxRecDepth 100000 in
theorem s310_1257 {fu d : Nat} {lv : LV} {st : List Value} {h : AH} : aGo (fu + 1) d (310, 1257, lv, st, h) = lR (ld lv 1) fun x => aGo fu d (310, 1258, lv, x :: st, h) := (st_of (kmOf kt310 rfl : KM 310 1257 = some (.aload_n 1, 1, 0, 0, .null, none))).trans (RH_aload_n)
set_option maxRecDepth 100000 in
theorem s310_1258 {fu d : Nat} {lv : LV} {st : List Value} {h : AH} : aGo (fu + 1) d (310, 1258, lv, st, h) = lR (ld lv 0) fun x => aGo fu d (310, 1259, lv, x :: st, h) := (st_of (kmOf kt310 rfl : KM 310 1258 = some (.aload_n 0, 1, 0, 0, .null, none))).trans (RH_aload_n)
set_option maxRecDepth 100000 in
theorem s310_1259 {fu d : Nat} {lv : LV} {st : List Value} {h : AH} : aGo (fu + 1) d (310, 1259, lv, st, h) = lI (ld lv 4) fun x => aGo fu d (310, 1261, lv, .int x :: st, h) := (st_of (kmOf kt310 rfl : KM 310 1259 = some (.iload 4, 2, 0, 0, .null, none))).trans (RH_iload)
set_option maxRecDepth 100000 in
theorem s310_1261 {fu d : Nat} {lv : LV} {st : List Value} {h : AH} : aGo (fu + 1) d (310, 1261, lv, st, h) = aGo fu d (310, 1262, lv, (.int (1)) :: st, h) := (st_of (kmOf kt310 rfl : KM 310 1261 = some (.iconst 1, 1, 0, 0, (.int (1)), none))).trans (RH_iconst)
set_option maxRecDepth 100000 in
theorem s310_1262 {fu d : Nat} {lv : LV} {st : List Value} {h : AH} : aGo (fu + 1) d (310, 1262, lv, st, h) = pI st fun y st => pI st fun x st => aGo fu d (310, 1263, lv, .int (x + y) :: st, h) := (st_of (kmOf kt310 rfl : KM 310 1262 = some (.iadd, 1, 0, 0, .null, none))).trans (RH_iadd)
set_option maxRecDepth 100000 in
theorem s310_1263 {fu d : Nat} {lv : LV} {st : List Value} {h : AH} : aGo (fu + 1) d (310, 1263, lv, st, h) = pI st fun i st => pR st fun r st => hIld h r i fun x => aGo fu d (310, 1264, lv, .int x :: st, h) := (st_of (kmOf kt310 rfl : KM 310 1263 = some (.iaload, 1, 0, 0, .null, none))).trans (RH_iaload)
set_option maxRecDepth 100000 in
theorem s310_1264 {fu d : Nat} {lv : LV} {st : List Value} {h : AH} : aGo (fu + 1) d (310, 1264, lv, st, h) = ob (popN 2 st []) fun q => gT (isO h 11 q.1 = true ∧ q.2.length ≤ 12 ∧ (layA q.1).length ≤ MX 145) (ob (aCall d 145 q.1 h) (kont d 310 (1267) lv q.2)) := (st_of (kmOf kt310 rfl : KM 310 1264 = some (.invokevirtual 136, 3, 145, 2, (.retAddr 11), none))).trans (RH_invokevirtual (by decide))
set_option maxRecDepth 100000 in
theorem s310_1267 {fu d : Nat} {lv : LV} {st : List Value} {h : AH} : aGo (fu + 1) d (310, 1267, lv, st, h) = lR (ld lv 2) fun x => aGo fu d (310, 1268, lv, x :: st, h) := (st_of (kmOf kt310 rfl : KM 310 1267 = some (.aload_n 2, 1, 0, 0, .null, none))).trans (RH_aload_n)
set_option maxRecDepth 100000 in
theorem s310_1268 {fu d : Nat} {lv : LV} {st : List Value} {h : AH} : aGo (fu + 1) d (310, 1268, lv, st, h) = lR (ld lv 0) fun x => aGo fu d (310, 1269, lv, x :: st, h) := (st_of (kmOf kt310 rfl : KM 310 1268 = some (.aload_n 0, 1, 0, 0, .null, none))).trans (RH_aload_n)
set_option maxRecDepth 100000 in
theorem s310_1269 {fu d : Nat} {lv : LV} {st : List Value} {h : AH} : aGo (fu + 1) d (310, 1269, lv, st, h) = lI (ld lv 4) fun x => aGo fu d (310, 1271, lv, .int x :: st, h) := (st_of (kmOf kt310 rfl : KM 310 1269 = some (.iload 4, 2, 0, 0, .null, none))).trans (RH_iload)
set_option maxRecDepth 100000 in
theorem s310_1271 {fu d : Nat} {lv : LV} {st : List Value} {h : AH} : aGo (fu + 1) d (310, 1271, lv, st, h) = aGo fu d (310, 1272, lv, (.int (1)) :: st, h) := (st_of (kmOf kt310 rfl : KM 310 1271 = some (.iconst 1, 1, 0, 0, (.int (1)), none))).trans (RH_iconst)
set_option maxRecDepth 100000 in
theorem s310_1272 {fu d : Nat} {lv : LV} {st : List Value} {h : AH} : aGo (fu + 1) d (310, 1272, lv, st, h) = pI st fun y st => pI st fun x st => aGo fu d (310, 1273, lv, .int (x + y) :: st, h) := (st_of (kmOf kt310 rfl : KM 310 1272 = some (.iadd, 1, 0, 0, .null, none))).trans (RH_iadd)
set_option maxRecDepth 100000 in
theorem s310_1273 {fu d : Nat} {lv : LV} {st : List Value} {h : AH} : aGo (fu + 1) d (310, 1273, lv, st, h) = pI st fun i st => pR st fun r st => hIld h r i fun x => aGo fu d (310, 1274, lv, .int x :: st, h) := (st_of (kmOf kt310 rfl : KM 310 1273 = some (.iaload, 1, 0, 0, .null, none))).trans (RH_iaload)
set_option maxRecDepth 100000 in
theorem s310_1274 {fu d : Nat} {lv : LV} {st : List Value} {h : AH} : aGo (fu + 1) d (310, 1274, lv, st, h) = ob (popN 2 st []) fun q => gT (isO h 12 q.1 = true ∧ q.2.length ≤ 12 ∧ (layA q.1).length ≤ MX 259) (ob (aCall d 259 q.1 h) (kont d 310 (1277) lv q.2)) := (st_of (kmOf kt310 rfl : KM 310 1274 = some (.invokevirtual 139, 3, 259, 2, (.retAddr 12), none))).trans (RH_invokevirtual (by decide))
set_option maxRecDepth 100000 in
theorem s310_1277 {fu d : Nat} {lv : LV} {st : List Value} {h : AH} : aGo (fu + 1) d (310, 1277, lv, st, h) = pI st fun y st => pI st fun x st => if x = y then aGo fu d (310, 1995, lv, st, h) else aGo fu d (310, 1280, lv, st, h) := (st_of (kmOf kt310 rfl : KM 310 1277 = some (.if_icmp .eq 718, 3, 1995, 0, .null, none))).trans (RH_icmp_eq)
set_option maxRecDepth 100000 in
theorem s310_1280 {fu d : Nat} {lv : LV} {st : List Value} {h : AH} : aGo (fu + 1) d (310, 1280, lv, st, h) = aGo fu d (310, 1281, lv, (.int (0)) :: st, h) := (st_of (kmOf kt310 rfl : KM 310 1280 = some (.iconst 0, 1, 0, 0, (.int (0)), none))).trans (RH_iconst)
set_option maxRecDepth 100000 in
theorem s310_1281 {fu d : Nat} {lv : LV} {st : List Value} {h : AH} : aGo (fu + 1) d (310, 1281, lv, st, h) = match st with | [.int x] => gT ((1 = 1 → x = 0 ∨ x = 1) ∧ (1 = 2 → x.toInt8.toInt32 = x)) (some (some (.int x), h)) | _ => none := (st_of (kmOf kt310 rfl : KM 310 1281 = some (.ireturn, 1, 1, 0, .null, none))).trans (RH_ireturn)
set_option maxRecDepth 100000 in
theorem s310_1282 {fu d : Nat} {lv : LV} {st : List Value} {h : AH} : aGo (fu + 1) d (310, 1282, lv, st, h) = lR (ld lv 1) fun x => aGo fu d (310, 1283, lv, x :: st, h) := (st_of (kmOf kt310 rfl : KM 310 1282 = some (.aload_n 1, 1, 0, 0, .null, none))).trans (RH_aload_n)
set_option maxRecDepth 100000 in
theorem s310_1283 {fu d : Nat} {lv : LV} {st : List Value} {h : AH} : aGo (fu + 1) d (310, 1283, lv, st, h) = lR (ld lv 0) fun x => aGo fu d (310, 1284, lv, x :: st, h) := (st_of (kmOf kt310 rfl : KM 310 1283 = some (.aload_n 0, 1, 0, 0, .null, none))).trans (RH_aload_n)
set_option maxRecDepth 100000 in
theorem s310_1284 {fu d : Nat} {lv : LV} {st : List Value} {h : AH} : aGo (fu + 1) d (310, 1284, lv, st, h) = lI (ld lv 4) fun x => aGo fu d (310, 1286, lv, .int x :: st, h) := (st_of (kmOf kt310 rfl : KM 310 1284 = some (.iload 4, 2, 0, 0, .null, none))).trans (RH_iload)
set_option maxRecDepth 100000 in
theorem s310_1286 {fu d : Nat} {lv : LV} {st : List Value} {h : AH} : aGo (fu + 1) d (310, 1286, lv, st, h) = aGo fu d (310, 1287, lv, (.int (1)) :: st, h) := (st_of (kmOf kt310 rfl : KM 310 1286 = some (.iconst 1, 1, 0, 0, (.int (1)), none))).trans (RH_iconst)
set_option maxRecDepth 100000 in
theorem s310_1287 {fu d : Nat} {lv : LV} {st : List Value} {h : AH} : aGo (fu + 1) d (310, 1287, lv, st, h) = pI st fun y st => pI st fun x st => aGo fu d (310, 1288, lv, .int (x + y) :: st, h) := (st_of (kmOf kt310 rfl : KM 310 1287 = some (.iadd, 1, 0, 0, .null, none))).trans (RH_iadd)
set_option maxRecDepth 100000 in
theorem s310_1288 {fu d : Nat} {lv : LV} {st : List Value} {h : AH} : aGo (fu + 1) d (310, 1288, lv, st, h) = pI st fun i st => pR st fun r st => hIld h r i fun x => aGo fu d (310, 1289, lv, .int x :: st, h) := (st_of (kmOf kt310 rfl : KM 310 1288 = some (.iaload, 1, 0, 0, .null, none))).trans (RH_iaload)
set_option maxRecDepth 100000 in
theorem s310_1289 {fu d : Nat} {lv : LV} {st : List Value} {h : AH} : aGo (fu + 1) d (310, 1289, lv, st, h) = lR (ld lv 0) fun x => aGo fu d (310, 1290, lv, x :: st, h) := (st_of (kmOf kt310 rfl : KM 310 1289 = some (.aload_n 0, 1, 0, 0, .null, none))).trans (RH_aload_n)
set_option maxRecDepth 100000 in
theorem s310_1290 {fu d : Nat} {lv : LV} {st : List Value} {h : AH} : aGo (fu + 1) d (310, 1290, lv, st, h) = lI (ld lv 4) fun x => aGo fu d (310, 1292, lv, .int x :: st, h) := (st_of (kmOf kt310 rfl : KM 310 1290 = some (.iload 4, 2, 0, 0, .null, none))).trans (RH_iload)
set_option maxRecDepth 100000 in
theorem s310_1292 {fu d : Nat} {lv : LV} {st : List Value} {h : AH} : aGo (fu + 1) d (310, 1292, lv, st, h) = aGo fu d (310, 1293, lv, (.int (2)) :: st, h) := (st_of (kmOf kt310 rfl : KM 310 1292 = some (.iconst 2, 1, 0, 0, (.int (2)), none))).trans (RH_iconst)
set_option maxRecDepth 100000 in
theorem s310_1293 {fu d : Nat} {lv : LV} {st : List Value} {h : AH} : aGo (fu + 1) d (310, 1293, lv, st, h) = pI st fun y st => pI st fun x st => aGo fu d (310, 1294, lv, .int (x + y) :: st, h) := (st_of (kmOf kt310 rfl : KM 310 1293 = some (.iadd, 1, 0, 0, .null, none))).trans (RH_iadd)
set_option maxRecDepth 100000 in
theorem s310_1294 {fu d : Nat} {lv : LV} {st : List Value} {h : AH} : aGo (fu + 1) d (310, 1294, lv, st, h) = pI st fun i st => pR st fun r st => hIld h r i fun x => aGo fu d (310, 1295, lv, .int x :: st, h) := (st_of (kmOf kt310 rfl : KM 310 1294 = some (.iaload, 1, 0, 0, .null, none))).trans (RH_iaload)
set_option maxRecDepth 100000 in
theorem s310_1295 {fu d : Nat} {lv : LV} {st : List Value} {h : AH} : aGo (fu + 1) d (310, 1295, lv, st, h) = ob (popN 3 st []) fun q => gT (isO h 11 q.1 = true ∧ q.2.length ≤ 12 ∧ (layA q.1).length ≤ MX 146) (ob (aCall d 146 q.1 h) (kont d 310 (1298) lv q.2)) := (st_of (kmOf kt310 rfl : KM 310 1295 = some (.invokevirtual 140, 3, 146, 3, (.retAddr 11), none))).trans (RH_invokevirtual (by decide))
set_option maxRecDepth 100000 in
theorem s310_1298 {fu d : Nat} {lv : LV} {st : List Value} {h : AH} : aGo (fu + 1) d (310, 1298, lv, st, h) = lR (ld lv 2) fun x => aGo fu d (310, 1299, lv, x :: st, h) := (st_of (kmOf kt310 rfl : KM 310 1298 = some (.aload_n 2, 1, 0, 0, .null, none))).trans (RH_aload_n)
set_option maxRecDepth 100000 in
theorem s310_1299 {fu d : Nat} {lv : LV} {st : List Value} {h : AH} : aGo (fu + 1) d (310, 1299, lv, st, h) = lR (ld lv 0) fun x => aGo fu d (310, 1300, lv, x :: st, h) := (st_of (kmOf kt310 rfl : KM 310 1299 = some (.aload_n 0, 1, 0, 0, .null, none))).trans (RH_aload_n)
set_option maxRecDepth 100000 in
theorem s310_1300 {fu d : Nat} {lv : LV} {st : List Value} {h : AH} : aGo (fu + 1) d (310, 1300, lv, st, h) = lI (ld lv 4) fun x => aGo fu d (310, 1302, lv, .int x :: st, h) := (st_of (kmOf kt310 rfl : KM 310 1300 = some (.iload 4, 2, 0, 0, .null, none))).trans (RH_iload)
set_option maxRecDepth 100000 in
theorem s310_1302 {fu d : Nat} {lv : LV} {st : List Value} {h : AH} : aGo (fu + 1) d (310, 1302, lv, st, h) = aGo fu d (310, 1303, lv, (.int (1)) :: st, h) := (st_of (kmOf kt310 rfl : KM 310 1302 = some (.iconst 1, 1, 0, 0, (.int (1)), none))).trans (RH_iconst)
set_option maxRecDepth 100000 in
theorem s310_1303 {fu d : Nat} {lv : LV} {st : List Value} {h : AH} : aGo (fu + 1) d (310, 1303, lv, st, h) = pI st fun y st => pI st fun x st => aGo fu d (310, 1304, lv, .int (x + y) :: st, h) := (st_of (kmOf kt310 rfl : KM 310 1303 = some (.iadd, 1, 0, 0, .null, none))).trans (RH_iadd)
set_option maxRecDepth 100000 in
theorem s310_1304 {fu d : Nat} {lv : LV} {st : List Value} {h : AH} : aGo (fu + 1) d (310, 1304, lv, st, h) = pI st fun i st => pR st fun r st => hIld h r i fun x => aGo fu d (310, 1305, lv, .int x :: st, h) := (st_of (kmOf kt310 rfl : KM 310 1304 = some (.iaload, 1, 0, 0, .null, none))).trans (RH_iaload)
set_option maxRecDepth 100000 in
theorem s310_1305 {fu d : Nat} {lv : LV} {st : List Value} {h : AH} : aGo (fu + 1) d (310, 1305, lv, st, h) = lR (ld lv 0) fun x => aGo fu d (310, 1306, lv, x :: st, h) := (st_of (kmOf kt310 rfl : KM 310 1305 = some (.aload_n 0, 1, 0, 0, .null, none))).trans (RH_aload_n)
set_option maxRecDepth 100000 in
theorem s310_1306 {fu d : Nat} {lv : LV} {st : List Value} {h : AH} : aGo (fu + 1) d (310, 1306, lv, st, h) = lI (ld lv 4) fun x => aGo fu d (310, 1308, lv, .int x :: st, h) := (st_of (kmOf kt310 rfl : KM 310 1306 = some (.iload 4, 2, 0, 0, .null, none))).trans (RH_iload)
set_option maxRecDepth 100000 in
theorem s310_1308 {fu d : Nat} {lv : LV} {st : List Value} {h : AH} : aGo (fu + 1) d (310, 1308, lv, st, h) = aGo fu d (310, 1309, lv, (.int (2)) :: st, h) := (st_of (kmOf kt310 rfl : KM 310 1308 = some (.iconst 2, 1, 0, 0, (.int (2)), none))).trans (RH_iconst)
set_option maxRecDepth 100000 in
theorem s310_1309 {fu d : Nat} {lv : LV} {st : List Value} {h : AH} : aGo (fu + 1) d (310, 1309, lv, st, h) = pI st fun y st => pI st fun x st => aGo fu d (310, 1310, lv, .int (x + y) :: st, h) := (st_of (kmOf kt310 rfl : KM 310 1309 = some (.iadd, 1, 0, 0, .null, none))).trans (RH_iadd)
set_option maxRecDepth 100000 in
theorem s310_1310 {fu d : Nat} {lv : LV} {st : List Value} {h : AH} : aGo (fu + 1) d (310, 1310, lv, st, h) = pI st fun i st => pR st fun r st => hIld h r i fun x => aGo fu d (310, 1311, lv, .int x :: st, h) := (st_of (kmOf kt310 rfl : KM 310 1310 = some (.iaload, 1, 0, 0, .null, none))).trans (RH_iaload)
set_option maxRecDepth 100000 in
theorem s310_1311 {fu d : Nat} {lv : LV} {st : List Value} {h : AH} : aGo (fu + 1) d (310, 1311, lv, st, h) = ob (popN 3 st []) fun q => gT (isO h 12 q.1 = true ∧ q.2.length ≤ 12 ∧ (layA q.1).length ≤ MX 260) (ob (aCall d 260 q.1 h) (kont d 310 (1314) lv q.2)) := (st_of (kmOf kt310 rfl : KM 310 1311 = some (.invokevirtual 143, 3, 260, 3, (.retAddr 12), none))).trans (RH_invokevirtual (by decide))
set_option maxRecDepth 100000 in
theorem s310_1314 {fu d : Nat} {lv : LV} {st : List Value} {h : AH} : aGo (fu + 1) d (310, 1314, lv, st, h) = pI st fun y st => pI st fun x st => if x = y then aGo fu d (310, 1995, lv, st, h) else aGo fu d (310, 1317, lv, st, h) := (st_of (kmOf kt310 rfl : KM 310 1314 = some (.if_icmp .eq 681, 3, 1995, 0, .null, none))).trans (RH_icmp_eq)
set_option maxRecDepth 100000 in
theorem s310_1317 {fu d : Nat} {lv : LV} {st : List Value} {h : AH} : aGo (fu + 1) d (310, 1317, lv, st, h) = aGo fu d (310, 1318, lv, (.int (0)) :: st, h) := (st_of (kmOf kt310 rfl : KM 310 1317 = some (.iconst 0, 1, 0, 0, (.int (0)), none))).trans (RH_iconst)
set_option maxRecDepth 100000 in
theorem s310_1318 {fu d : Nat} {lv : LV} {st : List Value} {h : AH} : aGo (fu + 1) d (310, 1318, lv, st, h) = match st with | [.int x] => gT ((1 = 1 → x = 0 ∨ x = 1) ∧ (1 = 2 → x.toInt8.toInt32 = x)) (some (some (.int x), h)) | _ => none := (st_of (kmOf kt310 rfl : KM 310 1318 = some (.ireturn, 1, 1, 0, .null, none))).trans (RH_ireturn)
set_option maxRecDepth 100000 in
theorem s310_1319 {fu d : Nat} {lv : LV} {st : List Value} {h : AH} : aGo (fu + 1) d (310, 1319, lv, st, h) = lR (ld lv 1) fun x => aGo fu d (310, 1320, lv, x :: st, h) := (st_of (kmOf kt310 rfl : KM 310 1319 = some (.aload_n 1, 1, 0, 0, .null, none))).trans (RH_aload_n)
set_option maxRecDepth 100000 in
theorem s310_1320 {fu d : Nat} {lv : LV} {st : List Value} {h : AH} : aGo (fu + 1) d (310, 1320, lv, st, h) = lR (ld lv 0) fun x => aGo fu d (310, 1321, lv, x :: st, h) := (st_of (kmOf kt310 rfl : KM 310 1320 = some (.aload_n 0, 1, 0, 0, .null, none))).trans (RH_aload_n)
set_option maxRecDepth 100000 in
theorem s310_1321 {fu d : Nat} {lv : LV} {st : List Value} {h : AH} : aGo (fu + 1) d (310, 1321, lv, st, h) = lI (ld lv 4) fun x => aGo fu d (310, 1323, lv, .int x :: st, h) := (st_of (kmOf kt310 rfl : KM 310 1321 = some (.iload 4, 2, 0, 0, .null, none))).trans (RH_iload)
set_option maxRecDepth 100000 in
theorem s310_1323 {fu d : Nat} {lv : LV} {st : List Value} {h : AH} : aGo (fu + 1) d (310, 1323, lv, st, h) = aGo fu d (310, 1324, lv, (.int (1)) :: st, h) := (st_of (kmOf kt310 rfl : KM 310 1323 = some (.iconst 1, 1, 0, 0, (.int (1)), none))).trans (RH_iconst)
set_option maxRecDepth 100000 in
theorem s310_1324 {fu d : Nat} {lv : LV} {st : List Value} {h : AH} : aGo (fu + 1) d (310, 1324, lv, st, h) = pI st fun y st => pI st fun x st => aGo fu d (310, 1325, lv, .int (x + y) :: st, h) := (st_of (kmOf kt310 rfl : KM 310 1324 = some (.iadd, 1, 0, 0, .null, none))).trans (RH_iadd)
set_option maxRecDepth 100000 in
theorem s310_1325 {fu d : Nat} {lv : LV} {st : List Value} {h : AH} : aGo (fu + 1) d (310, 1325, lv, st, h) = pI st fun i st => pR st fun r st => hIld h r i fun x => aGo fu d (310, 1326, lv, .int x :: st, h) := (st_of (kmOf kt310 rfl : KM 310 1325 = some (.iaload, 1, 0, 0, .null, none))).trans (RH_iaload)
set_option maxRecDepth 100000 in
theorem s310_1326 {fu d : Nat} {lv : LV} {st : List Value} {h : AH} : aGo (fu + 1) d (310, 1326, lv, st, h) = lR (ld lv 0) fun x => aGo fu d (310, 1327, lv, x :: st, h) := (st_of (kmOf kt310 rfl : KM 310 1326 = some (.aload_n 0, 1, 0, 0, .null, none))).trans (RH_aload_n)
set_option maxRecDepth 100000 in
theorem s310_1327 {fu d : Nat} {lv : LV} {st : List Value} {h : AH} : aGo (fu + 1) d (310, 1327, lv, st, h) = lI (ld lv 4) fun x => aGo fu d (310, 1329, lv, .int x :: st, h) := (st_of (kmOf kt310 rfl : KM 310 1327 = some (.iload 4, 2, 0, 0, .null, none))).trans (RH_iload)
set_option maxRecDepth 100000 in
theorem s310_1329 {fu d : Nat} {lv : LV} {st : List Value} {h : AH} : aGo (fu + 1) d (310, 1329, lv, st, h) = aGo fu d (310, 1330, lv, (.int (2)) :: st, h) := (st_of (kmOf kt310 rfl : KM 310 1329 = some (.iconst 2, 1, 0, 0, (.int (2)), none))).trans (RH_iconst)
set_option maxRecDepth 100000 in
theorem s310_1330 {fu d : Nat} {lv : LV} {st : List Value} {h : AH} : aGo (fu + 1) d (310, 1330, lv, st, h) = pI st fun y st => pI st fun x st => aGo fu d (310, 1331, lv, .int (x + y) :: st, h) := (st_of (kmOf kt310 rfl : KM 310 1330 = some (.iadd, 1, 0, 0, .null, none))).trans (RH_iadd)
set_option maxRecDepth 100000 in
theorem s310_1331 {fu d : Nat} {lv : LV} {st : List Value} {h : AH} : aGo (fu + 1) d (310, 1331, lv, st, h) = pI st fun i st => pR st fun r st => hIld h r i fun x => aGo fu d (310, 1332, lv, .int x :: st, h) := (st_of (kmOf kt310 rfl : KM 310 1331 = some (.iaload, 1, 0, 0, .null, none))).trans (RH_iaload)
set_option maxRecDepth 100000 in
theorem s310_1332 {fu d : Nat} {lv : LV} {st : List Value} {h : AH} : aGo (fu + 1) d (310, 1332, lv, st, h) = ob (popN 3 st []) fun q => gT (isO h 11 q.1 = true ∧ q.2.length ≤ 12 ∧ (layA q.1).length ≤ MX 147) (ob (aCall d 147 q.1 h) (kont d 310 (1335) lv q.2)) := (st_of (kmOf kt310 rfl : KM 310 1332 = some (.invokevirtual 144, 3, 147, 3, (.retAddr 11), none))).trans (RH_invokevirtual (by decide))
set_option maxRecDepth 100000 in
theorem s310_1335 {fu d : Nat} {lv : LV} {st : List Value} {h : AH} : aGo (fu + 1) d (310, 1335, lv, st, h) = lR (ld lv 2) fun x => aGo fu d (310, 1336, lv, x :: st, h) := (st_of (kmOf kt310 rfl : KM 310 1335 = some (.aload_n 2, 1, 0, 0, .null, none))).trans (RH_aload_n)
set_option maxRecDepth 100000 in
theorem s310_1336 {fu d : Nat} {lv : LV} {st : List Value} {h : AH} : aGo (fu + 1) d (310, 1336, lv, st, h) = lR (ld lv 0) fun x => aGo fu d (310, 1337, lv, x :: st, h) := (st_of (kmOf kt310 rfl : KM 310 1336 = some (.aload_n 0, 1, 0, 0, .null, none))).trans (RH_aload_n)
set_option maxRecDepth 100000 in
theorem s310_1337 {fu d : Nat} {lv : LV} {st : List Value} {h : AH} : aGo (fu + 1) d (310, 1337, lv, st, h) = lI (ld lv 4) fun x => aGo fu d (310, 1339, lv, .int x :: st, h) := (st_of (kmOf kt310 rfl : KM 310 1337 = some (.iload 4, 2, 0, 0, .null, none))).trans (RH_iload)
set_option maxRecDepth 100000 in
theorem s310_1339 {fu d : Nat} {lv : LV} {st : List Value} {h : AH} : aGo (fu + 1) d (310, 1339, lv, st, h) = aGo fu d (310, 1340, lv, (.int (1)) :: st, h) := (st_of (kmOf kt310 rfl : KM 310 1339 = some (.iconst 1, 1, 0, 0, (.int (1)), none))).trans (RH_iconst)
set_option maxRecDepth 100000 in
theorem s310_1340 {fu d : Nat} {lv : LV} {st : List Value} {h : AH} : aGo (fu + 1) d (310, 1340, lv, st, h) = pI st fun y st => pI st fun x st => aGo fu d (310, 1341, lv, .int (x + y) :: st, h) := (st_of (kmOf kt310 rfl : KM 310 1340 = some (.iadd, 1, 0, 0, .null, none))).trans (RH_iadd)
set_option maxRecDepth 100000 in
theorem s310_1341 {fu d : Nat} {lv : LV} {st : List Value} {h : AH} : aGo (fu + 1) d (310, 1341, lv, st, h) = pI st fun i st => pR st fun r st => hIld h r i fun x => aGo fu d (310, 1342, lv, .int x :: st, h) := (st_of (kmOf kt310 rfl : KM 310 1341 = some (.iaload, 1, 0, 0, .null, none))).trans (RH_iaload)
set_option maxRecDepth 100000 in
theorem s310_1342 {fu d : Nat} {lv : LV} {st : List Value} {h : AH} : aGo (fu + 1) d (310, 1342, lv, st, h) = lR (ld lv 0) fun x => aGo fu d (310, 1343, lv, x :: st, h) := (st_of (kmOf kt310 rfl : KM 310 1342 = some (.aload_n 0, 1, 0, 0, .null, none))).trans (RH_aload_n)
set_option maxRecDepth 100000 in
theorem s310_1343 {fu d : Nat} {lv : LV} {st : List Value} {h : AH} : aGo (fu + 1) d (310, 1343, lv, st, h) = lI (ld lv 4) fun x => aGo fu d (310, 1345, lv, .int x :: st, h) := (st_of (kmOf kt310 rfl : KM 310 1343 = some (.iload 4, 2, 0, 0, .null, none))).trans (RH_iload)
set_option maxRecDepth 100000 in
theorem s310_1345 {fu d : Nat} {lv : LV} {st : List Value} {h : AH} : aGo (fu + 1) d (310, 1345, lv, st, h) = aGo fu d (310, 1346, lv, (.int (2)) :: st, h) := (st_of (kmOf kt310 rfl : KM 310 1345 = some (.iconst 2, 1, 0, 0, (.int (2)), none))).trans (RH_iconst)
set_option maxRecDepth 100000 in
theorem s310_1346 {fu d : Nat} {lv : LV} {st : List Value} {h : AH} : aGo (fu + 1) d (310, 1346, lv, st, h) = pI st fun y st => pI st fun x st => aGo fu d (310, 1347, lv, .int (x + y) :: st, h) := (st_of (kmOf kt310 rfl : KM 310 1346 = some (.iadd, 1, 0, 0, .null, none))).trans (RH_iadd)
set_option maxRecDepth 100000 in
theorem s310_1347 {fu d : Nat} {lv : LV} {st : List Value} {h : AH} : aGo (fu + 1) d (310, 1347, lv, st, h) = pI st fun i st => pR st fun r st => hIld h r i fun x => aGo fu d (310, 1348, lv, .int x :: st, h) := (st_of (kmOf kt310 rfl : KM 310 1347 = some (.iaload, 1, 0, 0, .null, none))).trans (RH_iaload)
set_option maxRecDepth 100000 in
theorem s310_1348 {fu d : Nat} {lv : LV} {st : List Value} {h : AH} : aGo (fu + 1) d (310, 1348, lv, st, h) = ob (popN 3 st []) fun q => gT (isO h 12 q.1 = true ∧ q.2.length ≤ 12 ∧ (layA q.1).length ≤ MX 261) (ob (aCall d 261 q.1 h) (kont d 310 (1351) lv q.2)) := (st_of (kmOf kt310 rfl : KM 310 1348 = some (.invokevirtual 147, 3, 261, 3, (.retAddr 12), none))).trans (RH_invokevirtual (by decide))
set_option maxRecDepth 100000 in
theorem s310_1351 {fu d : Nat} {lv : LV} {st : List Value} {h : AH} : aGo (fu + 1) d (310, 1351, lv, st, h) = pI st fun y st => pI st fun x st => if x = y then aGo fu d (310, 1995, lv, st, h) else aGo fu d (310, 1354, lv, st, h) := (st_of (kmOf kt310 rfl : KM 310 1351 = some (.if_icmp .eq 644, 3, 1995, 0, .null, none))).trans (RH_icmp_eq)
set_option maxRecDepth 100000 in
theorem s310_1354 {fu d : Nat} {lv : LV} {st : List Value} {h : AH} : aGo (fu + 1) d (310, 1354, lv, st, h) = aGo fu d (310, 1355, lv, (.int (0)) :: st, h) := (st_of (kmOf kt310 rfl : KM 310 1354 = some (.iconst 0, 1, 0, 0, (.int (0)), none))).trans (RH_iconst)
set_option maxRecDepth 100000 in
theorem s310_1355 {fu d : Nat} {lv : LV} {st : List Value} {h : AH} : aGo (fu + 1) d (310, 1355, lv, st, h) = match st with | [.int x] => gT ((1 = 1 → x = 0 ∨ x = 1) ∧ (1 = 2 → x.toInt8.toInt32 = x)) (some (some (.int x), h)) | _ => none := (st_of (kmOf kt310 rfl : KM 310 1355 = some (.ireturn, 1, 1, 0, .null, none))).trans (RH_ireturn)
set_option maxRecDepth 100000 in
theorem s310_1356 {fu d : Nat} {lv : LV} {st : List Value} {h : AH} : aGo (fu + 1) d (310, 1356, lv, st, h) = lR (ld lv 1) fun x => aGo fu d (310, 1357, lv, x :: st, h) := (st_of (kmOf kt310 rfl : KM 310 1356 = some (.aload_n 1, 1, 0, 0, .null, none))).trans (RH_aload_n)
set_option maxRecDepth 100000 in
theorem s310_1357 {fu d : Nat} {lv : LV} {st : List Value} {h : AH} : aGo (fu + 1) d (310, 1357, lv, st, h) = lR (ld lv 0) fun x => aGo fu d (310, 1358, lv, x :: st, h) := (st_of (kmOf kt310 rfl : KM 310 1357 = some (.aload_n 0, 1, 0, 0, .null, none))).trans (RH_aload_n)
set_option maxRecDepth 100000 in
theorem s310_1358 {fu d : Nat} {lv : LV} {st : List Value} {h : AH} : aGo (fu + 1) d (310, 1358, lv, st, h) = lI (ld lv 4) fun x => aGo fu d (310, 1360, lv, .int x :: st, h) := (st_of (kmOf kt310 rfl : KM 310 1358 = some (.iload 4, 2, 0, 0, .null, none))).trans (RH_iload)
set_option maxRecDepth 100000 in
theorem s310_1360 {fu d : Nat} {lv : LV} {st : List Value} {h : AH} : aGo (fu + 1) d (310, 1360, lv, st, h) = aGo fu d (310, 1361, lv, (.int (1)) :: st, h) := (st_of (kmOf kt310 rfl : KM 310 1360 = some (.iconst 1, 1, 0, 0, (.int (1)), none))).trans (RH_iconst)
set_option maxRecDepth 100000 in
theorem s310_1361 {fu d : Nat} {lv : LV} {st : List Value} {h : AH} : aGo (fu + 1) d (310, 1361, lv, st, h) = pI st fun y st => pI st fun x st => aGo fu d (310, 1362, lv, .int (x + y) :: st, h) := (st_of (kmOf kt310 rfl : KM 310 1361 = some (.iadd, 1, 0, 0, .null, none))).trans (RH_iadd)
set_option maxRecDepth 100000 in
theorem s310_1362 {fu d : Nat} {lv : LV} {st : List Value} {h : AH} : aGo (fu + 1) d (310, 1362, lv, st, h) = pI st fun i st => pR st fun r st => hIld h r i fun x => aGo fu d (310, 1363, lv, .int x :: st, h) := (st_of (kmOf kt310 rfl : KM 310 1362 = some (.iaload, 1, 0, 0, .null, none))).trans (RH_iaload)
set_option maxRecDepth 100000 in
theorem s310_1363 {fu d : Nat} {lv : LV} {st : List Value} {h : AH} : aGo (fu + 1) d (310, 1363, lv, st, h) = ob (popN 2 st []) fun q => gT (isO h 11 q.1 = true ∧ q.2.length ≤ 12 ∧ (layA q.1).length ≤ MX 148) (ob (aCall d 148 q.1 h) (kont d 310 (1366) lv q.2)) := (st_of (kmOf kt310 rfl : KM 310 1363 = some (.invokevirtual 148, 3, 148, 2, (.retAddr 11), none))).trans (RH_invokevirtual (by decide))
set_option maxRecDepth 100000 in
theorem s310_1366 {fu d : Nat} {lv : LV} {st : List Value} {h : AH} : aGo (fu + 1) d (310, 1366, lv, st, h) = lR (ld lv 2) fun x => aGo fu d (310, 1367, lv, x :: st, h) := (st_of (kmOf kt310 rfl : KM 310 1366 = some (.aload_n 2, 1, 0, 0, .null, none))).trans (RH_aload_n)
set_option maxRecDepth 100000 in
theorem s310_1367 {fu d : Nat} {lv : LV} {st : List Value} {h : AH} : aGo (fu + 1) d (310, 1367, lv, st, h) = lR (ld lv 0) fun x => aGo fu d (310, 1368, lv, x :: st, h) := (st_of (kmOf kt310 rfl : KM 310 1367 = some (.aload_n 0, 1, 0, 0, .null, none))).trans (RH_aload_n)
set_option maxRecDepth 100000 in
theorem s310_1368 {fu d : Nat} {lv : LV} {st : List Value} {h : AH} : aGo (fu + 1) d (310, 1368, lv, st, h) = lI (ld lv 4) fun x => aGo fu d (310, 1370, lv, .int x :: st, h) := (st_of (kmOf kt310 rfl : KM 310 1368 = some (.iload 4, 2, 0, 0, .null, none))).trans (RH_iload)
set_option maxRecDepth 100000 in
theorem s310_1370 {fu d : Nat} {lv : LV} {st : List Value} {h : AH} : aGo (fu + 1) d (310, 1370, lv, st, h) = aGo fu d (310, 1371, lv, (.int (1)) :: st, h) := (st_of (kmOf kt310 rfl : KM 310 1370 = some (.iconst 1, 1, 0, 0, (.int (1)), none))).trans (RH_iconst)
set_option maxRecDepth 100000 in
theorem s310_1371 {fu d : Nat} {lv : LV} {st : List Value} {h : AH} : aGo (fu + 1) d (310, 1371, lv, st, h) = pI st fun y st => pI st fun x st => aGo fu d (310, 1372, lv, .int (x + y) :: st, h) := (st_of (kmOf kt310 rfl : KM 310 1371 = some (.iadd, 1, 0, 0, .null, none))).trans (RH_iadd)
set_option maxRecDepth 100000 in
theorem s310_1372 {fu d : Nat} {lv : LV} {st : List Value} {h : AH} : aGo (fu + 1) d (310, 1372, lv, st, h) = pI st fun i st => pR st fun r st => hIld h r i fun x => aGo fu d (310, 1373, lv, .int x :: st, h) := (st_of (kmOf kt310 rfl : KM 310 1372 = some (.iaload, 1, 0, 0, .null, none))).trans (RH_iaload)
set_option maxRecDepth 100000 in
theorem s310_1373 {fu d : Nat} {lv : LV} {st : List Value} {h : AH} : aGo (fu + 1) d (310, 1373, lv, st, h) = ob (popN 2 st []) fun q => gT (isO h 12 q.1 = true ∧ q.2.length ≤ 12 ∧ (layA q.1).length ≤ MX 262) (ob (aCall d 262 q.1 h) (kont d 310 (1376) lv q.2)) := (st_of (kmOf kt310 rfl : KM 310 1373 = some (.invokevirtual 151, 3, 262, 2, (.retAddr 12), none))).trans (RH_invokevirtual (by decide))
set_option maxRecDepth 100000 in
theorem s310_1376 {fu d : Nat} {lv : LV} {st : List Value} {h : AH} : aGo (fu + 1) d (310, 1376, lv, st, h) = pI st fun y st => pI st fun x st => if x = y then aGo fu d (310, 1995, lv, st, h) else aGo fu d (310, 1379, lv, st, h) := (st_of (kmOf kt310 rfl : KM 310 1376 = some (.if_icmp .eq 619, 3, 1995, 0, .null, none))).trans (RH_icmp_eq)
set_option maxRecDepth 100000 in
theorem s310_1379 {fu d : Nat} {lv : LV} {st : List Value} {h : AH} : aGo (fu + 1) d (310, 1379, lv, st, h) = aGo fu d (310, 1380, lv, (.int (0)) :: st, h) := (st_of (kmOf kt310 rfl : KM 310 1379 = some (.iconst 0, 1, 0, 0, (.int (0)), none))).trans (RH_iconst)
set_option maxRecDepth 100000 in
theorem s310_1380 {fu d : Nat} {lv : LV} {st : List Value} {h : AH} : aGo (fu + 1) d (310, 1380, lv, st, h) = match st with | [.int x] => gT ((1 = 1 → x = 0 ∨ x = 1) ∧ (1 = 2 → x.toInt8.toInt32 = x)) (some (some (.int x), h)) | _ => none := (st_of (kmOf kt310 rfl : KM 310 1380 = some (.ireturn, 1, 1, 0, .null, none))).trans (RH_ireturn)
set_option maxRecDepth 100000 in
theorem s310_1381 {fu d : Nat} {lv : LV} {st : List Value} {h : AH} : aGo (fu + 1) d (310, 1381, lv, st, h) = lR (ld lv 1) fun x => aGo fu d (310, 1382, lv, x :: st, h) := (st_of (kmOf kt310 rfl : KM 310 1381 = some (.aload_n 1, 1, 0, 0, .null, none))).trans (RH_aload_n)
set_option maxRecDepth 100000 in
theorem s310_1382 {fu d : Nat} {lv : LV} {st : List Value} {h : AH} : aGo (fu + 1) d (310, 1382, lv, st, h) = lR (ld lv 0) fun x => aGo fu d (310, 1383, lv, x :: st, h) := (st_of (kmOf kt310 rfl : KM 310 1382 = some (.aload_n 0, 1, 0, 0, .null, none))).trans (RH_aload_n)
set_option maxRecDepth 100000 in
theorem s310_1383 {fu d : Nat} {lv : LV} {st : List Value} {h : AH} : aGo (fu + 1) d (310, 1383, lv, st, h) = lI (ld lv 4) fun x => aGo fu d (310, 1385, lv, .int x :: st, h) := (st_of (kmOf kt310 rfl : KM 310 1383 = some (.iload 4, 2, 0, 0, .null, none))).trans (RH_iload)
set_option maxRecDepth 100000 in
theorem s310_1385 {fu d : Nat} {lv : LV} {st : List Value} {h : AH} : aGo (fu + 1) d (310, 1385, lv, st, h) = aGo fu d (310, 1386, lv, (.int (1)) :: st, h) := (st_of (kmOf kt310 rfl : KM 310 1385 = some (.iconst 1, 1, 0, 0, (.int (1)), none))).trans (RH_iconst)
set_option maxRecDepth 100000 in
theorem s310_1386 {fu d : Nat} {lv : LV} {st : List Value} {h : AH} : aGo (fu + 1) d (310, 1386, lv, st, h) = pI st fun y st => pI st fun x st => aGo fu d (310, 1387, lv, .int (x + y) :: st, h) := (st_of (kmOf kt310 rfl : KM 310 1386 = some (.iadd, 1, 0, 0, .null, none))).trans (RH_iadd)
set_option maxRecDepth 100000 in
theorem s310_1387 {fu d : Nat} {lv : LV} {st : List Value} {h : AH} : aGo (fu + 1) d (310, 1387, lv, st, h) = pI st fun i st => pR st fun r st => hIld h r i fun x => aGo fu d (310, 1388, lv, .int x :: st, h) := (st_of (kmOf kt310 rfl : KM 310 1387 = some (.iaload, 1, 0, 0, .null, none))).trans (RH_iaload)
set_option maxRecDepth 100000 in
theorem s310_1388 {fu d : Nat} {lv : LV} {st : List Value} {h : AH} : aGo (fu + 1) d (310, 1388, lv, st, h) = lR (ld lv 0) fun x => aGo fu d (310, 1389, lv, x :: st, h) := (st_of (kmOf kt310 rfl : KM 310 1388 = some (.aload_n 0, 1, 0, 0, .null, none))).trans (RH_aload_n)
set_option maxRecDepth 100000 in
theorem s310_1389 {fu d : Nat} {lv : LV} {st : List Value} {h : AH} : aGo (fu + 1) d (310, 1389, lv, st, h) = lI (ld lv 4) fun x => aGo fu d (310, 1391, lv, .int x :: st, h) := (st_of (kmOf kt310 rfl : KM 310 1389 = some (.iload 4, 2, 0, 0, .null, none))).trans (RH_iload)
set_option maxRecDepth 100000 in
theorem s310_1391 {fu d : Nat} {lv : LV} {st : List Value} {h : AH} : aGo (fu + 1) d (310, 1391, lv, st, h) = aGo fu d (310, 1392, lv, (.int (2)) :: st, h) := (st_of (kmOf kt310 rfl : KM 310 1391 = some (.iconst 2, 1, 0, 0, (.int (2)), none))).trans (RH_iconst)
set_option maxRecDepth 100000 in
theorem s310_1392 {fu d : Nat} {lv : LV} {st : List Value} {h : AH} : aGo (fu + 1) d (310, 1392, lv, st, h) = pI st fun y st => pI st fun x st => aGo fu d (310, 1393, lv, .int (x + y) :: st, h) := (st_of (kmOf kt310 rfl : KM 310 1392 = some (.iadd, 1, 0, 0, .null, none))).trans (RH_iadd)
set_option maxRecDepth 100000 in
theorem s310_1393 {fu d : Nat} {lv : LV} {st : List Value} {h : AH} : aGo (fu + 1) d (310, 1393, lv, st, h) = pI st fun i st => pR st fun r st => hIld h r i fun x => aGo fu d (310, 1394, lv, .int x :: st, h) := (st_of (kmOf kt310 rfl : KM 310 1393 = some (.iaload, 1, 0, 0, .null, none))).trans (RH_iaload)
set_option maxRecDepth 100000 in
theorem s310_1394 {fu d : Nat} {lv : LV} {st : List Value} {h : AH} : aGo (fu + 1) d (310, 1394, lv, st, h) = ob (popN 3 st []) fun q => gT (isO h 11 q.1 = true ∧ q.2.length ≤ 12 ∧ (layA q.1).length ≤ MX 149) (ob (aCall d 149 q.1 h) (kont d 310 (1397) lv q.2)) := (st_of (kmOf kt310 rfl : KM 310 1394 = some (.invokevirtual 152, 3, 149, 3, (.retAddr 11), none))).trans (RH_invokevirtual (by decide))
set_option maxRecDepth 100000 in
theorem s310_1397 {fu d : Nat} {lv : LV} {st : List Value} {h : AH} : aGo (fu + 1) d (310, 1397, lv, st, h) = lR (ld lv 2) fun x => aGo fu d (310, 1398, lv, x :: st, h) := (st_of (kmOf kt310 rfl : KM 310 1397 = some (.aload_n 2, 1, 0, 0, .null, none))).trans (RH_aload_n)
set_option maxRecDepth 100000 in
theorem s310_1398 {fu d : Nat} {lv : LV} {st : List Value} {h : AH} : aGo (fu + 1) d (310, 1398, lv, st, h) = lR (ld lv 0) fun x => aGo fu d (310, 1399, lv, x :: st, h) := (st_of (kmOf kt310 rfl : KM 310 1398 = some (.aload_n 0, 1, 0, 0, .null, none))).trans (RH_aload_n)
set_option maxRecDepth 100000 in
theorem s310_1399 {fu d : Nat} {lv : LV} {st : List Value} {h : AH} : aGo (fu + 1) d (310, 1399, lv, st, h) = lI (ld lv 4) fun x => aGo fu d (310, 1401, lv, .int x :: st, h) := (st_of (kmOf kt310 rfl : KM 310 1399 = some (.iload 4, 2, 0, 0, .null, none))).trans (RH_iload)
set_option maxRecDepth 100000 in
theorem s310_1401 {fu d : Nat} {lv : LV} {st : List Value} {h : AH} : aGo (fu + 1) d (310, 1401, lv, st, h) = aGo fu d (310, 1402, lv, (.int (1)) :: st, h) := (st_of (kmOf kt310 rfl : KM 310 1401 = some (.iconst 1, 1, 0, 0, (.int (1)), none))).trans (RH_iconst)
set_option maxRecDepth 100000 in
theorem s310_1402 {fu d : Nat} {lv : LV} {st : List Value} {h : AH} : aGo (fu + 1) d (310, 1402, lv, st, h) = pI st fun y st => pI st fun x st => aGo fu d (310, 1403, lv, .int (x + y) :: st, h) := (st_of (kmOf kt310 rfl : KM 310 1402 = some (.iadd, 1, 0, 0, .null, none))).trans (RH_iadd)
set_option maxRecDepth 100000 in
theorem s310_1403 {fu d : Nat} {lv : LV} {st : List Value} {h : AH} : aGo (fu + 1) d (310, 1403, lv, st, h) = pI st fun i st => pR st fun r st => hIld h r i fun x => aGo fu d (310, 1404, lv, .int x :: st, h) := (st_of (kmOf kt310 rfl : KM 310 1403 = some (.iaload, 1, 0, 0, .null, none))).trans (RH_iaload)
set_option maxRecDepth 100000 in
theorem s310_1404 {fu d : Nat} {lv : LV} {st : List Value} {h : AH} : aGo (fu + 1) d (310, 1404, lv, st, h) = lR (ld lv 0) fun x => aGo fu d (310, 1405, lv, x :: st, h) := (st_of (kmOf kt310 rfl : KM 310 1404 = some (.aload_n 0, 1, 0, 0, .null, none))).trans (RH_aload_n)
set_option maxRecDepth 100000 in
theorem s310_1405 {fu d : Nat} {lv : LV} {st : List Value} {h : AH} : aGo (fu + 1) d (310, 1405, lv, st, h) = lI (ld lv 4) fun x => aGo fu d (310, 1407, lv, .int x :: st, h) := (st_of (kmOf kt310 rfl : KM 310 1405 = some (.iload 4, 2, 0, 0, .null, none))).trans (RH_iload)
set_option maxRecDepth 100000 in
theorem s310_1407 {fu d : Nat} {lv : LV} {st : List Value} {h : AH} : aGo (fu + 1) d (310, 1407, lv, st, h) = aGo fu d (310, 1408, lv, (.int (2)) :: st, h) := (st_of (kmOf kt310 rfl : KM 310 1407 = some (.iconst 2, 1, 0, 0, (.int (2)), none))).trans (RH_iconst)
set_option maxRecDepth 100000 in
theorem s310_1408 {fu d : Nat} {lv : LV} {st : List Value} {h : AH} : aGo (fu + 1) d (310, 1408, lv, st, h) = pI st fun y st => pI st fun x st => aGo fu d (310, 1409, lv, .int (x + y) :: st, h) := (st_of (kmOf kt310 rfl : KM 310 1408 = some (.iadd, 1, 0, 0, .null, none))).trans (RH_iadd)
set_option maxRecDepth 100000 in
theorem s310_1409 {fu d : Nat} {lv : LV} {st : List Value} {h : AH} : aGo (fu + 1) d (310, 1409, lv, st, h) = pI st fun i st => pR st fun r st => hIld h r i fun x => aGo fu d (310, 1410, lv, .int x :: st, h) := (st_of (kmOf kt310 rfl : KM 310 1409 = some (.iaload, 1, 0, 0, .null, none))).trans (RH_iaload)
set_option maxRecDepth 100000 in
theorem s310_1410 {fu d : Nat} {lv : LV} {st : List Value} {h : AH} : aGo (fu + 1) d (310, 1410, lv, st, h) = ob (popN 3 st []) fun q => gT (isO h 12 q.1 = true ∧ q.2.length ≤ 12 ∧ (layA q.1).length ≤ MX 266) (ob (aCall d 266 q.1 h) (kont d 310 (1413) lv q.2)) := (st_of (kmOf kt310 rfl : KM 310 1410 = some (.invokevirtual 155, 3, 266, 3, (.retAddr 12), none))).trans (RH_invokevirtual (by decide))
set_option maxRecDepth 100000 in
theorem s310_1413 {fu d : Nat} {lv : LV} {st : List Value} {h : AH} : aGo (fu + 1) d (310, 1413, lv, st, h) = pI st fun y st => pI st fun x st => if x = y then aGo fu d (310, 1995, lv, st, h) else aGo fu d (310, 1416, lv, st, h) := (st_of (kmOf kt310 rfl : KM 310 1413 = some (.if_icmp .eq 582, 3, 1995, 0, .null, none))).trans (RH_icmp_eq)
set_option maxRecDepth 100000 in
theorem s310_1416 {fu d : Nat} {lv : LV} {st : List Value} {h : AH} : aGo (fu + 1) d (310, 1416, lv, st, h) = aGo fu d (310, 1417, lv, (.int (0)) :: st, h) := (st_of (kmOf kt310 rfl : KM 310 1416 = some (.iconst 0, 1, 0, 0, (.int (0)), none))).trans (RH_iconst)
set_option maxRecDepth 100000 in
theorem s310_1417 {fu d : Nat} {lv : LV} {st : List Value} {h : AH} : aGo (fu + 1) d (310, 1417, lv, st, h) = match st with | [.int x] => gT ((1 = 1 → x = 0 ∨ x = 1) ∧ (1 = 2 → x.toInt8.toInt32 = x)) (some (some (.int x), h)) | _ => none := (st_of (kmOf kt310 rfl : KM 310 1417 = some (.ireturn, 1, 1, 0, .null, none))).trans (RH_ireturn)
set_option maxRecDepth 100000 in
theorem s310_1418 {fu d : Nat} {lv : LV} {st : List Value} {h : AH} : aGo (fu + 1) d (310, 1418, lv, st, h) = lR (ld lv 1) fun x => aGo fu d (310, 1419, lv, x :: st, h) := (st_of (kmOf kt310 rfl : KM 310 1418 = some (.aload_n 1, 1, 0, 0, .null, none))).trans (RH_aload_n)
set_option maxRecDepth 100000 in
theorem s310_1419 {fu d : Nat} {lv : LV} {st : List Value} {h : AH} : aGo (fu + 1) d (310, 1419, lv, st, h) = lR (ld lv 0) fun x => aGo fu d (310, 1420, lv, x :: st, h) := (st_of (kmOf kt310 rfl : KM 310 1419 = some (.aload_n 0, 1, 0, 0, .null, none))).trans (RH_aload_n)
set_option maxRecDepth 100000 in
theorem s310_1420 {fu d : Nat} {lv : LV} {st : List Value} {h : AH} : aGo (fu + 1) d (310, 1420, lv, st, h) = lI (ld lv 4) fun x => aGo fu d (310, 1422, lv, .int x :: st, h) := (st_of (kmOf kt310 rfl : KM 310 1420 = some (.iload 4, 2, 0, 0, .null, none))).trans (RH_iload)
set_option maxRecDepth 100000 in
theorem s310_1422 {fu d : Nat} {lv : LV} {st : List Value} {h : AH} : aGo (fu + 1) d (310, 1422, lv, st, h) = aGo fu d (310, 1423, lv, (.int (1)) :: st, h) := (st_of (kmOf kt310 rfl : KM 310 1422 = some (.iconst 1, 1, 0, 0, (.int (1)), none))).trans (RH_iconst)
set_option maxRecDepth 100000 in
theorem s310_1423 {fu d : Nat} {lv : LV} {st : List Value} {h : AH} : aGo (fu + 1) d (310, 1423, lv, st, h) = pI st fun y st => pI st fun x st => aGo fu d (310, 1424, lv, .int (x + y) :: st, h) := (st_of (kmOf kt310 rfl : KM 310 1423 = some (.iadd, 1, 0, 0, .null, none))).trans (RH_iadd)
set_option maxRecDepth 100000 in
theorem s310_1424 {fu d : Nat} {lv : LV} {st : List Value} {h : AH} : aGo (fu + 1) d (310, 1424, lv, st, h) = pI st fun i st => pR st fun r st => hIld h r i fun x => aGo fu d (310, 1425, lv, .int x :: st, h) := (st_of (kmOf kt310 rfl : KM 310 1424 = some (.iaload, 1, 0, 0, .null, none))).trans (RH_iaload)
set_option maxRecDepth 100000 in
theorem s310_1425 {fu d : Nat} {lv : LV} {st : List Value} {h : AH} : aGo (fu + 1) d (310, 1425, lv, st, h) = lR (ld lv 0) fun x => aGo fu d (310, 1426, lv, x :: st, h) := (st_of (kmOf kt310 rfl : KM 310 1425 = some (.aload_n 0, 1, 0, 0, .null, none))).trans (RH_aload_n)
set_option maxRecDepth 100000 in
theorem s310_1426 {fu d : Nat} {lv : LV} {st : List Value} {h : AH} : aGo (fu + 1) d (310, 1426, lv, st, h) = lI (ld lv 4) fun x => aGo fu d (310, 1428, lv, .int x :: st, h) := (st_of (kmOf kt310 rfl : KM 310 1426 = some (.iload 4, 2, 0, 0, .null, none))).trans (RH_iload)
set_option maxRecDepth 100000 in
theorem s310_1428 {fu d : Nat} {lv : LV} {st : List Value} {h : AH} : aGo (fu + 1) d (310, 1428, lv, st, h) = aGo fu d (310, 1429, lv, (.int (2)) :: st, h) := (st_of (kmOf kt310 rfl : KM 310 1428 = some (.iconst 2, 1, 0, 0, (.int (2)), none))).trans (RH_iconst)
set_option maxRecDepth 100000 in
theorem s310_1429 {fu d : Nat} {lv : LV} {st : List Value} {h : AH} : aGo (fu + 1) d (310, 1429, lv, st, h) = pI st fun y st => pI st fun x st => aGo fu d (310, 1430, lv, .int (x + y) :: st, h) := (st_of (kmOf kt310 rfl : KM 310 1429 = some (.iadd, 1, 0, 0, .null, none))).trans (RH_iadd)
set_option maxRecDepth 100000 in
theorem s310_1430 {fu d : Nat} {lv : LV} {st : List Value} {h : AH} : aGo (fu + 1) d (310, 1430, lv, st, h) = pI st fun i st => pR st fun r st => hIld h r i fun x => aGo fu d (310, 1431, lv, .int x :: st, h) := (st_of (kmOf kt310 rfl : KM 310 1430 = some (.iaload, 1, 0, 0, .null, none))).trans (RH_iaload)
set_option maxRecDepth 100000 in
theorem s310_1431 {fu d : Nat} {lv : LV} {st : List Value} {h : AH} : aGo (fu + 1) d (310, 1431, lv, st, h) = ob (popN 3 st []) fun q => gT (isO h 11 q.1 = true ∧ q.2.length ≤ 12 ∧ (layA q.1).length ≤ MX 150) (ob (aCall d 150 q.1 h) (kont d 310 (1434) lv q.2)) := (st_of (kmOf kt310 rfl : KM 310 1431 = some (.invokevirtual 156, 3, 150, 3, (.retAddr 11), none))).trans (RH_invokevirtual (by decide))
set_option maxRecDepth 100000 in
theorem s310_1434 {fu d : Nat} {lv : LV} {st : List Value} {h : AH} : aGo (fu + 1) d (310, 1434, lv, st, h) = lR (ld lv 2) fun x => aGo fu d (310, 1435, lv, x :: st, h) := (st_of (kmOf kt310 rfl : KM 310 1434 = some (.aload_n 2, 1, 0, 0, .null, none))).trans (RH_aload_n)
set_option maxRecDepth 100000 in
theorem s310_1435 {fu d : Nat} {lv : LV} {st : List Value} {h : AH} : aGo (fu + 1) d (310, 1435, lv, st, h) = lR (ld lv 0) fun x => aGo fu d (310, 1436, lv, x :: st, h) := (st_of (kmOf kt310 rfl : KM 310 1435 = some (.aload_n 0, 1, 0, 0, .null, none))).trans (RH_aload_n)
set_option maxRecDepth 100000 in
theorem s310_1436 {fu d : Nat} {lv : LV} {st : List Value} {h : AH} : aGo (fu + 1) d (310, 1436, lv, st, h) = lI (ld lv 4) fun x => aGo fu d (310, 1438, lv, .int x :: st, h) := (st_of (kmOf kt310 rfl : KM 310 1436 = some (.iload 4, 2, 0, 0, .null, none))).trans (RH_iload)
set_option maxRecDepth 100000 in
theorem s310_1438 {fu d : Nat} {lv : LV} {st : List Value} {h : AH} : aGo (fu + 1) d (310, 1438, lv, st, h) = aGo fu d (310, 1439, lv, (.int (1)) :: st, h) := (st_of (kmOf kt310 rfl : KM 310 1438 = some (.iconst 1, 1, 0, 0, (.int (1)), none))).trans (RH_iconst)
set_option maxRecDepth 100000 in
theorem s310_1439 {fu d : Nat} {lv : LV} {st : List Value} {h : AH} : aGo (fu + 1) d (310, 1439, lv, st, h) = pI st fun y st => pI st fun x st => aGo fu d (310, 1440, lv, .int (x + y) :: st, h) := (st_of (kmOf kt310 rfl : KM 310 1439 = some (.iadd, 1, 0, 0, .null, none))).trans (RH_iadd)
set_option maxRecDepth 100000 in
theorem s310_1440 {fu d : Nat} {lv : LV} {st : List Value} {h : AH} : aGo (fu + 1) d (310, 1440, lv, st, h) = pI st fun i st => pR st fun r st => hIld h r i fun x => aGo fu d (310, 1441, lv, .int x :: st, h) := (st_of (kmOf kt310 rfl : KM 310 1440 = some (.iaload, 1, 0, 0, .null, none))).trans (RH_iaload)
set_option maxRecDepth 100000 in
theorem s310_1441 {fu d : Nat} {lv : LV} {st : List Value} {h : AH} : aGo (fu + 1) d (310, 1441, lv, st, h) = lR (ld lv 0) fun x => aGo fu d (310, 1442, lv, x :: st, h) := (st_of (kmOf kt310 rfl : KM 310 1441 = some (.aload_n 0, 1, 0, 0, .null, none))).trans (RH_aload_n)
set_option maxRecDepth 100000 in
theorem s310_1442 {fu d : Nat} {lv : LV} {st : List Value} {h : AH} : aGo (fu + 1) d (310, 1442, lv, st, h) = lI (ld lv 4) fun x => aGo fu d (310, 1444, lv, .int x :: st, h) := (st_of (kmOf kt310 rfl : KM 310 1442 = some (.iload 4, 2, 0, 0, .null, none))).trans (RH_iload)
set_option maxRecDepth 100000 in
theorem s310_1444 {fu d : Nat} {lv : LV} {st : List Value} {h : AH} : aGo (fu + 1) d (310, 1444, lv, st, h) = aGo fu d (310, 1445, lv, (.int (2)) :: st, h) := (st_of (kmOf kt310 rfl : KM 310 1444 = some (.iconst 2, 1, 0, 0, (.int (2)), none))).trans (RH_iconst)
set_option maxRecDepth 100000 in
theorem s310_1445 {fu d : Nat} {lv : LV} {st : List Value} {h : AH} : aGo (fu + 1) d (310, 1445, lv, st, h) = pI st fun y st => pI st fun x st => aGo fu d (310, 1446, lv, .int (x + y) :: st, h) := (st_of (kmOf kt310 rfl : KM 310 1445 = some (.iadd, 1, 0, 0, .null, none))).trans (RH_iadd)
set_option maxRecDepth 100000 in
theorem s310_1446 {fu d : Nat} {lv : LV} {st : List Value} {h : AH} : aGo (fu + 1) d (310, 1446, lv, st, h) = pI st fun i st => pR st fun r st => hIld h r i fun x => aGo fu d (310, 1447, lv, .int x :: st, h) := (st_of (kmOf kt310 rfl : KM 310 1446 = some (.iaload, 1, 0, 0, .null, none))).trans (RH_iaload)
set_option maxRecDepth 100000 in
theorem s310_1447 {fu d : Nat} {lv : LV} {st : List Value} {h : AH} : aGo (fu + 1) d (310, 1447, lv, st, h) = ob (popN 3 st []) fun q => gT (isO h 12 q.1 = true ∧ q.2.length ≤ 12 ∧ (layA q.1).length ≤ MX 267) (ob (aCall d 267 q.1 h) (kont d 310 (1450) lv q.2)) := (st_of (kmOf kt310 rfl : KM 310 1447 = some (.invokevirtual 159, 3, 267, 3, (.retAddr 12), none))).trans (RH_invokevirtual (by decide))
set_option maxRecDepth 100000 in
theorem s310_1450 {fu d : Nat} {lv : LV} {st : List Value} {h : AH} : aGo (fu + 1) d (310, 1450, lv, st, h) = pI st fun y st => pI st fun x st => if x = y then aGo fu d (310, 1995, lv, st, h) else aGo fu d (310, 1453, lv, st, h) := (st_of (kmOf kt310 rfl : KM 310 1450 = some (.if_icmp .eq 545, 3, 1995, 0, .null, none))).trans (RH_icmp_eq)
set_option maxRecDepth 100000 in
theorem s310_1453 {fu d : Nat} {lv : LV} {st : List Value} {h : AH} : aGo (fu + 1) d (310, 1453, lv, st, h) = aGo fu d (310, 1454, lv, (.int (0)) :: st, h) := (st_of (kmOf kt310 rfl : KM 310 1453 = some (.iconst 0, 1, 0, 0, (.int (0)), none))).trans (RH_iconst)
set_option maxRecDepth 100000 in
theorem s310_1454 {fu d : Nat} {lv : LV} {st : List Value} {h : AH} : aGo (fu + 1) d (310, 1454, lv, st, h) = match st with | [.int x] => gT ((1 = 1 → x = 0 ∨ x = 1) ∧ (1 = 2 → x.toInt8.toInt32 = x)) (some (some (.int x), h)) | _ => none := (st_of (kmOf kt310 rfl : KM 310 1454 = some (.ireturn, 1, 1, 0, .null, none))).trans (RH_ireturn)
set_option maxRecDepth 100000 in
theorem s310_1455 {fu d : Nat} {lv : LV} {st : List Value} {h : AH} : aGo (fu + 1) d (310, 1455, lv, st, h) = lR (ld lv 1) fun x => aGo fu d (310, 1456, lv, x :: st, h) := (st_of (kmOf kt310 rfl : KM 310 1455 = some (.aload_n 1, 1, 0, 0, .null, none))).trans (RH_aload_n)
set_option maxRecDepth 100000 in
theorem s310_1456 {fu d : Nat} {lv : LV} {st : List Value} {h : AH} : aGo (fu + 1) d (310, 1456, lv, st, h) = lR (ld lv 0) fun x => aGo fu d (310, 1457, lv, x :: st, h) := (st_of (kmOf kt310 rfl : KM 310 1456 = some (.aload_n 0, 1, 0, 0, .null, none))).trans (RH_aload_n)
set_option maxRecDepth 100000 in
theorem s310_1457 {fu d : Nat} {lv : LV} {st : List Value} {h : AH} : aGo (fu + 1) d (310, 1457, lv, st, h) = lI (ld lv 4) fun x => aGo fu d (310, 1459, lv, .int x :: st, h) := (st_of (kmOf kt310 rfl : KM 310 1457 = some (.iload 4, 2, 0, 0, .null, none))).trans (RH_iload)
set_option maxRecDepth 100000 in
theorem s310_1459 {fu d : Nat} {lv : LV} {st : List Value} {h : AH} : aGo (fu + 1) d (310, 1459, lv, st, h) = aGo fu d (310, 1460, lv, (.int (1)) :: st, h) := (st_of (kmOf kt310 rfl : KM 310 1459 = some (.iconst 1, 1, 0, 0, (.int (1)), none))).trans (RH_iconst)
set_option maxRecDepth 100000 in
theorem s310_1460 {fu d : Nat} {lv : LV} {st : List Value} {h : AH} : aGo (fu + 1) d (310, 1460, lv, st, h) = pI st fun y st => pI st fun x st => aGo fu d (310, 1461, lv, .int (x + y) :: st, h) := (st_of (kmOf kt310 rfl : KM 310 1460 = some (.iadd, 1, 0, 0, .null, none))).trans (RH_iadd)
set_option maxRecDepth 100000 in
theorem s310_1461 {fu d : Nat} {lv : LV} {st : List Value} {h : AH} : aGo (fu + 1) d (310, 1461, lv, st, h) = pI st fun i st => pR st fun r st => hIld h r i fun x => aGo fu d (310, 1462, lv, .int x :: st, h) := (st_of (kmOf kt310 rfl : KM 310 1461 = some (.iaload, 1, 0, 0, .null, none))).trans (RH_iaload)
set_option maxRecDepth 100000 in
theorem s310_1462 {fu d : Nat} {lv : LV} {st : List Value} {h : AH} : aGo (fu + 1) d (310, 1462, lv, st, h) = ob (popN 2 st []) fun q => gT (isO h 11 q.1 = true ∧ q.2.length ≤ 12 ∧ (layA q.1).length ≤ MX 151) (ob (aCall d 151 q.1 h) (kont d 310 (1465) lv q.2)) := (st_of (kmOf kt310 rfl : KM 310 1462 = some (.invokevirtual 160, 3, 151, 2, (.retAddr 11), none))).trans (RH_invokevirtual (by decide))
set_option maxRecDepth 100000 in
theorem s310_1465 {fu d : Nat} {lv : LV} {st : List Value} {h : AH} : aGo (fu + 1) d (310, 1465, lv, st, h) = lR (ld lv 2) fun x => aGo fu d (310, 1466, lv, x :: st, h) := (st_of (kmOf kt310 rfl : KM 310 1465 = some (.aload_n 2, 1, 0, 0, .null, none))).trans (RH_aload_n)
set_option maxRecDepth 100000 in
theorem s310_1466 {fu d : Nat} {lv : LV} {st : List Value} {h : AH} : aGo (fu + 1) d (310, 1466, lv, st, h) = lR (ld lv 0) fun x => aGo fu d (310, 1467, lv, x :: st, h) := (st_of (kmOf kt310 rfl : KM 310 1466 = some (.aload_n 0, 1, 0, 0, .null, none))).trans (RH_aload_n)
set_option maxRecDepth 100000 in
theorem s310_1467 {fu d : Nat} {lv : LV} {st : List Value} {h : AH} : aGo (fu + 1) d (310, 1467, lv, st, h) = lI (ld lv 4) fun x => aGo fu d (310, 1469, lv, .int x :: st, h) := (st_of (kmOf kt310 rfl : KM 310 1467 = some (.iload 4, 2, 0, 0, .null, none))).trans (RH_iload)
set_option maxRecDepth 100000 in
theorem s310_1469 {fu d : Nat} {lv : LV} {st : List Value} {h : AH} : aGo (fu + 1) d (310, 1469, lv, st, h) = aGo fu d (310, 1470, lv, (.int (1)) :: st, h) := (st_of (kmOf kt310 rfl : KM 310 1469 = some (.iconst 1, 1, 0, 0, (.int (1)), none))).trans (RH_iconst)
set_option maxRecDepth 100000 in
theorem s310_1470 {fu d : Nat} {lv : LV} {st : List Value} {h : AH} : aGo (fu + 1) d (310, 1470, lv, st, h) = pI st fun y st => pI st fun x st => aGo fu d (310, 1471, lv, .int (x + y) :: st, h) := (st_of (kmOf kt310 rfl : KM 310 1470 = some (.iadd, 1, 0, 0, .null, none))).trans (RH_iadd)
set_option maxRecDepth 100000 in
theorem s310_1471 {fu d : Nat} {lv : LV} {st : List Value} {h : AH} : aGo (fu + 1) d (310, 1471, lv, st, h) = pI st fun i st => pR st fun r st => hIld h r i fun x => aGo fu d (310, 1472, lv, .int x :: st, h) := (st_of (kmOf kt310 rfl : KM 310 1471 = some (.iaload, 1, 0, 0, .null, none))).trans (RH_iaload)
set_option maxRecDepth 100000 in
theorem s310_1472 {fu d : Nat} {lv : LV} {st : List Value} {h : AH} : aGo (fu + 1) d (310, 1472, lv, st, h) = ob (popN 2 st []) fun q => gT (isO h 12 q.1 = true ∧ q.2.length ≤ 12 ∧ (layA q.1).length ≤ MX 268) (ob (aCall d 268 q.1 h) (kont d 310 (1475) lv q.2)) := (st_of (kmOf kt310 rfl : KM 310 1472 = some (.invokevirtual 163, 3, 268, 2, (.retAddr 12), none))).trans (RH_invokevirtual (by decide))
set_option maxRecDepth 100000 in
theorem s310_1475 {fu d : Nat} {lv : LV} {st : List Value} {h : AH} : aGo (fu + 1) d (310, 1475, lv, st, h) = pI st fun y st => pI st fun x st => if x = y then aGo fu d (310, 1995, lv, st, h) else aGo fu d (310, 1478, lv, st, h) := (st_of (kmOf kt310 rfl : KM 310 1475 = some (.if_icmp .eq 520, 3, 1995, 0, .null, none))).trans (RH_icmp_eq)
set_option maxRecDepth 100000 in
theorem s310_1478 {fu d : Nat} {lv : LV} {st : List Value} {h : AH} : aGo (fu + 1) d (310, 1478, lv, st, h) = aGo fu d (310, 1479, lv, (.int (0)) :: st, h) := (st_of (kmOf kt310 rfl : KM 310 1478 = some (.iconst 0, 1, 0, 0, (.int (0)), none))).trans (RH_iconst)
set_option maxRecDepth 100000 in
theorem s310_1479 {fu d : Nat} {lv : LV} {st : List Value} {h : AH} : aGo (fu + 1) d (310, 1479, lv, st, h) = match st with | [.int x] => gT ((1 = 1 → x = 0 ∨ x = 1) ∧ (1 = 2 → x.toInt8.toInt32 = x)) (some (some (.int x), h)) | _ => none := (st_of (kmOf kt310 rfl : KM 310 1479 = some (.ireturn, 1, 1, 0, .null, none))).trans (RH_ireturn)
set_option maxRecDepth 100000 in
theorem s310_1480 {fu d : Nat} {lv : LV} {st : List Value} {h : AH} : aGo (fu + 1) d (310, 1480, lv, st, h) = lR (ld lv 1) fun x => aGo fu d (310, 1481, lv, x :: st, h) := (st_of (kmOf kt310 rfl : KM 310 1480 = some (.aload_n 1, 1, 0, 0, .null, none))).trans (RH_aload_n)
set_option maxRecDepth 100000 in
theorem s310_1481 {fu d : Nat} {lv : LV} {st : List Value} {h : AH} : aGo (fu + 1) d (310, 1481, lv, st, h) = lR (ld lv 0) fun x => aGo fu d (310, 1482, lv, x :: st, h) := (st_of (kmOf kt310 rfl : KM 310 1481 = some (.aload_n 0, 1, 0, 0, .null, none))).trans (RH_aload_n)
set_option maxRecDepth 100000 in
theorem s310_1482 {fu d : Nat} {lv : LV} {st : List Value} {h : AH} : aGo (fu + 1) d (310, 1482, lv, st, h) = lI (ld lv 4) fun x => aGo fu d (310, 1484, lv, .int x :: st, h) := (st_of (kmOf kt310 rfl : KM 310 1482 = some (.iload 4, 2, 0, 0, .null, none))).trans (RH_iload)
set_option maxRecDepth 100000 in
theorem s310_1484 {fu d : Nat} {lv : LV} {st : List Value} {h : AH} : aGo (fu + 1) d (310, 1484, lv, st, h) = aGo fu d (310, 1485, lv, (.int (1)) :: st, h) := (st_of (kmOf kt310 rfl : KM 310 1484 = some (.iconst 1, 1, 0, 0, (.int (1)), none))).trans (RH_iconst)
set_option maxRecDepth 100000 in
theorem s310_1485 {fu d : Nat} {lv : LV} {st : List Value} {h : AH} : aGo (fu + 1) d (310, 1485, lv, st, h) = pI st fun y st => pI st fun x st => aGo fu d (310, 1486, lv, .int (x + y) :: st, h) := (st_of (kmOf kt310 rfl : KM 310 1485 = some (.iadd, 1, 0, 0, .null, none))).trans (RH_iadd)
set_option maxRecDepth 100000 in
theorem s310_1486 {fu d : Nat} {lv : LV} {st : List Value} {h : AH} : aGo (fu + 1) d (310, 1486, lv, st, h) = pI st fun i st => pR st fun r st => hIld h r i fun x => aGo fu d (310, 1487, lv, .int x :: st, h) := (st_of (kmOf kt310 rfl : KM 310 1486 = some (.iaload, 1, 0, 0, .null, none))).trans (RH_iaload)
set_option maxRecDepth 100000 in
theorem s310_1487 {fu d : Nat} {lv : LV} {st : List Value} {h : AH} : aGo (fu + 1) d (310, 1487, lv, st, h) = lR (ld lv 0) fun x => aGo fu d (310, 1488, lv, x :: st, h) := (st_of (kmOf kt310 rfl : KM 310 1487 = some (.aload_n 0, 1, 0, 0, .null, none))).trans (RH_aload_n)
set_option maxRecDepth 100000 in
theorem s310_1488 {fu d : Nat} {lv : LV} {st : List Value} {h : AH} : aGo (fu + 1) d (310, 1488, lv, st, h) = lI (ld lv 4) fun x => aGo fu d (310, 1490, lv, .int x :: st, h) := (st_of (kmOf kt310 rfl : KM 310 1488 = some (.iload 4, 2, 0, 0, .null, none))).trans (RH_iload)
set_option maxRecDepth 100000 in
theorem s310_1490 {fu d : Nat} {lv : LV} {st : List Value} {h : AH} : aGo (fu + 1) d (310, 1490, lv, st, h) = aGo fu d (310, 1491, lv, (.int (2)) :: st, h) := (st_of (kmOf kt310 rfl : KM 310 1490 = some (.iconst 2, 1, 0, 0, (.int (2)), none))).trans (RH_iconst)
set_option maxRecDepth 100000 in
theorem s310_1491 {fu d : Nat} {lv : LV} {st : List Value} {h : AH} : aGo (fu + 1) d (310, 1491, lv, st, h) = pI st fun y st => pI st fun x st => aGo fu d (310, 1492, lv, .int (x + y) :: st, h) := (st_of (kmOf kt310 rfl : KM 310 1491 = some (.iadd, 1, 0, 0, .null, none))).trans (RH_iadd)
set_option maxRecDepth 100000 in
theorem s310_1492 {fu d : Nat} {lv : LV} {st : List Value} {h : AH} : aGo (fu + 1) d (310, 1492, lv, st, h) = pI st fun i st => pR st fun r st => hIld h r i fun x => aGo fu d (310, 1493, lv, .int x :: st, h) := (st_of (kmOf kt310 rfl : KM 310 1492 = some (.iaload, 1, 0, 0, .null, none))).trans (RH_iaload)
set_option maxRecDepth 100000 in
theorem s310_1493 {fu d : Nat} {lv : LV} {st : List Value} {h : AH} : aGo (fu + 1) d (310, 1493, lv, st, h) = ob (popN 3 st []) fun q => gT (isO h 11 q.1 = true ∧ q.2.length ≤ 12 ∧ (layA q.1).length ≤ MX 152) (ob (aCall d 152 q.1 h) (kont d 310 (1496) lv q.2)) := (st_of (kmOf kt310 rfl : KM 310 1493 = some (.invokevirtual 164, 3, 152, 3, (.retAddr 11), none))).trans (RH_invokevirtual (by decide))
set_option maxRecDepth 100000 in
theorem s310_1496 {fu d : Nat} {lv : LV} {st : List Value} {h : AH} : aGo (fu + 1) d (310, 1496, lv, st, h) = lR (ld lv 2) fun x => aGo fu d (310, 1497, lv, x :: st, h) := (st_of (kmOf kt310 rfl : KM 310 1496 = some (.aload_n 2, 1, 0, 0, .null, none))).trans (RH_aload_n)
set_option maxRecDepth 100000 in
theorem s310_1497 {fu d : Nat} {lv : LV} {st : List Value} {h : AH} : aGo (fu + 1) d (310, 1497, lv, st, h) = lR (ld lv 0) fun x => aGo fu d (310, 1498, lv, x :: st, h) := (st_of (kmOf kt310 rfl : KM 310 1497 = some (.aload_n 0, 1, 0, 0, .null, none))).trans (RH_aload_n)
set_option maxRecDepth 100000 in
theorem s310_1498 {fu d : Nat} {lv : LV} {st : List Value} {h : AH} : aGo (fu + 1) d (310, 1498, lv, st, h) = lI (ld lv 4) fun x => aGo fu d (310, 1500, lv, .int x :: st, h) := (st_of (kmOf kt310 rfl : KM 310 1498 = some (.iload 4, 2, 0, 0, .null, none))).trans (RH_iload)
set_option maxRecDepth 100000 in
theorem s310_1500 {fu d : Nat} {lv : LV} {st : List Value} {h : AH} : aGo (fu + 1) d (310, 1500, lv, st, h) = aGo fu d (310, 1501, lv, (.int (1)) :: st, h) := (st_of (kmOf kt310 rfl : KM 310 1500 = some (.iconst 1, 1, 0, 0, (.int (1)), none))).trans (RH_iconst)
set_option maxRecDepth 100000 in
theorem s310_1501 {fu d : Nat} {lv : LV} {st : List Value} {h : AH} : aGo (fu + 1) d (310, 1501, lv, st, h) = pI st fun y st => pI st fun x st => aGo fu d (310, 1502, lv, .int (x + y) :: st, h) := (st_of (kmOf kt310 rfl : KM 310 1501 = some (.iadd, 1, 0, 0, .null, none))).trans (RH_iadd)
set_option maxRecDepth 100000 in
theorem s310_1502 {fu d : Nat} {lv : LV} {st : List Value} {h : AH} : aGo (fu + 1) d (310, 1502, lv, st, h) = pI st fun i st => pR st fun r st => hIld h r i fun x => aGo fu d (310, 1503, lv, .int x :: st, h) := (st_of (kmOf kt310 rfl : KM 310 1502 = some (.iaload, 1, 0, 0, .null, none))).trans (RH_iaload)
set_option maxRecDepth 100000 in
theorem s310_1503 {fu d : Nat} {lv : LV} {st : List Value} {h : AH} : aGo (fu + 1) d (310, 1503, lv, st, h) = lR (ld lv 0) fun x => aGo fu d (310, 1504, lv, x :: st, h) := (st_of (kmOf kt310 rfl : KM 310 1503 = some (.aload_n 0, 1, 0, 0, .null, none))).trans (RH_aload_n)
set_option maxRecDepth 100000 in
theorem s310_1504 {fu d : Nat} {lv : LV} {st : List Value} {h : AH} : aGo (fu + 1) d (310, 1504, lv, st, h) = lI (ld lv 4) fun x => aGo fu d (310, 1506, lv, .int x :: st, h) := (st_of (kmOf kt310 rfl : KM 310 1504 = some (.iload 4, 2, 0, 0, .null, none))).trans (RH_iload)
set_option maxRecDepth 100000 in
theorem s310_1506 {fu d : Nat} {lv : LV} {st : List Value} {h : AH} : aGo (fu + 1) d (310, 1506, lv, st, h) = aGo fu d (310, 1507, lv, (.int (2)) :: st, h) := (st_of (kmOf kt310 rfl : KM 310 1506 = some (.iconst 2, 1, 0, 0, (.int (2)), none))).trans (RH_iconst)
set_option maxRecDepth 100000 in
theorem s310_1507 {fu d : Nat} {lv : LV} {st : List Value} {h : AH} : aGo (fu + 1) d (310, 1507, lv, st, h) = pI st fun y st => pI st fun x st => aGo fu d (310, 1508, lv, .int (x + y) :: st, h) := (st_of (kmOf kt310 rfl : KM 310 1507 = some (.iadd, 1, 0, 0, .null, none))).trans (RH_iadd)
set_option maxRecDepth 100000 in
theorem s310_1508 {fu d : Nat} {lv : LV} {st : List Value} {h : AH} : aGo (fu + 1) d (310, 1508, lv, st, h) = pI st fun i st => pR st fun r st => hIld h r i fun x => aGo fu d (310, 1509, lv, .int x :: st, h) := (st_of (kmOf kt310 rfl : KM 310 1508 = some (.iaload, 1, 0, 0, .null, none))).trans (RH_iaload)
set_option maxRecDepth 100000 in
theorem s310_1509 {fu d : Nat} {lv : LV} {st : List Value} {h : AH} : aGo (fu + 1) d (310, 1509, lv, st, h) = ob (popN 3 st []) fun q => gT (isO h 12 q.1 = true ∧ q.2.length ≤ 12 ∧ (layA q.1).length ≤ MX 272) (ob (aCall d 272 q.1 h) (kont d 310 (1512) lv q.2)) := (st_of (kmOf kt310 rfl : KM 310 1509 = some (.invokevirtual 167, 3, 272, 3, (.retAddr 12), none))).trans (RH_invokevirtual (by decide))
set_option maxRecDepth 100000 in
theorem s310_1512 {fu d : Nat} {lv : LV} {st : List Value} {h : AH} : aGo (fu + 1) d (310, 1512, lv, st, h) = pI st fun y st => pI st fun x st => if x = y then aGo fu d (310, 1995, lv, st, h) else aGo fu d (310, 1515, lv, st, h) := (st_of (kmOf kt310 rfl : KM 310 1512 = some (.if_icmp .eq 483, 3, 1995, 0, .null, none))).trans (RH_icmp_eq)
set_option maxRecDepth 100000 in
theorem s310_1515 {fu d : Nat} {lv : LV} {st : List Value} {h : AH} : aGo (fu + 1) d (310, 1515, lv, st, h) = aGo fu d (310, 1516, lv, (.int (0)) :: st, h) := (st_of (kmOf kt310 rfl : KM 310 1515 = some (.iconst 0, 1, 0, 0, (.int (0)), none))).trans (RH_iconst)
set_option maxRecDepth 100000 in
theorem s310_1516 {fu d : Nat} {lv : LV} {st : List Value} {h : AH} : aGo (fu + 1) d (310, 1516, lv, st, h) = match st with | [.int x] => gT ((1 = 1 → x = 0 ∨ x = 1) ∧ (1 = 2 → x.toInt8.toInt32 = x)) (some (some (.int x), h)) | _ => none := (st_of (kmOf kt310 rfl : KM 310 1516 = some (.ireturn, 1, 1, 0, .null, none))).trans (RH_ireturn)
set_option maxRecDepth 100000 in
theorem s310_1517 {fu d : Nat} {lv : LV} {st : List Value} {h : AH} : aGo (fu + 1) d (310, 1517, lv, st, h) = lR (ld lv 1) fun x => aGo fu d (310, 1518, lv, x :: st, h) := (st_of (kmOf kt310 rfl : KM 310 1517 = some (.aload_n 1, 1, 0, 0, .null, none))).trans (RH_aload_n)
set_option maxRecDepth 100000 in
theorem s310_1518 {fu d : Nat} {lv : LV} {st : List Value} {h : AH} : aGo (fu + 1) d (310, 1518, lv, st, h) = lR (ld lv 0) fun x => aGo fu d (310, 1519, lv, x :: st, h) := (st_of (kmOf kt310 rfl : KM 310 1518 = some (.aload_n 0, 1, 0, 0, .null, none))).trans (RH_aload_n)
set_option maxRecDepth 100000 in
theorem s310_1519 {fu d : Nat} {lv : LV} {st : List Value} {h : AH} : aGo (fu + 1) d (310, 1519, lv, st, h) = lI (ld lv 4) fun x => aGo fu d (310, 1521, lv, .int x :: st, h) := (st_of (kmOf kt310 rfl : KM 310 1519 = some (.iload 4, 2, 0, 0, .null, none))).trans (RH_iload)
set_option maxRecDepth 100000 in
theorem s310_1521 {fu d : Nat} {lv : LV} {st : List Value} {h : AH} : aGo (fu + 1) d (310, 1521, lv, st, h) = aGo fu d (310, 1522, lv, (.int (1)) :: st, h) := (st_of (kmOf kt310 rfl : KM 310 1521 = some (.iconst 1, 1, 0, 0, (.int (1)), none))).trans (RH_iconst)
set_option maxRecDepth 100000 in
theorem s310_1522 {fu d : Nat} {lv : LV} {st : List Value} {h : AH} : aGo (fu + 1) d (310, 1522, lv, st, h) = pI st fun y st => pI st fun x st => aGo fu d (310, 1523, lv, .int (x + y) :: st, h) := (st_of (kmOf kt310 rfl : KM 310 1522 = some (.iadd, 1, 0, 0, .null, none))).trans (RH_iadd)
set_option maxRecDepth 100000 in
theorem s310_1523 {fu d : Nat} {lv : LV} {st : List Value} {h : AH} : aGo (fu + 1) d (310, 1523, lv, st, h) = pI st fun i st => pR st fun r st => hIld h r i fun x => aGo fu d (310, 1524, lv, .int x :: st, h) := (st_of (kmOf kt310 rfl : KM 310 1523 = some (.iaload, 1, 0, 0, .null, none))).trans (RH_iaload)
set_option maxRecDepth 100000 in
theorem s310_1524 {fu d : Nat} {lv : LV} {st : List Value} {h : AH} : aGo (fu + 1) d (310, 1524, lv, st, h) = lR (ld lv 0) fun x => aGo fu d (310, 1525, lv, x :: st, h) := (st_of (kmOf kt310 rfl : KM 310 1524 = some (.aload_n 0, 1, 0, 0, .null, none))).trans (RH_aload_n)
set_option maxRecDepth 100000 in
theorem s310_1525 {fu d : Nat} {lv : LV} {st : List Value} {h : AH} : aGo (fu + 1) d (310, 1525, lv, st, h) = lI (ld lv 4) fun x => aGo fu d (310, 1527, lv, .int x :: st, h) := (st_of (kmOf kt310 rfl : KM 310 1525 = some (.iload 4, 2, 0, 0, .null, none))).trans (RH_iload)
set_option maxRecDepth 100000 in
theorem s310_1527 {fu d : Nat} {lv : LV} {st : List Value} {h : AH} : aGo (fu + 1) d (310, 1527, lv, st, h) = aGo fu d (310, 1528, lv, (.int (2)) :: st, h) := (st_of (kmOf kt310 rfl : KM 310 1527 = some (.iconst 2, 1, 0, 0, (.int (2)), none))).trans (RH_iconst)
set_option maxRecDepth 100000 in
theorem s310_1528 {fu d : Nat} {lv : LV} {st : List Value} {h : AH} : aGo (fu + 1) d (310, 1528, lv, st, h) = pI st fun y st => pI st fun x st => aGo fu d (310, 1529, lv, .int (x + y) :: st, h) := (st_of (kmOf kt310 rfl : KM 310 1528 = some (.iadd, 1, 0, 0, .null, none))).trans (RH_iadd)
set_option maxRecDepth 100000 in
theorem s310_1529 {fu d : Nat} {lv : LV} {st : List Value} {h : AH} : aGo (fu + 1) d (310, 1529, lv, st, h) = pI st fun i st => pR st fun r st => hIld h r i fun x => aGo fu d (310, 1530, lv, .int x :: st, h) := (st_of (kmOf kt310 rfl : KM 310 1529 = some (.iaload, 1, 0, 0, .null, none))).trans (RH_iaload)
set_option maxRecDepth 100000 in
theorem s310_1530 {fu d : Nat} {lv : LV} {st : List Value} {h : AH} : aGo (fu + 1) d (310, 1530, lv, st, h) = ob (popN 3 st []) fun q => gT (isO h 11 q.1 = true ∧ q.2.length ≤ 12 ∧ (layA q.1).length ≤ MX 153) (ob (aCall d 153 q.1 h) (kont d 310 (1533) lv q.2)) := (st_of (kmOf kt310 rfl : KM 310 1530 = some (.invokevirtual 168, 3, 153, 3, (.retAddr 11), none))).trans (RH_invokevirtual (by decide))
set_option maxRecDepth 100000 in
theorem s310_1533 {fu d : Nat} {lv : LV} {st : List Value} {h : AH} : aGo (fu + 1) d (310, 1533, lv, st, h) = lR (ld lv 2) fun x => aGo fu d (310, 1534, lv, x :: st, h) := (st_of (kmOf kt310 rfl : KM 310 1533 = some (.aload_n 2, 1, 0, 0, .null, none))).trans (RH_aload_n)
set_option maxRecDepth 100000 in
theorem s310_1534 {fu d : Nat} {lv : LV} {st : List Value} {h : AH} : aGo (fu + 1) d (310, 1534, lv, st, h) = lR (ld lv 0) fun x => aGo fu d (310, 1535, lv, x :: st, h) := (st_of (kmOf kt310 rfl : KM 310 1534 = some (.aload_n 0, 1, 0, 0, .null, none))).trans (RH_aload_n)
set_option maxRecDepth 100000 in
theorem s310_1535 {fu d : Nat} {lv : LV} {st : List Value} {h : AH} : aGo (fu + 1) d (310, 1535, lv, st, h) = lI (ld lv 4) fun x => aGo fu d (310, 1537, lv, .int x :: st, h) := (st_of (kmOf kt310 rfl : KM 310 1535 = some (.iload 4, 2, 0, 0, .null, none))).trans (RH_iload)
set_option maxRecDepth 100000 in
theorem s310_1537 {fu d : Nat} {lv : LV} {st : List Value} {h : AH} : aGo (fu + 1) d (310, 1537, lv, st, h) = aGo fu d (310, 1538, lv, (.int (1)) :: st, h) := (st_of (kmOf kt310 rfl : KM 310 1537 = some (.iconst 1, 1, 0, 0, (.int (1)), none))).trans (RH_iconst)
set_option maxRecDepth 100000 in
theorem s310_1538 {fu d : Nat} {lv : LV} {st : List Value} {h : AH} : aGo (fu + 1) d (310, 1538, lv, st, h) = pI st fun y st => pI st fun x st => aGo fu d (310, 1539, lv, .int (x + y) :: st, h) := (st_of (kmOf kt310 rfl : KM 310 1538 = some (.iadd, 1, 0, 0, .null, none))).trans (RH_iadd)
set_option maxRecDepth 100000 in
theorem s310_1539 {fu d : Nat} {lv : LV} {st : List Value} {h : AH} : aGo (fu + 1) d (310, 1539, lv, st, h) = pI st fun i st => pR st fun r st => hIld h r i fun x => aGo fu d (310, 1540, lv, .int x :: st, h) := (st_of (kmOf kt310 rfl : KM 310 1539 = some (.iaload, 1, 0, 0, .null, none))).trans (RH_iaload)
set_option maxRecDepth 100000 in
theorem s310_1540 {fu d : Nat} {lv : LV} {st : List Value} {h : AH} : aGo (fu + 1) d (310, 1540, lv, st, h) = lR (ld lv 0) fun x => aGo fu d (310, 1541, lv, x :: st, h) := (st_of (kmOf kt310 rfl : KM 310 1540 = some (.aload_n 0, 1, 0, 0, .null, none))).trans (RH_aload_n)
set_option maxRecDepth 100000 in
theorem s310_1541 {fu d : Nat} {lv : LV} {st : List Value} {h : AH} : aGo (fu + 1) d (310, 1541, lv, st, h) = lI (ld lv 4) fun x => aGo fu d (310, 1543, lv, .int x :: st, h) := (st_of (kmOf kt310 rfl : KM 310 1541 = some (.iload 4, 2, 0, 0, .null, none))).trans (RH_iload)
set_option maxRecDepth 100000 in
theorem s310_1543 {fu d : Nat} {lv : LV} {st : List Value} {h : AH} : aGo (fu + 1) d (310, 1543, lv, st, h) = aGo fu d (310, 1544, lv, (.int (2)) :: st, h) := (st_of (kmOf kt310 rfl : KM 310 1543 = some (.iconst 2, 1, 0, 0, (.int (2)), none))).trans (RH_iconst)
set_option maxRecDepth 100000 in
theorem s310_1544 {fu d : Nat} {lv : LV} {st : List Value} {h : AH} : aGo (fu + 1) d (310, 1544, lv, st, h) = pI st fun y st => pI st fun x st => aGo fu d (310, 1545, lv, .int (x + y) :: st, h) := (st_of (kmOf kt310 rfl : KM 310 1544 = some (.iadd, 1, 0, 0, .null, none))).trans (RH_iadd)
set_option maxRecDepth 100000 in
theorem s310_1545 {fu d : Nat} {lv : LV} {st : List Value} {h : AH} : aGo (fu + 1) d (310, 1545, lv, st, h) = pI st fun i st => pR st fun r st => hIld h r i fun x => aGo fu d (310, 1546, lv, .int x :: st, h) := (st_of (kmOf kt310 rfl : KM 310 1545 = some (.iaload, 1, 0, 0, .null, none))).trans (RH_iaload)
set_option maxRecDepth 100000 in
theorem s310_1546 {fu d : Nat} {lv : LV} {st : List Value} {h : AH} : aGo (fu + 1) d (310, 1546, lv, st, h) = ob (popN 3 st []) fun q => gT (isO h 12 q.1 = true ∧ q.2.length ≤ 12 ∧ (layA q.1).length ≤ MX 274) (ob (aCall d 274 q.1 h) (kont d 310 (1549) lv q.2)) := (st_of (kmOf kt310 rfl : KM 310 1546 = some (.invokevirtual 171, 3, 274, 3, (.retAddr 12), none))).trans (RH_invokevirtual (by decide))
set_option maxRecDepth 100000 in
theorem s310_1549 {fu d : Nat} {lv : LV} {st : List Value} {h : AH} : aGo (fu + 1) d (310, 1549, lv, st, h) = pI st fun y st => pI st fun x st => if x = y then aGo fu d (310, 1995, lv, st, h) else aGo fu d (310, 1552, lv, st, h) := (st_of (kmOf kt310 rfl : KM 310 1549 = some (.if_icmp .eq 446, 3, 1995, 0, .null, none))).trans (RH_icmp_eq)
set_option maxRecDepth 100000 in
theorem s310_1552 {fu d : Nat} {lv : LV} {st : List Value} {h : AH} : aGo (fu + 1) d (310, 1552, lv, st, h) = aGo fu d (310, 1553, lv, (.int (0)) :: st, h) := (st_of (kmOf kt310 rfl : KM 310 1552 = some (.iconst 0, 1, 0, 0, (.int (0)), none))).trans (RH_iconst)
set_option maxRecDepth 100000 in
theorem s310_1553 {fu d : Nat} {lv : LV} {st : List Value} {h : AH} : aGo (fu + 1) d (310, 1553, lv, st, h) = match st with | [.int x] => gT ((1 = 1 → x = 0 ∨ x = 1) ∧ (1 = 2 → x.toInt8.toInt32 = x)) (some (some (.int x), h)) | _ => none := (st_of (kmOf kt310 rfl : KM 310 1553 = some (.ireturn, 1, 1, 0, .null, none))).trans (RH_ireturn)
set_option maxRecDepth 100000 in
theorem s310_1554 {fu d : Nat} {lv : LV} {st : List Value} {h : AH} : aGo (fu + 1) d (310, 1554, lv, st, h) = lR (ld lv 1) fun x => aGo fu d (310, 1555, lv, x :: st, h) := (st_of (kmOf kt310 rfl : KM 310 1554 = some (.aload_n 1, 1, 0, 0, .null, none))).trans (RH_aload_n)
set_option maxRecDepth 100000 in
theorem s310_1555 {fu d : Nat} {lv : LV} {st : List Value} {h : AH} : aGo (fu + 1) d (310, 1555, lv, st, h) = lR (ld lv 0) fun x => aGo fu d (310, 1556, lv, x :: st, h) := (st_of (kmOf kt310 rfl : KM 310 1555 = some (.aload_n 0, 1, 0, 0, .null, none))).trans (RH_aload_n)
set_option maxRecDepth 100000 in
theorem s310_1556 {fu d : Nat} {lv : LV} {st : List Value} {h : AH} : aGo (fu + 1) d (310, 1556, lv, st, h) = lI (ld lv 4) fun x => aGo fu d (310, 1558, lv, .int x :: st, h) := (st_of (kmOf kt310 rfl : KM 310 1556 = some (.iload 4, 2, 0, 0, .null, none))).trans (RH_iload)
set_option maxRecDepth 100000 in
theorem s310_1558 {fu d : Nat} {lv : LV} {st : List Value} {h : AH} : aGo (fu + 1) d (310, 1558, lv, st, h) = aGo fu d (310, 1559, lv, (.int (1)) :: st, h) := (st_of (kmOf kt310 rfl : KM 310 1558 = some (.iconst 1, 1, 0, 0, (.int (1)), none))).trans (RH_iconst)
set_option maxRecDepth 100000 in
theorem s310_1559 {fu d : Nat} {lv : LV} {st : List Value} {h : AH} : aGo (fu + 1) d (310, 1559, lv, st, h) = pI st fun y st => pI st fun x st => aGo fu d (310, 1560, lv, .int (x + y) :: st, h) := (st_of (kmOf kt310 rfl : KM 310 1559 = some (.iadd, 1, 0, 0, .null, none))).trans (RH_iadd)
set_option maxRecDepth 100000 in
theorem s310_1560 {fu d : Nat} {lv : LV} {st : List Value} {h : AH} : aGo (fu + 1) d (310, 1560, lv, st, h) = pI st fun i st => pR st fun r st => hIld h r i fun x => aGo fu d (310, 1561, lv, .int x :: st, h) := (st_of (kmOf kt310 rfl : KM 310 1560 = some (.iaload, 1, 0, 0, .null, none))).trans (RH_iaload)
set_option maxRecDepth 100000 in
theorem s310_1561 {fu d : Nat} {lv : LV} {st : List Value} {h : AH} : aGo (fu + 1) d (310, 1561, lv, st, h) = lR (ld lv 0) fun x => aGo fu d (310, 1562, lv, x :: st, h) := (st_of (kmOf kt310 rfl : KM 310 1561 = some (.aload_n 0, 1, 0, 0, .null, none))).trans (RH_aload_n)
set_option maxRecDepth 100000 in
theorem s310_1562 {fu d : Nat} {lv : LV} {st : List Value} {h : AH} : aGo (fu + 1) d (310, 1562, lv, st, h) = lI (ld lv 4) fun x => aGo fu d (310, 1564, lv, .int x :: st, h) := (st_of (kmOf kt310 rfl : KM 310 1562 = some (.iload 4, 2, 0, 0, .null, none))).trans (RH_iload)
set_option maxRecDepth 100000 in
theorem s310_1564 {fu d : Nat} {lv : LV} {st : List Value} {h : AH} : aGo (fu + 1) d (310, 1564, lv, st, h) = aGo fu d (310, 1565, lv, (.int (2)) :: st, h) := (st_of (kmOf kt310 rfl : KM 310 1564 = some (.iconst 2, 1, 0, 0, (.int (2)), none))).trans (RH_iconst)
set_option maxRecDepth 100000 in
theorem s310_1565 {fu d : Nat} {lv : LV} {st : List Value} {h : AH} : aGo (fu + 1) d (310, 1565, lv, st, h) = pI st fun y st => pI st fun x st => aGo fu d (310, 1566, lv, .int (x + y) :: st, h) := (st_of (kmOf kt310 rfl : KM 310 1565 = some (.iadd, 1, 0, 0, .null, none))).trans (RH_iadd)
set_option maxRecDepth 100000 in
theorem s310_1566 {fu d : Nat} {lv : LV} {st : List Value} {h : AH} : aGo (fu + 1) d (310, 1566, lv, st, h) = pI st fun i st => pR st fun r st => hIld h r i fun x => aGo fu d (310, 1567, lv, .int x :: st, h) := (st_of (kmOf kt310 rfl : KM 310 1566 = some (.iaload, 1, 0, 0, .null, none))).trans (RH_iaload)
set_option maxRecDepth 100000 in
theorem s310_1567 {fu d : Nat} {lv : LV} {st : List Value} {h : AH} : aGo (fu + 1) d (310, 1567, lv, st, h) = ob (popN 3 st []) fun q => gT (isO h 11 q.1 = true ∧ q.2.length ≤ 12 ∧ (layA q.1).length ≤ MX 154) (ob (aCall d 154 q.1 h) (kont d 310 (1570) lv q.2)) := (st_of (kmOf kt310 rfl : KM 310 1567 = some (.invokevirtual 172, 3, 154, 3, (.retAddr 11), none))).trans (RH_invokevirtual (by decide))
set_option maxRecDepth 100000 in
theorem s310_1570 {fu d : Nat} {lv : LV} {st : List Value} {h : AH} : aGo (fu + 1) d (310, 1570, lv, st, h) = lR (ld lv 2) fun x => aGo fu d (310, 1571, lv, x :: st, h) := (st_of (kmOf kt310 rfl : KM 310 1570 = some (.aload_n 2, 1, 0, 0, .null, none))).trans (RH_aload_n)
set_option maxRecDepth 100000 in
theorem s310_1571 {fu d : Nat} {lv : LV} {st : List Value} {h : AH} : aGo (fu + 1) d (310, 1571, lv, st, h) = lR (ld lv 0) fun x => aGo fu d (310, 1572, lv, x :: st, h) := (st_of (kmOf kt310 rfl : KM 310 1571 = some (.aload_n 0, 1, 0, 0, .null, none))).trans (RH_aload_n)
set_option maxRecDepth 100000 in
theorem s310_1572 {fu d : Nat} {lv : LV} {st : List Value} {h : AH} : aGo (fu + 1) d (310, 1572, lv, st, h) = lI (ld lv 4) fun x => aGo fu d (310, 1574, lv, .int x :: st, h) := (st_of (kmOf kt310 rfl : KM 310 1572 = some (.iload 4, 2, 0, 0, .null, none))).trans (RH_iload)
set_option maxRecDepth 100000 in
theorem s310_1574 {fu d : Nat} {lv : LV} {st : List Value} {h : AH} : aGo (fu + 1) d (310, 1574, lv, st, h) = aGo fu d (310, 1575, lv, (.int (1)) :: st, h) := (st_of (kmOf kt310 rfl : KM 310 1574 = some (.iconst 1, 1, 0, 0, (.int (1)), none))).trans (RH_iconst)
set_option maxRecDepth 100000 in
theorem s310_1575 {fu d : Nat} {lv : LV} {st : List Value} {h : AH} : aGo (fu + 1) d (310, 1575, lv, st, h) = pI st fun y st => pI st fun x st => aGo fu d (310, 1576, lv, .int (x + y) :: st, h) := (st_of (kmOf kt310 rfl : KM 310 1575 = some (.iadd, 1, 0, 0, .null, none))).trans (RH_iadd)
set_option maxRecDepth 100000 in
theorem s310_1576 {fu d : Nat} {lv : LV} {st : List Value} {h : AH} : aGo (fu + 1) d (310, 1576, lv, st, h) = pI st fun i st => pR st fun r st => hIld h r i fun x => aGo fu d (310, 1577, lv, .int x :: st, h) := (st_of (kmOf kt310 rfl : KM 310 1576 = some (.iaload, 1, 0, 0, .null, none))).trans (RH_iaload)
set_option maxRecDepth 100000 in
theorem s310_1577 {fu d : Nat} {lv : LV} {st : List Value} {h : AH} : aGo (fu + 1) d (310, 1577, lv, st, h) = lR (ld lv 0) fun x => aGo fu d (310, 1578, lv, x :: st, h) := (st_of (kmOf kt310 rfl : KM 310 1577 = some (.aload_n 0, 1, 0, 0, .null, none))).trans (RH_aload_n)
set_option maxRecDepth 100000 in
theorem s310_1578 {fu d : Nat} {lv : LV} {st : List Value} {h : AH} : aGo (fu + 1) d (310, 1578, lv, st, h) = lI (ld lv 4) fun x => aGo fu d (310, 1580, lv, .int x :: st, h) := (st_of (kmOf kt310 rfl : KM 310 1578 = some (.iload 4, 2, 0, 0, .null, none))).trans (RH_iload)
set_option maxRecDepth 100000 in
theorem s310_1580 {fu d : Nat} {lv : LV} {st : List Value} {h : AH} : aGo (fu + 1) d (310, 1580, lv, st, h) = aGo fu d (310, 1581, lv, (.int (2)) :: st, h) := (st_of (kmOf kt310 rfl : KM 310 1580 = some (.iconst 2, 1, 0, 0, (.int (2)), none))).trans (RH_iconst)
set_option maxRecDepth 100000 in
theorem s310_1581 {fu d : Nat} {lv : LV} {st : List Value} {h : AH} : aGo (fu + 1) d (310, 1581, lv, st, h) = pI st fun y st => pI st fun x st => aGo fu d (310, 1582, lv, .int (x + y) :: st, h) := (st_of (kmOf kt310 rfl : KM 310 1581 = some (.iadd, 1, 0, 0, .null, none))).trans (RH_iadd)
set_option maxRecDepth 100000 in
theorem s310_1582 {fu d : Nat} {lv : LV} {st : List Value} {h : AH} : aGo (fu + 1) d (310, 1582, lv, st, h) = pI st fun i st => pR st fun r st => hIld h r i fun x => aGo fu d (310, 1583, lv, .int x :: st, h) := (st_of (kmOf kt310 rfl : KM 310 1582 = some (.iaload, 1, 0, 0, .null, none))).trans (RH_iaload)
set_option maxRecDepth 100000 in
theorem s310_1583 {fu d : Nat} {lv : LV} {st : List Value} {h : AH} : aGo (fu + 1) d (310, 1583, lv, st, h) = ob (popN 3 st []) fun q => gT (isO h 12 q.1 = true ∧ q.2.length ≤ 12 ∧ (layA q.1).length ≤ MX 277) (ob (aCall d 277 q.1 h) (kont d 310 (1586) lv q.2)) := (st_of (kmOf kt310 rfl : KM 310 1583 = some (.invokevirtual 175, 3, 277, 3, (.retAddr 12), none))).trans (RH_invokevirtual (by decide))
set_option maxRecDepth 100000 in
theorem s310_1586 {fu d : Nat} {lv : LV} {st : List Value} {h : AH} : aGo (fu + 1) d (310, 1586, lv, st, h) = pI st fun y st => pI st fun x st => if x = y then aGo fu d (310, 1995, lv, st, h) else aGo fu d (310, 1589, lv, st, h) := (st_of (kmOf kt310 rfl : KM 310 1586 = some (.if_icmp .eq 409, 3, 1995, 0, .null, none))).trans (RH_icmp_eq)
set_option maxRecDepth 100000 in
theorem s310_1589 {fu d : Nat} {lv : LV} {st : List Value} {h : AH} : aGo (fu + 1) d (310, 1589, lv, st, h) = aGo fu d (310, 1590, lv, (.int (0)) :: st, h) := (st_of (kmOf kt310 rfl : KM 310 1589 = some (.iconst 0, 1, 0, 0, (.int (0)), none))).trans (RH_iconst)
set_option maxRecDepth 100000 in
theorem s310_1590 {fu d : Nat} {lv : LV} {st : List Value} {h : AH} : aGo (fu + 1) d (310, 1590, lv, st, h) = match st with | [.int x] => gT ((1 = 1 → x = 0 ∨ x = 1) ∧ (1 = 2 → x.toInt8.toInt32 = x)) (some (some (.int x), h)) | _ => none := (st_of (kmOf kt310 rfl : KM 310 1590 = some (.ireturn, 1, 1, 0, .null, none))).trans (RH_ireturn)
set_option maxRecDepth 100000 in
theorem s310_1591 {fu d : Nat} {lv : LV} {st : List Value} {h : AH} : aGo (fu + 1) d (310, 1591, lv, st, h) = lR (ld lv 1) fun x => aGo fu d (310, 1592, lv, x :: st, h) := (st_of (kmOf kt310 rfl : KM 310 1591 = some (.aload_n 1, 1, 0, 0, .null, none))).trans (RH_aload_n)
set_option maxRecDepth 100000 in
theorem s310_1592 {fu d : Nat} {lv : LV} {st : List Value} {h : AH} : aGo (fu + 1) d (310, 1592, lv, st, h) = lR (ld lv 0) fun x => aGo fu d (310, 1593, lv, x :: st, h) := (st_of (kmOf kt310 rfl : KM 310 1592 = some (.aload_n 0, 1, 0, 0, .null, none))).trans (RH_aload_n)
set_option maxRecDepth 100000 in
theorem s310_1593 {fu d : Nat} {lv : LV} {st : List Value} {h : AH} : aGo (fu + 1) d (310, 1593, lv, st, h) = lI (ld lv 4) fun x => aGo fu d (310, 1595, lv, .int x :: st, h) := (st_of (kmOf kt310 rfl : KM 310 1593 = some (.iload 4, 2, 0, 0, .null, none))).trans (RH_iload)
set_option maxRecDepth 100000 in
theorem s310_1595 {fu d : Nat} {lv : LV} {st : List Value} {h : AH} : aGo (fu + 1) d (310, 1595, lv, st, h) = aGo fu d (310, 1596, lv, (.int (1)) :: st, h) := (st_of (kmOf kt310 rfl : KM 310 1595 = some (.iconst 1, 1, 0, 0, (.int (1)), none))).trans (RH_iconst)
set_option maxRecDepth 100000 in
theorem s310_1596 {fu d : Nat} {lv : LV} {st : List Value} {h : AH} : aGo (fu + 1) d (310, 1596, lv, st, h) = pI st fun y st => pI st fun x st => aGo fu d (310, 1597, lv, .int (x + y) :: st, h) := (st_of (kmOf kt310 rfl : KM 310 1596 = some (.iadd, 1, 0, 0, .null, none))).trans (RH_iadd)
set_option maxRecDepth 100000 in
theorem s310_1597 {fu d : Nat} {lv : LV} {st : List Value} {h : AH} : aGo (fu + 1) d (310, 1597, lv, st, h) = pI st fun i st => pR st fun r st => hIld h r i fun x => aGo fu d (310, 1598, lv, .int x :: st, h) := (st_of (kmOf kt310 rfl : KM 310 1597 = some (.iaload, 1, 0, 0, .null, none))).trans (RH_iaload)
set_option maxRecDepth 100000 in
theorem s310_1598 {fu d : Nat} {lv : LV} {st : List Value} {h : AH} : aGo (fu + 1) d (310, 1598, lv, st, h) = lR (ld lv 0) fun x => aGo fu d (310, 1599, lv, x :: st, h) := (st_of (kmOf kt310 rfl : KM 310 1598 = some (.aload_n 0, 1, 0, 0, .null, none))).trans (RH_aload_n)
set_option maxRecDepth 100000 in
theorem s310_1599 {fu d : Nat} {lv : LV} {st : List Value} {h : AH} : aGo (fu + 1) d (310, 1599, lv, st, h) = lI (ld lv 4) fun x => aGo fu d (310, 1601, lv, .int x :: st, h) := (st_of (kmOf kt310 rfl : KM 310 1599 = some (.iload 4, 2, 0, 0, .null, none))).trans (RH_iload)
set_option maxRecDepth 100000 in
theorem s310_1601 {fu d : Nat} {lv : LV} {st : List Value} {h : AH} : aGo (fu + 1) d (310, 1601, lv, st, h) = aGo fu d (310, 1602, lv, (.int (2)) :: st, h) := (st_of (kmOf kt310 rfl : KM 310 1601 = some (.iconst 2, 1, 0, 0, (.int (2)), none))).trans (RH_iconst)
set_option maxRecDepth 100000 in
theorem s310_1602 {fu d : Nat} {lv : LV} {st : List Value} {h : AH} : aGo (fu + 1) d (310, 1602, lv, st, h) = pI st fun y st => pI st fun x st => aGo fu d (310, 1603, lv, .int (x + y) :: st, h) := (st_of (kmOf kt310 rfl : KM 310 1602 = some (.iadd, 1, 0, 0, .null, none))).trans (RH_iadd)
set_option maxRecDepth 100000 in
theorem s310_1603 {fu d : Nat} {lv : LV} {st : List Value} {h : AH} : aGo (fu + 1) d (310, 1603, lv, st, h) = pI st fun i st => pR st fun r st => hIld h r i fun x => aGo fu d (310, 1604, lv, .int x :: st, h) := (st_of (kmOf kt310 rfl : KM 310 1603 = some (.iaload, 1, 0, 0, .null, none))).trans (RH_iaload)
set_option maxRecDepth 100000 in
theorem s310_1604 {fu d : Nat} {lv : LV} {st : List Value} {h : AH} : aGo (fu + 1) d (310, 1604, lv, st, h) = ob (popN 3 st []) fun q => gT (isO h 11 q.1 = true ∧ q.2.length ≤ 12 ∧ (layA q.1).length ≤ MX 155) (ob (aCall d 155 q.1 h) (kont d 310 (1607) lv q.2)) := (st_of (kmOf kt310 rfl : KM 310 1604 = some (.invokevirtual 176, 3, 155, 3, (.retAddr 11), none))).trans (RH_invokevirtual (by decide))
set_option maxRecDepth 100000 in
theorem s310_1607 {fu d : Nat} {lv : LV} {st : List Value} {h : AH} : aGo (fu + 1) d (310, 1607, lv, st, h) = lR (ld lv 2) fun x => aGo fu d (310, 1608, lv, x :: st, h) := (st_of (kmOf kt310 rfl : KM 310 1607 = some (.aload_n 2, 1, 0, 0, .null, none))).trans (RH_aload_n)
set_option maxRecDepth 100000 in
theorem s310_1608 {fu d : Nat} {lv : LV} {st : List Value} {h : AH} : aGo (fu + 1) d (310, 1608, lv, st, h) = lR (ld lv 0) fun x => aGo fu d (310, 1609, lv, x :: st, h) := (st_of (kmOf kt310 rfl : KM 310 1608 = some (.aload_n 0, 1, 0, 0, .null, none))).trans (RH_aload_n)
set_option maxRecDepth 100000 in
theorem s310_1609 {fu d : Nat} {lv : LV} {st : List Value} {h : AH} : aGo (fu + 1) d (310, 1609, lv, st, h) = lI (ld lv 4) fun x => aGo fu d (310, 1611, lv, .int x :: st, h) := (st_of (kmOf kt310 rfl : KM 310 1609 = some (.iload 4, 2, 0, 0, .null, none))).trans (RH_iload)
set_option maxRecDepth 100000 in
theorem s310_1611 {fu d : Nat} {lv : LV} {st : List Value} {h : AH} : aGo (fu + 1) d (310, 1611, lv, st, h) = aGo fu d (310, 1612, lv, (.int (1)) :: st, h) := (st_of (kmOf kt310 rfl : KM 310 1611 = some (.iconst 1, 1, 0, 0, (.int (1)), none))).trans (RH_iconst)
set_option maxRecDepth 100000 in
theorem s310_1612 {fu d : Nat} {lv : LV} {st : List Value} {h : AH} : aGo (fu + 1) d (310, 1612, lv, st, h) = pI st fun y st => pI st fun x st => aGo fu d (310, 1613, lv, .int (x + y) :: st, h) := (st_of (kmOf kt310 rfl : KM 310 1612 = some (.iadd, 1, 0, 0, .null, none))).trans (RH_iadd)
set_option maxRecDepth 100000 in
theorem s310_1613 {fu d : Nat} {lv : LV} {st : List Value} {h : AH} : aGo (fu + 1) d (310, 1613, lv, st, h) = pI st fun i st => pR st fun r st => hIld h r i fun x => aGo fu d (310, 1614, lv, .int x :: st, h) := (st_of (kmOf kt310 rfl : KM 310 1613 = some (.iaload, 1, 0, 0, .null, none))).trans (RH_iaload)
set_option maxRecDepth 100000 in
theorem s310_1614 {fu d : Nat} {lv : LV} {st : List Value} {h : AH} : aGo (fu + 1) d (310, 1614, lv, st, h) = lR (ld lv 0) fun x => aGo fu d (310, 1615, lv, x :: st, h) := (st_of (kmOf kt310 rfl : KM 310 1614 = some (.aload_n 0, 1, 0, 0, .null, none))).trans (RH_aload_n)
set_option maxRecDepth 100000 in
theorem s310_1615 {fu d : Nat} {lv : LV} {st : List Value} {h : AH} : aGo (fu + 1) d (310, 1615, lv, st, h) = lI (ld lv 4) fun x => aGo fu d (310, 1617, lv, .int x :: st, h) := (st_of (kmOf kt310 rfl : KM 310 1615 = some (.iload 4, 2, 0, 0, .null, none))).trans (RH_iload)
set_option maxRecDepth 100000 in
theorem s310_1617 {fu d : Nat} {lv : LV} {st : List Value} {h : AH} : aGo (fu + 1) d (310, 1617, lv, st, h) = aGo fu d (310, 1618, lv, (.int (2)) :: st, h) := (st_of (kmOf kt310 rfl : KM 310 1617 = some (.iconst 2, 1, 0, 0, (.int (2)), none))).trans (RH_iconst)
set_option maxRecDepth 100000 in
theorem s310_1618 {fu d : Nat} {lv : LV} {st : List Value} {h : AH} : aGo (fu + 1) d (310, 1618, lv, st, h) = pI st fun y st => pI st fun x st => aGo fu d (310, 1619, lv, .int (x + y) :: st, h) := (st_of (kmOf kt310 rfl : KM 310 1618 = some (.iadd, 1, 0, 0, .null, none))).trans (RH_iadd)
set_option maxRecDepth 100000 in
theorem s310_1619 {fu d : Nat} {lv : LV} {st : List Value} {h : AH} : aGo (fu + 1) d (310, 1619, lv, st, h) = pI st fun i st => pR st fun r st => hIld h r i fun x => aGo fu d (310, 1620, lv, .int x :: st, h) := (st_of (kmOf kt310 rfl : KM 310 1619 = some (.iaload, 1, 0, 0, .null, none))).trans (RH_iaload)
set_option maxRecDepth 100000 in
theorem s310_1620 {fu d : Nat} {lv : LV} {st : List Value} {h : AH} : aGo (fu + 1) d (310, 1620, lv, st, h) = ob (popN 3 st []) fun q => gT (isO h 12 q.1 = true ∧ q.2.length ≤ 12 ∧ (layA q.1).length ≤ MX 278) (ob (aCall d 278 q.1 h) (kont d 310 (1623) lv q.2)) := (st_of (kmOf kt310 rfl : KM 310 1620 = some (.invokevirtual 180, 3, 278, 3, (.retAddr 12), none))).trans (RH_invokevirtual (by decide))
set_option maxRecDepth 100000 in
theorem s310_1623 {fu d : Nat} {lv : LV} {st : List Value} {h : AH} : aGo (fu + 1) d (310, 1623, lv, st, h) = pJ st fun y st => pJ st fun x st => aGo fu d (310, 1624, lv, .int (lg_cmp x y) :: st, h) := (st_of (kmOf kt310 rfl : KM 310 1623 = some (.lcmp, 1, 0, 0, .null, none))).trans (RH_lcmp)
set_option maxRecDepth 100000 in
theorem s310_1624 {fu d : Nat} {lv : LV} {st : List Value} {h : AH} : aGo (fu + 1) d (310, 1624, lv, st, h) = pI st fun x st => if x = 0 then aGo fu d (310, 1995, lv, st, h) else aGo fu d (310, 1627, lv, st, h) := (st_of (kmOf kt310 rfl : KM 310 1624 = some (.ifCond .eq 371, 3, 1995, 0, .null, none))).trans (RH_if_eq)
set_option maxRecDepth 100000 in
theorem s310_1627 {fu d : Nat} {lv : LV} {st : List Value} {h : AH} : aGo (fu + 1) d (310, 1627, lv, st, h) = aGo fu d (310, 1628, lv, (.int (0)) :: st, h) := (st_of (kmOf kt310 rfl : KM 310 1627 = some (.iconst 0, 1, 0, 0, (.int (0)), none))).trans (RH_iconst)
set_option maxRecDepth 100000 in
theorem s310_1628 {fu d : Nat} {lv : LV} {st : List Value} {h : AH} : aGo (fu + 1) d (310, 1628, lv, st, h) = match st with | [.int x] => gT ((1 = 1 → x = 0 ∨ x = 1) ∧ (1 = 2 → x.toInt8.toInt32 = x)) (some (some (.int x), h)) | _ => none := (st_of (kmOf kt310 rfl : KM 310 1628 = some (.ireturn, 1, 1, 0, .null, none))).trans (RH_ireturn)
set_option maxRecDepth 100000 in
theorem s310_1629 {fu d : Nat} {lv : LV} {st : List Value} {h : AH} : aGo (fu + 1) d (310, 1629, lv, st, h) = lR (ld lv 1) fun x => aGo fu d (310, 1630, lv, x :: st, h) := (st_of (kmOf kt310 rfl : KM 310 1629 = some (.aload_n 1, 1, 0, 0, .null, none))).trans (RH_aload_n)
set_option maxRecDepth 100000 in
theorem s310_1630 {fu d : Nat} {lv : LV} {st : List Value} {h : AH} : aGo (fu + 1) d (310, 1630, lv, st, h) = lR (ld lv 0) fun x => aGo fu d (310, 1631, lv, x :: st, h) := (st_of (kmOf kt310 rfl : KM 310 1630 = some (.aload_n 0, 1, 0, 0, .null, none))).trans (RH_aload_n)
set_option maxRecDepth 100000 in
theorem s310_1631 {fu d : Nat} {lv : LV} {st : List Value} {h : AH} : aGo (fu + 1) d (310, 1631, lv, st, h) = lI (ld lv 4) fun x => aGo fu d (310, 1633, lv, .int x :: st, h) := (st_of (kmOf kt310 rfl : KM 310 1631 = some (.iload 4, 2, 0, 0, .null, none))).trans (RH_iload)
set_option maxRecDepth 100000 in
theorem s310_1633 {fu d : Nat} {lv : LV} {st : List Value} {h : AH} : aGo (fu + 1) d (310, 1633, lv, st, h) = aGo fu d (310, 1634, lv, (.int (1)) :: st, h) := (st_of (kmOf kt310 rfl : KM 310 1633 = some (.iconst 1, 1, 0, 0, (.int (1)), none))).trans (RH_iconst)
set_option maxRecDepth 100000 in
theorem s310_1634 {fu d : Nat} {lv : LV} {st : List Value} {h : AH} : aGo (fu + 1) d (310, 1634, lv, st, h) = pI st fun y st => pI st fun x st => aGo fu d (310, 1635, lv, .int (x + y) :: st, h) := (st_of (kmOf kt310 rfl : KM 310 1634 = some (.iadd, 1, 0, 0, .null, none))).trans (RH_iadd)
set_option maxRecDepth 100000 in
theorem s310_1635 {fu d : Nat} {lv : LV} {st : List Value} {h : AH} : aGo (fu + 1) d (310, 1635, lv, st, h) = pI st fun i st => pR st fun r st => hIld h r i fun x => aGo fu d (310, 1636, lv, .int x :: st, h) := (st_of (kmOf kt310 rfl : KM 310 1635 = some (.iaload, 1, 0, 0, .null, none))).trans (RH_iaload)
set_option maxRecDepth 100000 in
theorem s310_1636 {fu d : Nat} {lv : LV} {st : List Value} {h : AH} : aGo (fu + 1) d (310, 1636, lv, st, h) = lR (ld lv 0) fun x => aGo fu d (310, 1637, lv, x :: st, h) := (st_of (kmOf kt310 rfl : KM 310 1636 = some (.aload_n 0, 1, 0, 0, .null, none))).trans (RH_aload_n)
set_option maxRecDepth 100000 in
theorem s310_1637 {fu d : Nat} {lv : LV} {st : List Value} {h : AH} : aGo (fu + 1) d (310, 1637, lv, st, h) = lI (ld lv 4) fun x => aGo fu d (310, 1639, lv, .int x :: st, h) := (st_of (kmOf kt310 rfl : KM 310 1637 = some (.iload 4, 2, 0, 0, .null, none))).trans (RH_iload)
set_option maxRecDepth 100000 in
theorem s310_1639 {fu d : Nat} {lv : LV} {st : List Value} {h : AH} : aGo (fu + 1) d (310, 1639, lv, st, h) = aGo fu d (310, 1640, lv, (.int (2)) :: st, h) := (st_of (kmOf kt310 rfl : KM 310 1639 = some (.iconst 2, 1, 0, 0, (.int (2)), none))).trans (RH_iconst)
set_option maxRecDepth 100000 in
theorem s310_1640 {fu d : Nat} {lv : LV} {st : List Value} {h : AH} : aGo (fu + 1) d (310, 1640, lv, st, h) = pI st fun y st => pI st fun x st => aGo fu d (310, 1641, lv, .int (x + y) :: st, h) := (st_of (kmOf kt310 rfl : KM 310 1640 = some (.iadd, 1, 0, 0, .null, none))).trans (RH_iadd)
set_option maxRecDepth 100000 in
theorem s310_1641 {fu d : Nat} {lv : LV} {st : List Value} {h : AH} : aGo (fu + 1) d (310, 1641, lv, st, h) = pI st fun i st => pR st fun r st => hIld h r i fun x => aGo fu d (310, 1642, lv, .int x :: st, h) := (st_of (kmOf kt310 rfl : KM 310 1641 = some (.iaload, 1, 0, 0, .null, none))).trans (RH_iaload)
set_option maxRecDepth 100000 in
theorem s310_1642 {fu d : Nat} {lv : LV} {st : List Value} {h : AH} : aGo (fu + 1) d (310, 1642, lv, st, h) = ob (popN 3 st []) fun q => gT (isO h 11 q.1 = true ∧ q.2.length ≤ 12 ∧ (layA q.1).length ≤ MX 156) (ob (aCall d 156 q.1 h) (kont d 310 (1645) lv q.2)) := (st_of (kmOf kt310 rfl : KM 310 1642 = some (.invokevirtual 181, 3, 156, 3, (.retAddr 11), none))).trans (RH_invokevirtual (by decide))
set_option maxRecDepth 100000 in
theorem s310_1645 {fu d : Nat} {lv : LV} {st : List Value} {h : AH} : aGo (fu + 1) d (310, 1645, lv, st, h) = lR (ld lv 2) fun x => aGo fu d (310, 1646, lv, x :: st, h) := (st_of (kmOf kt310 rfl : KM 310 1645 = some (.aload_n 2, 1, 0, 0, .null, none))).trans (RH_aload_n)
set_option maxRecDepth 100000 in
theorem s310_1646 {fu d : Nat} {lv : LV} {st : List Value} {h : AH} : aGo (fu + 1) d (310, 1646, lv, st, h) = lR (ld lv 0) fun x => aGo fu d (310, 1647, lv, x :: st, h) := (st_of (kmOf kt310 rfl : KM 310 1646 = some (.aload_n 0, 1, 0, 0, .null, none))).trans (RH_aload_n)
set_option maxRecDepth 100000 in
theorem s310_1647 {fu d : Nat} {lv : LV} {st : List Value} {h : AH} : aGo (fu + 1) d (310, 1647, lv, st, h) = lI (ld lv 4) fun x => aGo fu d (310, 1649, lv, .int x :: st, h) := (st_of (kmOf kt310 rfl : KM 310 1647 = some (.iload 4, 2, 0, 0, .null, none))).trans (RH_iload)
set_option maxRecDepth 100000 in
theorem s310_1649 {fu d : Nat} {lv : LV} {st : List Value} {h : AH} : aGo (fu + 1) d (310, 1649, lv, st, h) = aGo fu d (310, 1650, lv, (.int (1)) :: st, h) := (st_of (kmOf kt310 rfl : KM 310 1649 = some (.iconst 1, 1, 0, 0, (.int (1)), none))).trans (RH_iconst)
set_option maxRecDepth 100000 in
theorem s310_1650 {fu d : Nat} {lv : LV} {st : List Value} {h : AH} : aGo (fu + 1) d (310, 1650, lv, st, h) = pI st fun y st => pI st fun x st => aGo fu d (310, 1651, lv, .int (x + y) :: st, h) := (st_of (kmOf kt310 rfl : KM 310 1650 = some (.iadd, 1, 0, 0, .null, none))).trans (RH_iadd)
set_option maxRecDepth 100000 in
theorem s310_1651 {fu d : Nat} {lv : LV} {st : List Value} {h : AH} : aGo (fu + 1) d (310, 1651, lv, st, h) = pI st fun i st => pR st fun r st => hIld h r i fun x => aGo fu d (310, 1652, lv, .int x :: st, h) := (st_of (kmOf kt310 rfl : KM 310 1651 = some (.iaload, 1, 0, 0, .null, none))).trans (RH_iaload)
set_option maxRecDepth 100000 in
theorem s310_1652 {fu d : Nat} {lv : LV} {st : List Value} {h : AH} : aGo (fu + 1) d (310, 1652, lv, st, h) = lR (ld lv 0) fun x => aGo fu d (310, 1653, lv, x :: st, h) := (st_of (kmOf kt310 rfl : KM 310 1652 = some (.aload_n 0, 1, 0, 0, .null, none))).trans (RH_aload_n)
set_option maxRecDepth 100000 in
theorem s310_1653 {fu d : Nat} {lv : LV} {st : List Value} {h : AH} : aGo (fu + 1) d (310, 1653, lv, st, h) = lI (ld lv 4) fun x => aGo fu d (310, 1655, lv, .int x :: st, h) := (st_of (kmOf kt310 rfl : KM 310 1653 = some (.iload 4, 2, 0, 0, .null, none))).trans (RH_iload)
set_option maxRecDepth 100000 in
theorem s310_1655 {fu d : Nat} {lv : LV} {st : List Value} {h : AH} : aGo (fu + 1) d (310, 1655, lv, st, h) = aGo fu d (310, 1656, lv, (.int (2)) :: st, h) := (st_of (kmOf kt310 rfl : KM 310 1655 = some (.iconst 2, 1, 0, 0, (.int (2)), none))).trans (RH_iconst)
set_option maxRecDepth 100000 in
theorem s310_1656 {fu d : Nat} {lv : LV} {st : List Value} {h : AH} : aGo (fu + 1) d (310, 1656, lv, st, h) = pI st fun y st => pI st fun x st => aGo fu d (310, 1657, lv, .int (x + y) :: st, h) := (st_of (kmOf kt310 rfl : KM 310 1656 = some (.iadd, 1, 0, 0, .null, none))).trans (RH_iadd)
set_option maxRecDepth 100000 in
theorem s310_1657 {fu d : Nat} {lv : LV} {st : List Value} {h : AH} : aGo (fu + 1) d (310, 1657, lv, st, h) = pI st fun i st => pR st fun r st => hIld h r i fun x => aGo fu d (310, 1658, lv, .int x :: st, h) := (st_of (kmOf kt310 rfl : KM 310 1657 = some (.iaload, 1, 0, 0, .null, none))).trans (RH_iaload)
set_option maxRecDepth 100000 in
theorem s310_1658 {fu d : Nat} {lv : LV} {st : List Value} {h : AH} : aGo (fu + 1) d (310, 1658, lv, st, h) = ob (popN 3 st []) fun q => gT (isO h 12 q.1 = true ∧ q.2.length ≤ 12 ∧ (layA q.1).length ≤ MX 279) (ob (aCall d 279 q.1 h) (kont d 310 (1661) lv q.2)) := (st_of (kmOf kt310 rfl : KM 310 1658 = some (.invokevirtual 184, 3, 279, 3, (.retAddr 12), none))).trans (RH_invokevirtual (by decide))
set_option maxRecDepth 100000 in
theorem s310_1661 {fu d : Nat} {lv : LV} {st : List Value} {h : AH} : aGo (fu + 1) d (310, 1661, lv, st, h) = pI st fun y st => pI st fun x st => if x = y then aGo fu d (310, 1995, lv, st, h) else aGo fu d (310, 1664, lv, st, h) := (st_of (kmOf kt310 rfl : KM 310 1661 = some (.if_icmp .eq 334, 3, 1995, 0, .null, none))).trans (RH_icmp_eq)
set_option maxRecDepth 100000 in
theorem s310_1664 {fu d : Nat} {lv : LV} {st : List Value} {h : AH} : aGo (fu + 1) d (310, 1664, lv, st, h) = aGo fu d (310, 1665, lv, (.int (0)) :: st, h) := (st_of (kmOf kt310 rfl : KM 310 1664 = some (.iconst 0, 1, 0, 0, (.int (0)), none))).trans (RH_iconst)
set_option maxRecDepth 100000 in
theorem s310_1665 {fu d : Nat} {lv : LV} {st : List Value} {h : AH} : aGo (fu + 1) d (310, 1665, lv, st, h) = match st with | [.int x] => gT ((1 = 1 → x = 0 ∨ x = 1) ∧ (1 = 2 → x.toInt8.toInt32 = x)) (some (some (.int x), h)) | _ => none := (st_of (kmOf kt310 rfl : KM 310 1665 = some (.ireturn, 1, 1, 0, .null, none))).trans (RH_ireturn)
set_option maxRecDepth 100000 in
theorem s310_1666 {fu d : Nat} {lv : LV} {st : List Value} {h : AH} : aGo (fu + 1) d (310, 1666, lv, st, h) = lR (ld lv 1) fun x => aGo fu d (310, 1667, lv, x :: st, h) := (st_of (kmOf kt310 rfl : KM 310 1666 = some (.aload_n 1, 1, 0, 0, .null, none))).trans (RH_aload_n)
set_option maxRecDepth 100000 in
theorem s310_1667 {fu d : Nat} {lv : LV} {st : List Value} {h : AH} : aGo (fu + 1) d (310, 1667, lv, st, h) = lR (ld lv 0) fun x => aGo fu d (310, 1668, lv, x :: st, h) := (st_of (kmOf kt310 rfl : KM 310 1667 = some (.aload_n 0, 1, 0, 0, .null, none))).trans (RH_aload_n)
set_option maxRecDepth 100000 in
theorem s310_1668 {fu d : Nat} {lv : LV} {st : List Value} {h : AH} : aGo (fu + 1) d (310, 1668, lv, st, h) = lI (ld lv 4) fun x => aGo fu d (310, 1670, lv, .int x :: st, h) := (st_of (kmOf kt310 rfl : KM 310 1668 = some (.iload 4, 2, 0, 0, .null, none))).trans (RH_iload)
set_option maxRecDepth 100000 in
theorem s310_1670 {fu d : Nat} {lv : LV} {st : List Value} {h : AH} : aGo (fu + 1) d (310, 1670, lv, st, h) = aGo fu d (310, 1671, lv, (.int (1)) :: st, h) := (st_of (kmOf kt310 rfl : KM 310 1670 = some (.iconst 1, 1, 0, 0, (.int (1)), none))).trans (RH_iconst)
set_option maxRecDepth 100000 in
theorem s310_1671 {fu d : Nat} {lv : LV} {st : List Value} {h : AH} : aGo (fu + 1) d (310, 1671, lv, st, h) = pI st fun y st => pI st fun x st => aGo fu d (310, 1672, lv, .int (x + y) :: st, h) := (st_of (kmOf kt310 rfl : KM 310 1671 = some (.iadd, 1, 0, 0, .null, none))).trans (RH_iadd)
set_option maxRecDepth 100000 in
theorem s310_1672 {fu d : Nat} {lv : LV} {st : List Value} {h : AH} : aGo (fu + 1) d (310, 1672, lv, st, h) = pI st fun i st => pR st fun r st => hIld h r i fun x => aGo fu d (310, 1673, lv, .int x :: st, h) := (st_of (kmOf kt310 rfl : KM 310 1672 = some (.iaload, 1, 0, 0, .null, none))).trans (RH_iaload)
set_option maxRecDepth 100000 in
theorem s310_1673 {fu d : Nat} {lv : LV} {st : List Value} {h : AH} : aGo (fu + 1) d (310, 1673, lv, st, h) = lR (ld lv 0) fun x => aGo fu d (310, 1674, lv, x :: st, h) := (st_of (kmOf kt310 rfl : KM 310 1673 = some (.aload_n 0, 1, 0, 0, .null, none))).trans (RH_aload_n)
set_option maxRecDepth 100000 in
theorem s310_1674 {fu d : Nat} {lv : LV} {st : List Value} {h : AH} : aGo (fu + 1) d (310, 1674, lv, st, h) = lI (ld lv 4) fun x => aGo fu d (310, 1676, lv, .int x :: st, h) := (st_of (kmOf kt310 rfl : KM 310 1674 = some (.iload 4, 2, 0, 0, .null, none))).trans (RH_iload)
set_option maxRecDepth 100000 in
theorem s310_1676 {fu d : Nat} {lv : LV} {st : List Value} {h : AH} : aGo (fu + 1) d (310, 1676, lv, st, h) = aGo fu d (310, 1677, lv, (.int (2)) :: st, h) := (st_of (kmOf kt310 rfl : KM 310 1676 = some (.iconst 2, 1, 0, 0, (.int (2)), none))).trans (RH_iconst)
set_option maxRecDepth 100000 in
theorem s310_1677 {fu d : Nat} {lv : LV} {st : List Value} {h : AH} : aGo (fu + 1) d (310, 1677, lv, st, h) = pI st fun y st => pI st fun x st => aGo fu d (310, 1678, lv, .int (x + y) :: st, h) := (st_of (kmOf kt310 rfl : KM 310 1677 = some (.iadd, 1, 0, 0, .null, none))).trans (RH_iadd)
set_option maxRecDepth 100000 in
theorem s310_1678 {fu d : Nat} {lv : LV} {st : List Value} {h : AH} : aGo (fu + 1) d (310, 1678, lv, st, h) = pI st fun i st => pR st fun r st => hIld h r i fun x => aGo fu d (310, 1679, lv, .int x :: st, h) := (st_of (kmOf kt310 rfl : KM 310 1678 = some (.iaload, 1, 0, 0, .null, none))).trans (RH_iaload)
set_option maxRecDepth 100000 in
theorem s310_1679 {fu d : Nat} {lv : LV} {st : List Value} {h : AH} : aGo (fu + 1) d (310, 1679, lv, st, h) = lR (ld lv 0) fun x => aGo fu d (310, 1680, lv, x :: st, h) := (st_of (kmOf kt310 rfl : KM 310 1679 = some (.aload_n 0, 1, 0, 0, .null, none))).trans (RH_aload_n)
set_option maxRecDepth 100000 in
theorem s310_1680 {fu d : Nat} {lv : LV} {st : List Value} {h : AH} : aGo (fu + 1) d (310, 1680, lv, st, h) = lI (ld lv 4) fun x => aGo fu d (310, 1682, lv, .int x :: st, h) := (st_of (kmOf kt310 rfl : KM 310 1680 = some (.iload 4, 2, 0, 0, .null, none))).trans (RH_iload)
set_option maxRecDepth 100000 in
theorem s310_1682 {fu d : Nat} {lv : LV} {st : List Value} {h : AH} : aGo (fu + 1) d (310, 1682, lv, st, h) = aGo fu d (310, 1683, lv, (.int (3)) :: st, h) := (st_of (kmOf kt310 rfl : KM 310 1682 = some (.iconst 3, 1, 0, 0, (.int (3)), none))).trans (RH_iconst)
set_option maxRecDepth 100000 in
theorem s310_1683 {fu d : Nat} {lv : LV} {st : List Value} {h : AH} : aGo (fu + 1) d (310, 1683, lv, st, h) = pI st fun y st => pI st fun x st => aGo fu d (310, 1684, lv, .int (x + y) :: st, h) := (st_of (kmOf kt310 rfl : KM 310 1683 = some (.iadd, 1, 0, 0, .null, none))).trans (RH_iadd)
set_option maxRecDepth 100000 in
theorem s310_1684 {fu d : Nat} {lv : LV} {st : List Value} {h : AH} : aGo (fu + 1) d (310, 1684, lv, st, h) = pI st fun i st => pR st fun r st => hIld h r i fun x => aGo fu d (310, 1685, lv, .int x :: st, h) := (st_of (kmOf kt310 rfl : KM 310 1684 = some (.iaload, 1, 0, 0, .null, none))).trans (RH_iaload)
set_option maxRecDepth 100000 in
theorem s310_1685 {fu d : Nat} {lv : LV} {st : List Value} {h : AH} : aGo (fu + 1) d (310, 1685, lv, st, h) = ob (popN 4 st []) fun q => gT (isO h 11 q.1 = true ∧ q.2.length ≤ 12 ∧ (layA q.1).length ≤ MX 157) (ob (aCall d 157 q.1 h) (kont d 310 (1688) lv q.2)) := (st_of (kmOf kt310 rfl : KM 310 1685 = some (.invokevirtual 185, 3, 157, 4, (.retAddr 11), none))).trans (RH_invokevirtual (by decide))
set_option maxRecDepth 100000 in
theorem s310_1688 {fu d : Nat} {lv : LV} {st : List Value} {h : AH} : aGo (fu + 1) d (310, 1688, lv, st, h) = lR (ld lv 2) fun x => aGo fu d (310, 1689, lv, x :: st, h) := (st_of (kmOf kt310 rfl : KM 310 1688 = some (.aload_n 2, 1, 0, 0, .null, none))).trans (RH_aload_n)
set_option maxRecDepth 100000 in
theorem s310_1689 {fu d : Nat} {lv : LV} {st : List Value} {h : AH} : aGo (fu + 1) d (310, 1689, lv, st, h) = lR (ld lv 0) fun x => aGo fu d (310, 1690, lv, x :: st, h) := (st_of (kmOf kt310 rfl : KM 310 1689 = some (.aload_n 0, 1, 0, 0, .null, none))).trans (RH_aload_n)
set_option maxRecDepth 100000 in
theorem s310_1690 {fu d : Nat} {lv : LV} {st : List Value} {h : AH} : aGo (fu + 1) d (310, 1690, lv, st, h) = lI (ld lv 4) fun x => aGo fu d (310, 1692, lv, .int x :: st, h) := (st_of (kmOf kt310 rfl : KM 310 1690 = some (.iload 4, 2, 0, 0, .null, none))).trans (RH_iload)
set_option maxRecDepth 100000 in
theorem s310_1692 {fu d : Nat} {lv : LV} {st : List Value} {h : AH} : aGo (fu + 1) d (310, 1692, lv, st, h) = aGo fu d (310, 1693, lv, (.int (1)) :: st, h) := (st_of (kmOf kt310 rfl : KM 310 1692 = some (.iconst 1, 1, 0, 0, (.int (1)), none))).trans (RH_iconst)
set_option maxRecDepth 100000 in
theorem s310_1693 {fu d : Nat} {lv : LV} {st : List Value} {h : AH} : aGo (fu + 1) d (310, 1693, lv, st, h) = pI st fun y st => pI st fun x st => aGo fu d (310, 1694, lv, .int (x + y) :: st, h) := (st_of (kmOf kt310 rfl : KM 310 1693 = some (.iadd, 1, 0, 0, .null, none))).trans (RH_iadd)
set_option maxRecDepth 100000 in
theorem s310_1694 {fu d : Nat} {lv : LV} {st : List Value} {h : AH} : aGo (fu + 1) d (310, 1694, lv, st, h) = pI st fun i st => pR st fun r st => hIld h r i fun x => aGo fu d (310, 1695, lv, .int x :: st, h) := (st_of (kmOf kt310 rfl : KM 310 1694 = some (.iaload, 1, 0, 0, .null, none))).trans (RH_iaload)
set_option maxRecDepth 100000 in
theorem s310_1695 {fu d : Nat} {lv : LV} {st : List Value} {h : AH} : aGo (fu + 1) d (310, 1695, lv, st, h) = lR (ld lv 0) fun x => aGo fu d (310, 1696, lv, x :: st, h) := (st_of (kmOf kt310 rfl : KM 310 1695 = some (.aload_n 0, 1, 0, 0, .null, none))).trans (RH_aload_n)
set_option maxRecDepth 100000 in
theorem s310_1696 {fu d : Nat} {lv : LV} {st : List Value} {h : AH} : aGo (fu + 1) d (310, 1696, lv, st, h) = lI (ld lv 4) fun x => aGo fu d (310, 1698, lv, .int x :: st, h) := (st_of (kmOf kt310 rfl : KM 310 1696 = some (.iload 4, 2, 0, 0, .null, none))).trans (RH_iload)
set_option maxRecDepth 100000 in
theorem s310_1698 {fu d : Nat} {lv : LV} {st : List Value} {h : AH} : aGo (fu + 1) d (310, 1698, lv, st, h) = aGo fu d (310, 1699, lv, (.int (2)) :: st, h) := (st_of (kmOf kt310 rfl : KM 310 1698 = some (.iconst 2, 1, 0, 0, (.int (2)), none))).trans (RH_iconst)
set_option maxRecDepth 100000 in
theorem s310_1699 {fu d : Nat} {lv : LV} {st : List Value} {h : AH} : aGo (fu + 1) d (310, 1699, lv, st, h) = pI st fun y st => pI st fun x st => aGo fu d (310, 1700, lv, .int (x + y) :: st, h) := (st_of (kmOf kt310 rfl : KM 310 1699 = some (.iadd, 1, 0, 0, .null, none))).trans (RH_iadd)
set_option maxRecDepth 100000 in
theorem s310_1700 {fu d : Nat} {lv : LV} {st : List Value} {h : AH} : aGo (fu + 1) d (310, 1700, lv, st, h) = pI st fun i st => pR st fun r st => hIld h r i fun x => aGo fu d (310, 1701, lv, .int x :: st, h) := (st_of (kmOf kt310 rfl : KM 310 1700 = some (.iaload, 1, 0, 0, .null, none))).trans (RH_iaload)
set_option maxRecDepth 100000 in
theorem s310_1701 {fu d : Nat} {lv : LV} {st : List Value} {h : AH} : aGo (fu + 1) d (310, 1701, lv, st, h) = lR (ld lv 0) fun x => aGo fu d (310, 1702, lv, x :: st, h) := (st_of (kmOf kt310 rfl : KM 310 1701 = some (.aload_n 0, 1, 0, 0, .null, none))).trans (RH_aload_n)
set_option maxRecDepth 100000 in
theorem s310_1702 {fu d : Nat} {lv : LV} {st : List Value} {h : AH} : aGo (fu + 1) d (310, 1702, lv, st, h) = lI (ld lv 4) fun x => aGo fu d (310, 1704, lv, .int x :: st, h) := (st_of (kmOf kt310 rfl : KM 310 1702 = some (.iload 4, 2, 0, 0, .null, none))).trans (RH_iload)
set_option maxRecDepth 100000 in
theorem s310_1704 {fu d : Nat} {lv : LV} {st : List Value} {h : AH} : aGo (fu + 1) d (310, 1704, lv, st, h) = aGo fu d (310, 1705, lv, (.int (3)) :: st, h) := (st_of (kmOf kt310 rfl : KM 310 1704 = some (.iconst 3, 1, 0, 0, (.int (3)), none))).trans (RH_iconst)
set_option maxRecDepth 100000 in
theorem s310_1705 {fu d : Nat} {lv : LV} {st : List Value} {h : AH} : aGo (fu + 1) d (310, 1705, lv, st, h) = pI st fun y st => pI st fun x st => aGo fu d (310, 1706, lv, .int (x + y) :: st, h) := (st_of (kmOf kt310 rfl : KM 310 1705 = some (.iadd, 1, 0, 0, .null, none))).trans (RH_iadd)
set_option maxRecDepth 100000 in
theorem s310_1706 {fu d : Nat} {lv : LV} {st : List Value} {h : AH} : aGo (fu + 1) d (310, 1706, lv, st, h) = pI st fun i st => pR st fun r st => hIld h r i fun x => aGo fu d (310, 1707, lv, .int x :: st, h) := (st_of (kmOf kt310 rfl : KM 310 1706 = some (.iaload, 1, 0, 0, .null, none))).trans (RH_iaload)
set_option maxRecDepth 100000 in
theorem s310_1707 {fu d : Nat} {lv : LV} {st : List Value} {h : AH} : aGo (fu + 1) d (310, 1707, lv, st, h) = ob (popN 4 st []) fun q => gT (isO h 12 q.1 = true ∧ q.2.length ≤ 12 ∧ (layA q.1).length ≤ MX 280) (ob (aCall d 280 q.1 h) (kont d 310 (1710) lv q.2)) := (st_of (kmOf kt310 rfl : KM 310 1707 = some (.invokevirtual 188, 3, 280, 4, (.retAddr 12), none))).trans (RH_invokevirtual (by decide))
set_option maxRecDepth 100000 in
theorem s310_1710 {fu d : Nat} {lv : LV} {st : List Value} {h : AH} : aGo (fu + 1) d (310, 1710, lv, st, h) = pI st fun y st => pI st fun x st => if x = y then aGo fu d (310, 1995, lv, st, h) else aGo fu d (310, 1713, lv, st, h) := (st_of (kmOf kt310 rfl : KM 310 1710 = some (.if_icmp .eq 285, 3, 1995, 0, .null, none))).trans (RH_icmp_eq)
set_option maxRecDepth 100000 in
theorem s310_1713 {fu d : Nat} {lv : LV} {st : List Value} {h : AH} : aGo (fu + 1) d (310, 1713, lv, st, h) = aGo fu d (310, 1714, lv, (.int (0)) :: st, h) := (st_of (kmOf kt310 rfl : KM 310 1713 = some (.iconst 0, 1, 0, 0, (.int (0)), none))).trans (RH_iconst)
set_option maxRecDepth 100000 in
theorem s310_1714 {fu d : Nat} {lv : LV} {st : List Value} {h : AH} : aGo (fu + 1) d (310, 1714, lv, st, h) = match st with | [.int x] => gT ((1 = 1 → x = 0 ∨ x = 1) ∧ (1 = 2 → x.toInt8.toInt32 = x)) (some (some (.int x), h)) | _ => none := (st_of (kmOf kt310 rfl : KM 310 1714 = some (.ireturn, 1, 1, 0, .null, none))).trans (RH_ireturn)
set_option maxRecDepth 100000 in
theorem s310_1715 {fu d : Nat} {lv : LV} {st : List Value} {h : AH} : aGo (fu + 1) d (310, 1715, lv, st, h) = lR (ld lv 1) fun x => aGo fu d (310, 1716, lv, x :: st, h) := (st_of (kmOf kt310 rfl : KM 310 1715 = some (.aload_n 1, 1, 0, 0, .null, none))).trans (RH_aload_n)
set_option maxRecDepth 100000 in
theorem s310_1716 {fu d : Nat} {lv : LV} {st : List Value} {h : AH} : aGo (fu + 1) d (310, 1716, lv, st, h) = lR (ld lv 0) fun x => aGo fu d (310, 1717, lv, x :: st, h) := (st_of (kmOf kt310 rfl : KM 310 1716 = some (.aload_n 0, 1, 0, 0, .null, none))).trans (RH_aload_n)
set_option maxRecDepth 100000 in
theorem s310_1717 {fu d : Nat} {lv : LV} {st : List Value} {h : AH} : aGo (fu + 1) d (310, 1717, lv, st, h) = lI (ld lv 4) fun x => aGo fu d (310, 1719, lv, .int x :: st, h) := (st_of (kmOf kt310 rfl : KM 310 1717 = some (.iload 4, 2, 0, 0, .null, none))).trans (RH_iload)
set_option maxRecDepth 100000 in
theorem s310_1719 {fu d : Nat} {lv : LV} {st : List Value} {h : AH} : aGo (fu + 1) d (310, 1719, lv, st, h) = aGo fu d (310, 1720, lv, (.int (1)) :: st, h) := (st_of (kmOf kt310 rfl : KM 310 1719 = some (.iconst 1, 1, 0, 0, (.int (1)), none))).trans (RH_iconst)
set_option maxRecDepth 100000 in
theorem s310_1720 {fu d : Nat} {lv : LV} {st : List Value} {h : AH} : aGo (fu + 1) d (310, 1720, lv, st, h) = pI st fun y st => pI st fun x st => aGo fu d (310, 1721, lv, .int (x + y) :: st, h) := (st_of (kmOf kt310 rfl : KM 310 1720 = some (.iadd, 1, 0, 0, .null, none))).trans (RH_iadd)
set_option maxRecDepth 100000 in
theorem s310_1721 {fu d : Nat} {lv : LV} {st : List Value} {h : AH} : aGo (fu + 1) d (310, 1721, lv, st, h) = pI st fun i st => pR st fun r st => hIld h r i fun x => aGo fu d (310, 1722, lv, .int x :: st, h) := (st_of (kmOf kt310 rfl : KM 310 1721 = some (.iaload, 1, 0, 0, .null, none))).trans (RH_iaload)
set_option maxRecDepth 100000 in
theorem s310_1722 {fu d : Nat} {lv : LV} {st : List Value} {h : AH} : aGo (fu + 1) d (310, 1722, lv, st, h) = ob (popN 2 st []) fun q => gT (isO h 11 q.1 = true ∧ q.2.length ≤ 12 ∧ (layA q.1).length ≤ MX 158) (ob (aCall d 158 q.1 h) (kont d 310 (1725) lv q.2)) := (st_of (kmOf kt310 rfl : KM 310 1722 = some (.invokevirtual 189, 3, 158, 2, (.retAddr 11), none))).trans (RH_invokevirtual (by decide))
set_option maxRecDepth 100000 in
theorem s310_1725 {fu d : Nat} {lv : LV} {st : List Value} {h : AH} : aGo (fu + 1) d (310, 1725, lv, st, h) = lR (ld lv 2) fun x => aGo fu d (310, 1726, lv, x :: st, h) := (st_of (kmOf kt310 rfl : KM 310 1725 = some (.aload_n 2, 1, 0, 0, .null, none))).trans (RH_aload_n)
set_option maxRecDepth 100000 in
theorem s310_1726 {fu d : Nat} {lv : LV} {st : List Value} {h : AH} : aGo (fu + 1) d (310, 1726, lv, st, h) = lR (ld lv 0) fun x => aGo fu d (310, 1727, lv, x :: st, h) := (st_of (kmOf kt310 rfl : KM 310 1726 = some (.aload_n 0, 1, 0, 0, .null, none))).trans (RH_aload_n)
set_option maxRecDepth 100000 in
theorem s310_1727 {fu d : Nat} {lv : LV} {st : List Value} {h : AH} : aGo (fu + 1) d (310, 1727, lv, st, h) = lI (ld lv 4) fun x => aGo fu d (310, 1729, lv, .int x :: st, h) := (st_of (kmOf kt310 rfl : KM 310 1727 = some (.iload 4, 2, 0, 0, .null, none))).trans (RH_iload)
set_option maxRecDepth 100000 in
theorem s310_1729 {fu d : Nat} {lv : LV} {st : List Value} {h : AH} : aGo (fu + 1) d (310, 1729, lv, st, h) = aGo fu d (310, 1730, lv, (.int (1)) :: st, h) := (st_of (kmOf kt310 rfl : KM 310 1729 = some (.iconst 1, 1, 0, 0, (.int (1)), none))).trans (RH_iconst)
set_option maxRecDepth 100000 in
theorem s310_1730 {fu d : Nat} {lv : LV} {st : List Value} {h : AH} : aGo (fu + 1) d (310, 1730, lv, st, h) = pI st fun y st => pI st fun x st => aGo fu d (310, 1731, lv, .int (x + y) :: st, h) := (st_of (kmOf kt310 rfl : KM 310 1730 = some (.iadd, 1, 0, 0, .null, none))).trans (RH_iadd)
set_option maxRecDepth 100000 in
theorem s310_1731 {fu d : Nat} {lv : LV} {st : List Value} {h : AH} : aGo (fu + 1) d (310, 1731, lv, st, h) = pI st fun i st => pR st fun r st => hIld h r i fun x => aGo fu d (310, 1732, lv, .int x :: st, h) := (st_of (kmOf kt310 rfl : KM 310 1731 = some (.iaload, 1, 0, 0, .null, none))).trans (RH_iaload)
set_option maxRecDepth 100000 in
theorem s310_1732 {fu d : Nat} {lv : LV} {st : List Value} {h : AH} : aGo (fu + 1) d (310, 1732, lv, st, h) = ob (popN 2 st []) fun q => gT (isO h 12 q.1 = true ∧ q.2.length ≤ 12 ∧ (layA q.1).length ≤ MX 281) (ob (aCall d 281 q.1 h) (kont d 310 (1735) lv q.2)) := (st_of (kmOf kt310 rfl : KM 310 1732 = some (.invokevirtual 192, 3, 281, 2, (.retAddr 12), none))).trans (RH_invokevirtual (by decide))
set_option maxRecDepth 100000 in
theorem s310_1735 {fu d : Nat} {lv : LV} {st : List Value} {h : AH} : aGo (fu + 1) d (310, 1735, lv, st, h) = pI st fun y st => pI st fun x st => if x = y then aGo fu d (310, 1995, lv, st, h) else aGo fu d (310, 1738, lv, st, h) := (st_of (kmOf kt310 rfl : KM 310 1735 = some (.if_icmp .eq 260, 3, 1995, 0, .null, none))).trans (RH_icmp_eq)
set_option maxRecDepth 100000 in
theorem s310_1738 {fu d : Nat} {lv : LV} {st : List Value} {h : AH} : aGo (fu + 1) d (310, 1738, lv, st, h) = aGo fu d (310, 1739, lv, (.int (0)) :: st, h) := (st_of (kmOf kt310 rfl : KM 310 1738 = some (.iconst 0, 1, 0, 0, (.int (0)), none))).trans (RH_iconst)
set_option maxRecDepth 100000 in
theorem s310_1739 {fu d : Nat} {lv : LV} {st : List Value} {h : AH} : aGo (fu + 1) d (310, 1739, lv, st, h) = match st with | [.int x] => gT ((1 = 1 → x = 0 ∨ x = 1) ∧ (1 = 2 → x.toInt8.toInt32 = x)) (some (some (.int x), h)) | _ => none := (st_of (kmOf kt310 rfl : KM 310 1739 = some (.ireturn, 1, 1, 0, .null, none))).trans (RH_ireturn)
set_option maxRecDepth 100000 in
theorem s310_1740 {fu d : Nat} {lv : LV} {st : List Value} {h : AH} : aGo (fu + 1) d (310, 1740, lv, st, h) = lR (ld lv 1) fun x => aGo fu d (310, 1741, lv, x :: st, h) := (st_of (kmOf kt310 rfl : KM 310 1740 = some (.aload_n 1, 1, 0, 0, .null, none))).trans (RH_aload_n)
set_option maxRecDepth 100000 in
theorem s310_1741 {fu d : Nat} {lv : LV} {st : List Value} {h : AH} : aGo (fu + 1) d (310, 1741, lv, st, h) = lR (ld lv 0) fun x => aGo fu d (310, 1742, lv, x :: st, h) := (st_of (kmOf kt310 rfl : KM 310 1741 = some (.aload_n 0, 1, 0, 0, .null, none))).trans (RH_aload_n)
set_option maxRecDepth 100000 in
theorem s310_1742 {fu d : Nat} {lv : LV} {st : List Value} {h : AH} : aGo (fu + 1) d (310, 1742, lv, st, h) = lI (ld lv 4) fun x => aGo fu d (310, 1744, lv, .int x :: st, h) := (st_of (kmOf kt310 rfl : KM 310 1742 = some (.iload 4, 2, 0, 0, .null, none))).trans (RH_iload)
set_option maxRecDepth 100000 in
theorem s310_1744 {fu d : Nat} {lv : LV} {st : List Value} {h : AH} : aGo (fu + 1) d (310, 1744, lv, st, h) = aGo fu d (310, 1745, lv, (.int (1)) :: st, h) := (st_of (kmOf kt310 rfl : KM 310 1744 = some (.iconst 1, 1, 0, 0, (.int (1)), none))).trans (RH_iconst)
set_option maxRecDepth 100000 in
theorem s310_1745 {fu d : Nat} {lv : LV} {st : List Value} {h : AH} : aGo (fu + 1) d (310, 1745, lv, st, h) = pI st fun y st => pI st fun x st => aGo fu d (310, 1746, lv, .int (x + y) :: st, h) := (st_of (kmOf kt310 rfl : KM 310 1745 = some (.iadd, 1, 0, 0, .null, none))).trans (RH_iadd)
set_option maxRecDepth 100000 in
theorem s310_1746 {fu d : Nat} {lv : LV} {st : List Value} {h : AH} : aGo (fu + 1) d (310, 1746, lv, st, h) = pI st fun i st => pR st fun r st => hIld h r i fun x => aGo fu d (310, 1747, lv, .int x :: st, h) := (st_of (kmOf kt310 rfl : KM 310 1746 = some (.iaload, 1, 0, 0, .null, none))).trans (RH_iaload)
set_option maxRecDepth 100000 in
theorem s310_1747 {fu d : Nat} {lv : LV} {st : List Value} {h : AH} : aGo (fu + 1) d (310, 1747, lv, st, h) = ob (popN 2 st []) fun q => gT (isO h 11 q.1 = true ∧ q.2.length ≤ 12 ∧ (layA q.1).length ≤ MX 159) (ob (aCall d 159 q.1 h) (kont d 310 (1750) lv q.2)) := (st_of (kmOf kt310 rfl : KM 310 1747 = some (.invokevirtual 193, 3, 159, 2, (.retAddr 11), none))).trans (RH_invokevirtual (by decide))
set_option maxRecDepth 100000 in
theorem s310_1750 {fu d : Nat} {lv : LV} {st : List Value} {h : AH} : aGo (fu + 1) d (310, 1750, lv, st, h) = lR (ld lv 2) fun x => aGo fu d (310, 1751, lv, x :: st, h) := (st_of (kmOf kt310 rfl : KM 310 1750 = some (.aload_n 2, 1, 0, 0, .null, none))).trans (RH_aload_n)
set_option maxRecDepth 100000 in
theorem s310_1751 {fu d : Nat} {lv : LV} {st : List Value} {h : AH} : aGo (fu + 1) d (310, 1751, lv, st, h) = lR (ld lv 0) fun x => aGo fu d (310, 1752, lv, x :: st, h) := (st_of (kmOf kt310 rfl : KM 310 1751 = some (.aload_n 0, 1, 0, 0, .null, none))).trans (RH_aload_n)
set_option maxRecDepth 100000 in
theorem s310_1752 {fu d : Nat} {lv : LV} {st : List Value} {h : AH} : aGo (fu + 1) d (310, 1752, lv, st, h) = lI (ld lv 4) fun x => aGo fu d (310, 1754, lv, .int x :: st, h) := (st_of (kmOf kt310 rfl : KM 310 1752 = some (.iload 4, 2, 0, 0, .null, none))).trans (RH_iload)
set_option maxRecDepth 100000 in
theorem s310_1754 {fu d : Nat} {lv : LV} {st : List Value} {h : AH} : aGo (fu + 1) d (310, 1754, lv, st, h) = aGo fu d (310, 1755, lv, (.int (1)) :: st, h) := (st_of (kmOf kt310 rfl : KM 310 1754 = some (.iconst 1, 1, 0, 0, (.int (1)), none))).trans (RH_iconst)
set_option maxRecDepth 100000 in
theorem s310_1755 {fu d : Nat} {lv : LV} {st : List Value} {h : AH} : aGo (fu + 1) d (310, 1755, lv, st, h) = pI st fun y st => pI st fun x st => aGo fu d (310, 1756, lv, .int (x + y) :: st, h) := (st_of (kmOf kt310 rfl : KM 310 1755 = some (.iadd, 1, 0, 0, .null, none))).trans (RH_iadd)
set_option maxRecDepth 100000 in
theorem s310_1756 {fu d : Nat} {lv : LV} {st : List Value} {h : AH} : aGo (fu + 1) d (310, 1756, lv, st, h) = pI st fun i st => pR st fun r st => hIld h r i fun x => aGo fu d (310, 1757, lv, .int x :: st, h) := (st_of (kmOf kt310 rfl : KM 310 1756 = some (.iaload, 1, 0, 0, .null, none))).trans (RH_iaload)
set_option maxRecDepth 100000 in
theorem s310_1757 {fu d : Nat} {lv : LV} {st : List Value} {h : AH} : aGo (fu + 1) d (310, 1757, lv, st, h) = ob (popN 2 st []) fun q => gT (isO h 12 q.1 = true ∧ q.2.length ≤ 12 ∧ (layA q.1).length ≤ MX 282) (ob (aCall d 282 q.1 h) (kont d 310 (1760) lv q.2)) := (st_of (kmOf kt310 rfl : KM 310 1757 = some (.invokevirtual 196, 3, 282, 2, (.retAddr 12), none))).trans (RH_invokevirtual (by decide))
set_option maxRecDepth 100000 in
theorem s310_1760 {fu d : Nat} {lv : LV} {st : List Value} {h : AH} : aGo (fu + 1) d (310, 1760, lv, st, h) = pI st fun y st => pI st fun x st => if x = y then aGo fu d (310, 1995, lv, st, h) else aGo fu d (310, 1763, lv, st, h) := (st_of (kmOf kt310 rfl : KM 310 1760 = some (.if_icmp .eq 235, 3, 1995, 0, .null, none))).trans (RH_icmp_eq)
set_option maxRecDepth 100000 in
theorem s310_1763 {fu d : Nat} {lv : LV} {st : List Value} {h : AH} : aGo (fu + 1) d (310, 1763, lv, st, h) = aGo fu d (310, 1764, lv, (.int (0)) :: st, h) := (st_of (kmOf kt310 rfl : KM 310 1763 = some (.iconst 0, 1, 0, 0, (.int (0)), none))).trans (RH_iconst)
set_option maxRecDepth 100000 in
theorem s310_1764 {fu d : Nat} {lv : LV} {st : List Value} {h : AH} : aGo (fu + 1) d (310, 1764, lv, st, h) = match st with | [.int x] => gT ((1 = 1 → x = 0 ∨ x = 1) ∧ (1 = 2 → x.toInt8.toInt32 = x)) (some (some (.int x), h)) | _ => none := (st_of (kmOf kt310 rfl : KM 310 1764 = some (.ireturn, 1, 1, 0, .null, none))).trans (RH_ireturn)
set_option maxRecDepth 100000 in
theorem s310_1765 {fu d : Nat} {lv : LV} {st : List Value} {h : AH} : aGo (fu + 1) d (310, 1765, lv, st, h) = lR (ld lv 1) fun x => aGo fu d (310, 1766, lv, x :: st, h) := (st_of (kmOf kt310 rfl : KM 310 1765 = some (.aload_n 1, 1, 0, 0, .null, none))).trans (RH_aload_n)
set_option maxRecDepth 100000 in
theorem s310_1766 {fu d : Nat} {lv : LV} {st : List Value} {h : AH} : aGo (fu + 1) d (310, 1766, lv, st, h) = lR (ld lv 0) fun x => aGo fu d (310, 1767, lv, x :: st, h) := (st_of (kmOf kt310 rfl : KM 310 1766 = some (.aload_n 0, 1, 0, 0, .null, none))).trans (RH_aload_n)
set_option maxRecDepth 100000 in
theorem s310_1767 {fu d : Nat} {lv : LV} {st : List Value} {h : AH} : aGo (fu + 1) d (310, 1767, lv, st, h) = lI (ld lv 4) fun x => aGo fu d (310, 1769, lv, .int x :: st, h) := (st_of (kmOf kt310 rfl : KM 310 1767 = some (.iload 4, 2, 0, 0, .null, none))).trans (RH_iload)
set_option maxRecDepth 100000 in
theorem s310_1769 {fu d : Nat} {lv : LV} {st : List Value} {h : AH} : aGo (fu + 1) d (310, 1769, lv, st, h) = aGo fu d (310, 1770, lv, (.int (1)) :: st, h) := (st_of (kmOf kt310 rfl : KM 310 1769 = some (.iconst 1, 1, 0, 0, (.int (1)), none))).trans (RH_iconst)
set_option maxRecDepth 100000 in
theorem s310_1770 {fu d : Nat} {lv : LV} {st : List Value} {h : AH} : aGo (fu + 1) d (310, 1770, lv, st, h) = pI st fun y st => pI st fun x st => aGo fu d (310, 1771, lv, .int (x + y) :: st, h) := (st_of (kmOf kt310 rfl : KM 310 1770 = some (.iadd, 1, 0, 0, .null, none))).trans (RH_iadd)
set_option maxRecDepth 100000 in
theorem s310_1771 {fu d : Nat} {lv : LV} {st : List Value} {h : AH} : aGo (fu + 1) d (310, 1771, lv, st, h) = pI st fun i st => pR st fun r st => hIld h r i fun x => aGo fu d (310, 1772, lv, .int x :: st, h) := (st_of (kmOf kt310 rfl : KM 310 1771 = some (.iaload, 1, 0, 0, .null, none))).trans (RH_iaload)
set_option maxRecDepth 100000 in
theorem s310_1772 {fu d : Nat} {lv : LV} {st : List Value} {h : AH} : aGo (fu + 1) d (310, 1772, lv, st, h) = lR (ld lv 0) fun x => aGo fu d (310, 1773, lv, x :: st, h) := (st_of (kmOf kt310 rfl : KM 310 1772 = some (.aload_n 0, 1, 0, 0, .null, none))).trans (RH_aload_n)
set_option maxRecDepth 100000 in
theorem s310_1773 {fu d : Nat} {lv : LV} {st : List Value} {h : AH} : aGo (fu + 1) d (310, 1773, lv, st, h) = lI (ld lv 4) fun x => aGo fu d (310, 1775, lv, .int x :: st, h) := (st_of (kmOf kt310 rfl : KM 310 1773 = some (.iload 4, 2, 0, 0, .null, none))).trans (RH_iload)
set_option maxRecDepth 100000 in
theorem s310_1775 {fu d : Nat} {lv : LV} {st : List Value} {h : AH} : aGo (fu + 1) d (310, 1775, lv, st, h) = aGo fu d (310, 1776, lv, (.int (2)) :: st, h) := (st_of (kmOf kt310 rfl : KM 310 1775 = some (.iconst 2, 1, 0, 0, (.int (2)), none))).trans (RH_iconst)
set_option maxRecDepth 100000 in
theorem s310_1776 {fu d : Nat} {lv : LV} {st : List Value} {h : AH} : aGo (fu + 1) d (310, 1776, lv, st, h) = pI st fun y st => pI st fun x st => aGo fu d (310, 1777, lv, .int (x + y) :: st, h) := (st_of (kmOf kt310 rfl : KM 310 1776 = some (.iadd, 1, 0, 0, .null, none))).trans (RH_iadd)
set_option maxRecDepth 100000 in
theorem s310_1777 {fu d : Nat} {lv : LV} {st : List Value} {h : AH} : aGo (fu + 1) d (310, 1777, lv, st, h) = pI st fun i st => pR st fun r st => hIld h r i fun x => aGo fu d (310, 1778, lv, .int x :: st, h) := (st_of (kmOf kt310 rfl : KM 310 1777 = some (.iaload, 1, 0, 0, .null, none))).trans (RH_iaload)
set_option maxRecDepth 100000 in
theorem s310_1778 {fu d : Nat} {lv : LV} {st : List Value} {h : AH} : aGo (fu + 1) d (310, 1778, lv, st, h) = ob (popN 3 st []) fun q => gT (isO h 11 q.1 = true ∧ q.2.length ≤ 12 ∧ (layA q.1).length ≤ MX 160) (ob (aCall d 160 q.1 h) (kont d 310 (1781) lv q.2)) := (st_of (kmOf kt310 rfl : KM 310 1778 = some (.invokevirtual 197, 3, 160, 3, (.retAddr 11), none))).trans (RH_invokevirtual (by decide))
set_option maxRecDepth 100000 in
theorem s310_1781 {fu d : Nat} {lv : LV} {st : List Value} {h : AH} : aGo (fu + 1) d (310, 1781, lv, st, h) = lR (ld lv 2) fun x => aGo fu d (310, 1782, lv, x :: st, h) := (st_of (kmOf kt310 rfl : KM 310 1781 = some (.aload_n 2, 1, 0, 0, .null, none))).trans (RH_aload_n)
set_option maxRecDepth 100000 in
theorem s310_1782 {fu d : Nat} {lv : LV} {st : List Value} {h : AH} : aGo (fu + 1) d (310, 1782, lv, st, h) = lR (ld lv 0) fun x => aGo fu d (310, 1783, lv, x :: st, h) := (st_of (kmOf kt310 rfl : KM 310 1782 = some (.aload_n 0, 1, 0, 0, .null, none))).trans (RH_aload_n)
set_option maxRecDepth 100000 in
theorem s310_1783 {fu d : Nat} {lv : LV} {st : List Value} {h : AH} : aGo (fu + 1) d (310, 1783, lv, st, h) = lI (ld lv 4) fun x => aGo fu d (310, 1785, lv, .int x :: st, h) := (st_of (kmOf kt310 rfl : KM 310 1783 = some (.iload 4, 2, 0, 0, .null, none))).trans (RH_iload)
set_option maxRecDepth 100000 in
theorem s310_1785 {fu d : Nat} {lv : LV} {st : List Value} {h : AH} : aGo (fu + 1) d (310, 1785, lv, st, h) = aGo fu d (310, 1786, lv, (.int (1)) :: st, h) := (st_of (kmOf kt310 rfl : KM 310 1785 = some (.iconst 1, 1, 0, 0, (.int (1)), none))).trans (RH_iconst)
set_option maxRecDepth 100000 in
theorem s310_1786 {fu d : Nat} {lv : LV} {st : List Value} {h : AH} : aGo (fu + 1) d (310, 1786, lv, st, h) = pI st fun y st => pI st fun x st => aGo fu d (310, 1787, lv, .int (x + y) :: st, h) := (st_of (kmOf kt310 rfl : KM 310 1786 = some (.iadd, 1, 0, 0, .null, none))).trans (RH_iadd)
set_option maxRecDepth 100000 in
theorem s310_1787 {fu d : Nat} {lv : LV} {st : List Value} {h : AH} : aGo (fu + 1) d (310, 1787, lv, st, h) = pI st fun i st => pR st fun r st => hIld h r i fun x => aGo fu d (310, 1788, lv, .int x :: st, h) := (st_of (kmOf kt310 rfl : KM 310 1787 = some (.iaload, 1, 0, 0, .null, none))).trans (RH_iaload)
set_option maxRecDepth 100000 in
theorem s310_1788 {fu d : Nat} {lv : LV} {st : List Value} {h : AH} : aGo (fu + 1) d (310, 1788, lv, st, h) = lR (ld lv 0) fun x => aGo fu d (310, 1789, lv, x :: st, h) := (st_of (kmOf kt310 rfl : KM 310 1788 = some (.aload_n 0, 1, 0, 0, .null, none))).trans (RH_aload_n)
set_option maxRecDepth 100000 in
theorem s310_1789 {fu d : Nat} {lv : LV} {st : List Value} {h : AH} : aGo (fu + 1) d (310, 1789, lv, st, h) = lI (ld lv 4) fun x => aGo fu d (310, 1791, lv, .int x :: st, h) := (st_of (kmOf kt310 rfl : KM 310 1789 = some (.iload 4, 2, 0, 0, .null, none))).trans (RH_iload)
set_option maxRecDepth 100000 in
theorem s310_1791 {fu d : Nat} {lv : LV} {st : List Value} {h : AH} : aGo (fu + 1) d (310, 1791, lv, st, h) = aGo fu d (310, 1792, lv, (.int (2)) :: st, h) := (st_of (kmOf kt310 rfl : KM 310 1791 = some (.iconst 2, 1, 0, 0, (.int (2)), none))).trans (RH_iconst)
set_option maxRecDepth 100000 in
theorem s310_1792 {fu d : Nat} {lv : LV} {st : List Value} {h : AH} : aGo (fu + 1) d (310, 1792, lv, st, h) = pI st fun y st => pI st fun x st => aGo fu d (310, 1793, lv, .int (x + y) :: st, h) := (st_of (kmOf kt310 rfl : KM 310 1792 = some (.iadd, 1, 0, 0, .null, none))).trans (RH_iadd)
set_option maxRecDepth 100000 in
theorem s310_1793 {fu d : Nat} {lv : LV} {st : List Value} {h : AH} : aGo (fu + 1) d (310, 1793, lv, st, h) = pI st fun i st => pR st fun r st => hIld h r i fun x => aGo fu d (310, 1794, lv, .int x :: st, h) := (st_of (kmOf kt310 rfl : KM 310 1793 = some (.iaload, 1, 0, 0, .null, none))).trans (RH_iaload)
set_option maxRecDepth 100000 in
theorem s310_1794 {fu d : Nat} {lv : LV} {st : List Value} {h : AH} : aGo (fu + 1) d (310, 1794, lv, st, h) = ob (popN 3 st []) fun q => gT (isO h 12 q.1 = true ∧ q.2.length ≤ 12 ∧ (layA q.1).length ≤ MX 283) (ob (aCall d 283 q.1 h) (kont d 310 (1797) lv q.2)) := (st_of (kmOf kt310 rfl : KM 310 1794 = some (.invokevirtual 200, 3, 283, 3, (.retAddr 12), none))).trans (RH_invokevirtual (by decide))
set_option maxRecDepth 100000 in
theorem s310_1797 {fu d : Nat} {lv : LV} {st : List Value} {h : AH} : aGo (fu + 1) d (310, 1797, lv, st, h) = pI st fun y st => pI st fun x st => if x = y then aGo fu d (310, 1995, lv, st, h) else aGo fu d (310, 1800, lv, st, h) := (st_of (kmOf kt310 rfl : KM 310 1797 = some (.if_icmp .eq 198, 3, 1995, 0, .null, none))).trans (RH_icmp_eq)
set_option maxRecDepth 100000 in
theorem s310_1800 {fu d : Nat} {lv : LV} {st : List Value} {h : AH} : aGo (fu + 1) d (310, 1800, lv, st, h) = aGo fu d (310, 1801, lv, (.int (0)) :: st, h) := (st_of (kmOf kt310 rfl : KM 310 1800 = some (.iconst 0, 1, 0, 0, (.int (0)), none))).trans (RH_iconst)
set_option maxRecDepth 100000 in
theorem s310_1801 {fu d : Nat} {lv : LV} {st : List Value} {h : AH} : aGo (fu + 1) d (310, 1801, lv, st, h) = match st with | [.int x] => gT ((1 = 1 → x = 0 ∨ x = 1) ∧ (1 = 2 → x.toInt8.toInt32 = x)) (some (some (.int x), h)) | _ => none := (st_of (kmOf kt310 rfl : KM 310 1801 = some (.ireturn, 1, 1, 0, .null, none))).trans (RH_ireturn)
set_option maxRecDepth 100000 in
theorem s310_1802 {fu d : Nat} {lv : LV} {st : List Value} {h : AH} : aGo (fu + 1) d (310, 1802, lv, st, h) = lR (ld lv 1) fun x => aGo fu d (310, 1803, lv, x :: st, h) := (st_of (kmOf kt310 rfl : KM 310 1802 = some (.aload_n 1, 1, 0, 0, .null, none))).trans (RH_aload_n)
set_option maxRecDepth 100000 in
theorem s310_1803 {fu d : Nat} {lv : LV} {st : List Value} {h : AH} : aGo (fu + 1) d (310, 1803, lv, st, h) = lR (ld lv 0) fun x => aGo fu d (310, 1804, lv, x :: st, h) := (st_of (kmOf kt310 rfl : KM 310 1803 = some (.aload_n 0, 1, 0, 0, .null, none))).trans (RH_aload_n)
set_option maxRecDepth 100000 in
theorem s310_1804 {fu d : Nat} {lv : LV} {st : List Value} {h : AH} : aGo (fu + 1) d (310, 1804, lv, st, h) = lI (ld lv 4) fun x => aGo fu d (310, 1806, lv, .int x :: st, h) := (st_of (kmOf kt310 rfl : KM 310 1804 = some (.iload 4, 2, 0, 0, .null, none))).trans (RH_iload)
set_option maxRecDepth 100000 in
theorem s310_1806 {fu d : Nat} {lv : LV} {st : List Value} {h : AH} : aGo (fu + 1) d (310, 1806, lv, st, h) = aGo fu d (310, 1807, lv, (.int (1)) :: st, h) := (st_of (kmOf kt310 rfl : KM 310 1806 = some (.iconst 1, 1, 0, 0, (.int (1)), none))).trans (RH_iconst)
set_option maxRecDepth 100000 in
theorem s310_1807 {fu d : Nat} {lv : LV} {st : List Value} {h : AH} : aGo (fu + 1) d (310, 1807, lv, st, h) = pI st fun y st => pI st fun x st => aGo fu d (310, 1808, lv, .int (x + y) :: st, h) := (st_of (kmOf kt310 rfl : KM 310 1807 = some (.iadd, 1, 0, 0, .null, none))).trans (RH_iadd)
set_option maxRecDepth 100000 in
theorem s310_1808 {fu d : Nat} {lv : LV} {st : List Value} {h : AH} : aGo (fu + 1) d (310, 1808, lv, st, h) = pI st fun i st => pR st fun r st => hIld h r i fun x => aGo fu d (310, 1809, lv, .int x :: st, h) := (st_of (kmOf kt310 rfl : KM 310 1808 = some (.iaload, 1, 0, 0, .null, none))).trans (RH_iaload)
set_option maxRecDepth 100000 in
theorem s310_1809 {fu d : Nat} {lv : LV} {st : List Value} {h : AH} : aGo (fu + 1) d (310, 1809, lv, st, h) = lR (ld lv 0) fun x => aGo fu d (310, 1810, lv, x :: st, h) := (st_of (kmOf kt310 rfl : KM 310 1809 = some (.aload_n 0, 1, 0, 0, .null, none))).trans (RH_aload_n)
set_option maxRecDepth 100000 in
theorem s310_1810 {fu d : Nat} {lv : LV} {st : List Value} {h : AH} : aGo (fu + 1) d (310, 1810, lv, st, h) = lI (ld lv 4) fun x => aGo fu d (310, 1812, lv, .int x :: st, h) := (st_of (kmOf kt310 rfl : KM 310 1810 = some (.iload 4, 2, 0, 0, .null, none))).trans (RH_iload)
set_option maxRecDepth 100000 in
theorem s310_1812 {fu d : Nat} {lv : LV} {st : List Value} {h : AH} : aGo (fu + 1) d (310, 1812, lv, st, h) = aGo fu d (310, 1813, lv, (.int (2)) :: st, h) := (st_of (kmOf kt310 rfl : KM 310 1812 = some (.iconst 2, 1, 0, 0, (.int (2)), none))).trans (RH_iconst)
set_option maxRecDepth 100000 in
theorem s310_1813 {fu d : Nat} {lv : LV} {st : List Value} {h : AH} : aGo (fu + 1) d (310, 1813, lv, st, h) = pI st fun y st => pI st fun x st => aGo fu d (310, 1814, lv, .int (x + y) :: st, h) := (st_of (kmOf kt310 rfl : KM 310 1813 = some (.iadd, 1, 0, 0, .null, none))).trans (RH_iadd)
set_option maxRecDepth 100000 in
theorem s310_1814 {fu d : Nat} {lv : LV} {st : List Value} {h : AH} : aGo (fu + 1) d (310, 1814, lv, st, h) = pI st fun i st => pR st fun r st => hIld h r i fun x => aGo fu d (310, 1815, lv, .int x :: st, h) := (st_of (kmOf kt310 rfl : KM 310 1814 = some (.iaload, 1, 0, 0, .null, none))).trans (RH_iaload)
set_option maxRecDepth 100000 in
theorem s310_1815 {fu d : Nat} {lv : LV} {st : List Value} {h : AH} : aGo (fu + 1) d (310, 1815, lv, st, h) = ob (popN 3 st []) fun q => gT (isO h 11 q.1 = true ∧ q.2.length ≤ 12 ∧ (layA q.1).length ≤ MX 161) (ob (aCall d 161 q.1 h) (kont d 310 (1818) lv q.2)) := (st_of (kmOf kt310 rfl : KM 310 1815 = some (.invokevirtual 201, 3, 161, 3, (.retAddr 11), none))).trans (RH_invokevirtual (by decide))
set_option maxRecDepth 100000 in
theorem s310_1818 {fu d : Nat} {lv : LV} {st : List Value} {h : AH} : aGo (fu + 1) d (310, 1818, lv, st, h) = lR (ld lv 2) fun x => aGo fu d (310, 1819, lv, x :: st, h) := (st_of (kmOf kt310 rfl : KM 310 1818 = some (.aload_n 2, 1, 0, 0, .null, none))).trans (RH_aload_n)
set_option maxRecDepth 100000 in
theorem s310_1819 {fu d : Nat} {lv : LV} {st : List Value} {h : AH} : aGo (fu + 1) d (310, 1819, lv, st, h) = lR (ld lv 0) fun x => aGo fu d (310, 1820, lv, x :: st, h) := (st_of (kmOf kt310 rfl : KM 310 1819 = some (.aload_n 0, 1, 0, 0, .null, none))).trans (RH_aload_n)
set_option maxRecDepth 100000 in
theorem s310_1820 {fu d : Nat} {lv : LV} {st : List Value} {h : AH} : aGo (fu + 1) d (310, 1820, lv, st, h) = lI (ld lv 4) fun x => aGo fu d (310, 1822, lv, .int x :: st, h) := (st_of (kmOf kt310 rfl : KM 310 1820 = some (.iload 4, 2, 0, 0, .null, none))).trans (RH_iload)
set_option maxRecDepth 100000 in
theorem s310_1822 {fu d : Nat} {lv : LV} {st : List Value} {h : AH} : aGo (fu + 1) d (310, 1822, lv, st, h) = aGo fu d (310, 1823, lv, (.int (1)) :: st, h) := (st_of (kmOf kt310 rfl : KM 310 1822 = some (.iconst 1, 1, 0, 0, (.int (1)), none))).trans (RH_iconst)
set_option maxRecDepth 100000 in
theorem s310_1823 {fu d : Nat} {lv : LV} {st : List Value} {h : AH} : aGo (fu + 1) d (310, 1823, lv, st, h) = pI st fun y st => pI st fun x st => aGo fu d (310, 1824, lv, .int (x + y) :: st, h) := (st_of (kmOf kt310 rfl : KM 310 1823 = some (.iadd, 1, 0, 0, .null, none))).trans (RH_iadd)
set_option maxRecDepth 100000 in
theorem s310_1824 {fu d : Nat} {lv : LV} {st : List Value} {h : AH} : aGo (fu + 1) d (310, 1824, lv, st, h) = pI st fun i st => pR st fun r st => hIld h r i fun x => aGo fu d (310, 1825, lv, .int x :: st, h) := (st_of (kmOf kt310 rfl : KM 310 1824 = some (.iaload, 1, 0, 0, .null, none))).trans (RH_iaload)
set_option maxRecDepth 100000 in
theorem s310_1825 {fu d : Nat} {lv : LV} {st : List Value} {h : AH} : aGo (fu + 1) d (310, 1825, lv, st, h) = lR (ld lv 0) fun x => aGo fu d (310, 1826, lv, x :: st, h) := (st_of (kmOf kt310 rfl : KM 310 1825 = some (.aload_n 0, 1, 0, 0, .null, none))).trans (RH_aload_n)
set_option maxRecDepth 100000 in
theorem s310_1826 {fu d : Nat} {lv : LV} {st : List Value} {h : AH} : aGo (fu + 1) d (310, 1826, lv, st, h) = lI (ld lv 4) fun x => aGo fu d (310, 1828, lv, .int x :: st, h) := (st_of (kmOf kt310 rfl : KM 310 1826 = some (.iload 4, 2, 0, 0, .null, none))).trans (RH_iload)
set_option maxRecDepth 100000 in
theorem s310_1828 {fu d : Nat} {lv : LV} {st : List Value} {h : AH} : aGo (fu + 1) d (310, 1828, lv, st, h) = aGo fu d (310, 1829, lv, (.int (2)) :: st, h) := (st_of (kmOf kt310 rfl : KM 310 1828 = some (.iconst 2, 1, 0, 0, (.int (2)), none))).trans (RH_iconst)
set_option maxRecDepth 100000 in
theorem s310_1829 {fu d : Nat} {lv : LV} {st : List Value} {h : AH} : aGo (fu + 1) d (310, 1829, lv, st, h) = pI st fun y st => pI st fun x st => aGo fu d (310, 1830, lv, .int (x + y) :: st, h) := (st_of (kmOf kt310 rfl : KM 310 1829 = some (.iadd, 1, 0, 0, .null, none))).trans (RH_iadd)
set_option maxRecDepth 100000 in
theorem s310_1830 {fu d : Nat} {lv : LV} {st : List Value} {h : AH} : aGo (fu + 1) d (310, 1830, lv, st, h) = pI st fun i st => pR st fun r st => hIld h r i fun x => aGo fu d (310, 1831, lv, .int x :: st, h) := (st_of (kmOf kt310 rfl : KM 310 1830 = some (.iaload, 1, 0, 0, .null, none))).trans (RH_iaload)
set_option maxRecDepth 100000 in
theorem s310_1831 {fu d : Nat} {lv : LV} {st : List Value} {h : AH} : aGo (fu + 1) d (310, 1831, lv, st, h) = ob (popN 3 st []) fun q => gT (isO h 12 q.1 = true ∧ q.2.length ≤ 12 ∧ (layA q.1).length ≤ MX 284) (ob (aCall d 284 q.1 h) (kont d 310 (1834) lv q.2)) := (st_of (kmOf kt310 rfl : KM 310 1831 = some (.invokevirtual 204, 3, 284, 3, (.retAddr 12), none))).trans (RH_invokevirtual (by decide))
set_option maxRecDepth 100000 in
theorem s310_1834 {fu d : Nat} {lv : LV} {st : List Value} {h : AH} : aGo (fu + 1) d (310, 1834, lv, st, h) = pI st fun y st => pI st fun x st => if x = y then aGo fu d (310, 1995, lv, st, h) else aGo fu d (310, 1837, lv, st, h) := (st_of (kmOf kt310 rfl : KM 310 1834 = some (.if_icmp .eq 161, 3, 1995, 0, .null, none))).trans (RH_icmp_eq)
set_option maxRecDepth 100000 in
theorem s310_1837 {fu d : Nat} {lv : LV} {st : List Value} {h : AH} : aGo (fu + 1) d (310, 1837, lv, st, h) = aGo fu d (310, 1838, lv, (.int (0)) :: st, h) := (st_of (kmOf kt310 rfl : KM 310 1837 = some (.iconst 0, 1, 0, 0, (.int (0)), none))).trans (RH_iconst)
set_option maxRecDepth 100000 in
theorem s310_1838 {fu d : Nat} {lv : LV} {st : List Value} {h : AH} : aGo (fu + 1) d (310, 1838, lv, st, h) = match st with | [.int x] => gT ((1 = 1 → x = 0 ∨ x = 1) ∧ (1 = 2 → x.toInt8.toInt32 = x)) (some (some (.int x), h)) | _ => none := (st_of (kmOf kt310 rfl : KM 310 1838 = some (.ireturn, 1, 1, 0, .null, none))).trans (RH_ireturn)
set_option maxRecDepth 100000 in
theorem s310_1839 {fu d : Nat} {lv : LV} {st : List Value} {h : AH} : aGo (fu + 1) d (310, 1839, lv, st, h) = lR (ld lv 1) fun x => aGo fu d (310, 1840, lv, x :: st, h) := (st_of (kmOf kt310 rfl : KM 310 1839 = some (.aload_n 1, 1, 0, 0, .null, none))).trans (RH_aload_n)
set_option maxRecDepth 100000 in
theorem s310_1840 {fu d : Nat} {lv : LV} {st : List Value} {h : AH} : aGo (fu + 1) d (310, 1840, lv, st, h) = lR (ld lv 0) fun x => aGo fu d (310, 1841, lv, x :: st, h) := (st_of (kmOf kt310 rfl : KM 310 1840 = some (.aload_n 0, 1, 0, 0, .null, none))).trans (RH_aload_n)
set_option maxRecDepth 100000 in
theorem s310_1841 {fu d : Nat} {lv : LV} {st : List Value} {h : AH} : aGo (fu + 1) d (310, 1841, lv, st, h) = lI (ld lv 4) fun x => aGo fu d (310, 1843, lv, .int x :: st, h) := (st_of (kmOf kt310 rfl : KM 310 1841 = some (.iload 4, 2, 0, 0, .null, none))).trans (RH_iload)
set_option maxRecDepth 100000 in
theorem s310_1843 {fu d : Nat} {lv : LV} {st : List Value} {h : AH} : aGo (fu + 1) d (310, 1843, lv, st, h) = aGo fu d (310, 1844, lv, (.int (1)) :: st, h) := (st_of (kmOf kt310 rfl : KM 310 1843 = some (.iconst 1, 1, 0, 0, (.int (1)), none))).trans (RH_iconst)
set_option maxRecDepth 100000 in
theorem s310_1844 {fu d : Nat} {lv : LV} {st : List Value} {h : AH} : aGo (fu + 1) d (310, 1844, lv, st, h) = pI st fun y st => pI st fun x st => aGo fu d (310, 1845, lv, .int (x + y) :: st, h) := (st_of (kmOf kt310 rfl : KM 310 1844 = some (.iadd, 1, 0, 0, .null, none))).trans (RH_iadd)
set_option maxRecDepth 100000 in
theorem s310_1845 {fu d : Nat} {lv : LV} {st : List Value} {h : AH} : aGo (fu + 1) d (310, 1845, lv, st, h) = pI st fun i st => pR st fun r st => hIld h r i fun x => aGo fu d (310, 1846, lv, .int x :: st, h) := (st_of (kmOf kt310 rfl : KM 310 1845 = some (.iaload, 1, 0, 0, .null, none))).trans (RH_iaload)
set_option maxRecDepth 100000 in
theorem s310_1846 {fu d : Nat} {lv : LV} {st : List Value} {h : AH} : aGo (fu + 1) d (310, 1846, lv, st, h) = ob (popN 2 st []) fun q => gT (isO h 11 q.1 = true ∧ q.2.length ≤ 12 ∧ (layA q.1).length ≤ MX 162) (ob (aCall d 162 q.1 h) (kont d 310 (1849) lv q.2)) := (st_of (kmOf kt310 rfl : KM 310 1846 = some (.invokevirtual 205, 3, 162, 2, (.retAddr 11), none))).trans (RH_invokevirtual (by decide))
set_option maxRecDepth 100000 in
theorem s310_1849 {fu d : Nat} {lv : LV} {st : List Value} {h : AH} : aGo (fu + 1) d (310, 1849, lv, st, h) = lR (ld lv 2) fun x => aGo fu d (310, 1850, lv, x :: st, h) := (st_of (kmOf kt310 rfl : KM 310 1849 = some (.aload_n 2, 1, 0, 0, .null, none))).trans (RH_aload_n)
set_option maxRecDepth 100000 in
theorem s310_1850 {fu d : Nat} {lv : LV} {st : List Value} {h : AH} : aGo (fu + 1) d (310, 1850, lv, st, h) = lR (ld lv 0) fun x => aGo fu d (310, 1851, lv, x :: st, h) := (st_of (kmOf kt310 rfl : KM 310 1850 = some (.aload_n 0, 1, 0, 0, .null, none))).trans (RH_aload_n)
set_option maxRecDepth 100000 in
theorem s310_1851 {fu d : Nat} {lv : LV} {st : List Value} {h : AH} : aGo (fu + 1) d (310, 1851, lv, st, h) = lI (ld lv 4) fun x => aGo fu d (310, 1853, lv, .int x :: st, h) := (st_of (kmOf kt310 rfl : KM 310 1851 = some (.iload 4, 2, 0, 0, .null, none))).trans (RH_iload)
set_option maxRecDepth 100000 in
theorem s310_1853 {fu d : Nat} {lv : LV} {st : List Value} {h : AH} : aGo (fu + 1) d (310, 1853, lv, st, h) = aGo fu d (310, 1854, lv, (.int (1)) :: st, h) := (st_of (kmOf kt310 rfl : KM 310 1853 = some (.iconst 1, 1, 0, 0, (.int (1)), none))).trans (RH_iconst)
set_option maxRecDepth 100000 in
theorem s310_1854 {fu d : Nat} {lv : LV} {st : List Value} {h : AH} : aGo (fu + 1) d (310, 1854, lv, st, h) = pI st fun y st => pI st fun x st => aGo fu d (310, 1855, lv, .int (x + y) :: st, h) := (st_of (kmOf kt310 rfl : KM 310 1854 = some (.iadd, 1, 0, 0, .null, none))).trans (RH_iadd)
set_option maxRecDepth 100000 in
theorem s310_1855 {fu d : Nat} {lv : LV} {st : List Value} {h : AH} : aGo (fu + 1) d (310, 1855, lv, st, h) = pI st fun i st => pR st fun r st => hIld h r i fun x => aGo fu d (310, 1856, lv, .int x :: st, h) := (st_of (kmOf kt310 rfl : KM 310 1855 = some (.iaload, 1, 0, 0, .null, none))).trans (RH_iaload)
set_option maxRecDepth 100000 in
theorem s310_1856 {fu d : Nat} {lv : LV} {st : List Value} {h : AH} : aGo (fu + 1) d (310, 1856, lv, st, h) = ob (popN 2 st []) fun q => gT (isO h 12 q.1 = true ∧ q.2.length ≤ 12 ∧ (layA q.1).length ≤ MX 285) (ob (aCall d 285 q.1 h) (kont d 310 (1859) lv q.2)) := (st_of (kmOf kt310 rfl : KM 310 1856 = some (.invokevirtual 208, 3, 285, 2, (.retAddr 12), none))).trans (RH_invokevirtual (by decide))
set_option maxRecDepth 100000 in
theorem s310_1859 {fu d : Nat} {lv : LV} {st : List Value} {h : AH} : aGo (fu + 1) d (310, 1859, lv, st, h) = pI st fun y st => pI st fun x st => if x = y then aGo fu d (310, 1995, lv, st, h) else aGo fu d (310, 1862, lv, st, h) := (st_of (kmOf kt310 rfl : KM 310 1859 = some (.if_icmp .eq 136, 3, 1995, 0, .null, none))).trans (RH_icmp_eq)
set_option maxRecDepth 100000 in
theorem s310_1862 {fu d : Nat} {lv : LV} {st : List Value} {h : AH} : aGo (fu + 1) d (310, 1862, lv, st, h) = aGo fu d (310, 1863, lv, (.int (0)) :: st, h) := (st_of (kmOf kt310 rfl : KM 310 1862 = some (.iconst 0, 1, 0, 0, (.int (0)), none))).trans (RH_iconst)
set_option maxRecDepth 100000 in
theorem s310_1863 {fu d : Nat} {lv : LV} {st : List Value} {h : AH} : aGo (fu + 1) d (310, 1863, lv, st, h) = match st with | [.int x] => gT ((1 = 1 → x = 0 ∨ x = 1) ∧ (1 = 2 → x.toInt8.toInt32 = x)) (some (some (.int x), h)) | _ => none := (st_of (kmOf kt310 rfl : KM 310 1863 = some (.ireturn, 1, 1, 0, .null, none))).trans (RH_ireturn)
set_option maxRecDepth 100000 in
theorem s310_1864 {fu d : Nat} {lv : LV} {st : List Value} {h : AH} : aGo (fu + 1) d (310, 1864, lv, st, h) = lR (ld lv 1) fun x => aGo fu d (310, 1865, lv, x :: st, h) := (st_of (kmOf kt310 rfl : KM 310 1864 = some (.aload_n 1, 1, 0, 0, .null, none))).trans (RH_aload_n)
set_option maxRecDepth 100000 in
theorem s310_1865 {fu d : Nat} {lv : LV} {st : List Value} {h : AH} : aGo (fu + 1) d (310, 1865, lv, st, h) = ob (popN 1 st []) fun q => gT (isO h 11 q.1 = true ∧ q.2.length ≤ 12 ∧ (layA q.1).length ≤ MX 163) (ob (aCall d 163 q.1 h) (kont d 310 (1868) lv q.2)) := (st_of (kmOf kt310 rfl : KM 310 1865 = some (.invokevirtual 209, 3, 163, 1, (.retAddr 11), none))).trans (RH_invokevirtual (by decide))
set_option maxRecDepth 100000 in
theorem s310_1868 {fu d : Nat} {lv : LV} {st : List Value} {h : AH} : aGo (fu + 1) d (310, 1868, lv, st, h) = lR (ld lv 2) fun x => aGo fu d (310, 1869, lv, x :: st, h) := (st_of (kmOf kt310 rfl : KM 310 1868 = some (.aload_n 2, 1, 0, 0, .null, none))).trans (RH_aload_n)
set_option maxRecDepth 100000 in
theorem s310_1869 {fu d : Nat} {lv : LV} {st : List Value} {h : AH} : aGo (fu + 1) d (310, 1869, lv, st, h) = ob (popN 1 st []) fun q => gT (isO h 12 q.1 = true ∧ q.2.length ≤ 12 ∧ (layA q.1).length ≤ MX 286) (ob (aCall d 286 q.1 h) (kont d 310 (1872) lv q.2)) := (st_of (kmOf kt310 rfl : KM 310 1869 = some (.invokevirtual 212, 3, 286, 1, (.retAddr 12), none))).trans (RH_invokevirtual (by decide))
set_option maxRecDepth 100000 in
theorem s310_1872 {fu d : Nat} {lv : LV} {st : List Value} {h : AH} : aGo (fu + 1) d (310, 1872, lv, st, h) = pI st fun y st => pI st fun x st => if x = y then aGo fu d (310, 1995, lv, st, h) else aGo fu d (310, 1875, lv, st, h) := (st_of (kmOf kt310 rfl : KM 310 1872 = some (.if_icmp .eq 123, 3, 1995, 0, .null, none))).trans (RH_icmp_eq)
set_option maxRecDepth 100000 in
theorem s310_1875 {fu d : Nat} {lv : LV} {st : List Value} {h : AH} : aGo (fu + 1) d (310, 1875, lv, st, h) = aGo fu d (310, 1876, lv, (.int (0)) :: st, h) := (st_of (kmOf kt310 rfl : KM 310 1875 = some (.iconst 0, 1, 0, 0, (.int (0)), none))).trans (RH_iconst)
set_option maxRecDepth 100000 in
theorem s310_1876 {fu d : Nat} {lv : LV} {st : List Value} {h : AH} : aGo (fu + 1) d (310, 1876, lv, st, h) = match st with | [.int x] => gT ((1 = 1 → x = 0 ∨ x = 1) ∧ (1 = 2 → x.toInt8.toInt32 = x)) (some (some (.int x), h)) | _ => none := (st_of (kmOf kt310 rfl : KM 310 1876 = some (.ireturn, 1, 1, 0, .null, none))).trans (RH_ireturn)
set_option maxRecDepth 100000 in
theorem s310_1877 {fu d : Nat} {lv : LV} {st : List Value} {h : AH} : aGo (fu + 1) d (310, 1877, lv, st, h) = lR (ld lv 1) fun x => aGo fu d (310, 1878, lv, x :: st, h) := (st_of (kmOf kt310 rfl : KM 310 1877 = some (.aload_n 1, 1, 0, 0, .null, none))).trans (RH_aload_n)
set_option maxRecDepth 100000 in
theorem s310_1878 {fu d : Nat} {lv : LV} {st : List Value} {h : AH} : aGo (fu + 1) d (310, 1878, lv, st, h) = lR (ld lv 0) fun x => aGo fu d (310, 1879, lv, x :: st, h) := (st_of (kmOf kt310 rfl : KM 310 1878 = some (.aload_n 0, 1, 0, 0, .null, none))).trans (RH_aload_n)
set_option maxRecDepth 100000 in
theorem s310_1879 {fu d : Nat} {lv : LV} {st : List Value} {h : AH} : aGo (fu + 1) d (310, 1879, lv, st, h) = lI (ld lv 4) fun x => aGo fu d (310, 1881, lv, .int x :: st, h) := (st_of (kmOf kt310 rfl : KM 310 1879 = some (.iload 4, 2, 0, 0, .null, none))).trans (RH_iload)
set_option maxRecDepth 100000 in
theorem s310_1881 {fu d : Nat} {lv : LV} {st : List Value} {h : AH} : aGo (fu + 1) d (310, 1881, lv, st, h) = aGo fu d (310, 1882, lv, (.int (1)) :: st, h) := (st_of (kmOf kt310 rfl : KM 310 1881 = some (.iconst 1, 1, 0, 0, (.int (1)), none))).trans (RH_iconst)
set_option maxRecDepth 100000 in
theorem s310_1882 {fu d : Nat} {lv : LV} {st : List Value} {h : AH} : aGo (fu + 1) d (310, 1882, lv, st, h) = pI st fun y st => pI st fun x st => aGo fu d (310, 1883, lv, .int (x + y) :: st, h) := (st_of (kmOf kt310 rfl : KM 310 1882 = some (.iadd, 1, 0, 0, .null, none))).trans (RH_iadd)
set_option maxRecDepth 100000 in
theorem s310_1883 {fu d : Nat} {lv : LV} {st : List Value} {h : AH} : aGo (fu + 1) d (310, 1883, lv, st, h) = pI st fun i st => pR st fun r st => hIld h r i fun x => aGo fu d (310, 1884, lv, .int x :: st, h) := (st_of (kmOf kt310 rfl : KM 310 1883 = some (.iaload, 1, 0, 0, .null, none))).trans (RH_iaload)
set_option maxRecDepth 100000 in
theorem s310_1884 {fu d : Nat} {lv : LV} {st : List Value} {h : AH} : aGo (fu + 1) d (310, 1884, lv, st, h) = ob (popN 2 st []) fun q => gT (isO h 11 q.1 = true ∧ q.2.length ≤ 12 ∧ (layA q.1).length ≤ MX 164) (ob (aCall d 164 q.1 h) (kont d 310 (1887) lv q.2)) := (st_of (kmOf kt310 rfl : KM 310 1884 = some (.invokevirtual 213, 3, 164, 2, (.retAddr 11), none))).trans (RH_invokevirtual (by decide))
set_option maxRecDepth 100000 in
theorem s310_1887 {fu d : Nat} {lv : LV} {st : List Value} {h : AH} : aGo (fu + 1) d (310, 1887, lv, st, h) = lR (ld lv 2) fun x => aGo fu d (310, 1888, lv, x :: st, h) := (st_of (kmOf kt310 rfl : KM 310 1887 = some (.aload_n 2, 1, 0, 0, .null, none))).trans (RH_aload_n)
set_option maxRecDepth 100000 in
theorem s310_1888 {fu d : Nat} {lv : LV} {st : List Value} {h : AH} : aGo (fu + 1) d (310, 1888, lv, st, h) = lR (ld lv 0) fun x => aGo fu d (310, 1889, lv, x :: st, h) := (st_of (kmOf kt310 rfl : KM 310 1888 = some (.aload_n 0, 1, 0, 0, .null, none))).trans (RH_aload_n)
set_option maxRecDepth 100000 in
theorem s310_1889 {fu d : Nat} {lv : LV} {st : List Value} {h : AH} : aGo (fu + 1) d (310, 1889, lv, st, h) = lI (ld lv 4) fun x => aGo fu d (310, 1891, lv, .int x :: st, h) := (st_of (kmOf kt310 rfl : KM 310 1889 = some (.iload 4, 2, 0, 0, .null, none))).trans (RH_iload)
set_option maxRecDepth 100000 in
theorem s310_1891 {fu d : Nat} {lv : LV} {st : List Value} {h : AH} : aGo (fu + 1) d (310, 1891, lv, st, h) = aGo fu d (310, 1892, lv, (.int (1)) :: st, h) := (st_of (kmOf kt310 rfl : KM 310 1891 = some (.iconst 1, 1, 0, 0, (.int (1)), none))).trans (RH_iconst)
set_option maxRecDepth 100000 in
theorem s310_1892 {fu d : Nat} {lv : LV} {st : List Value} {h : AH} : aGo (fu + 1) d (310, 1892, lv, st, h) = pI st fun y st => pI st fun x st => aGo fu d (310, 1893, lv, .int (x + y) :: st, h) := (st_of (kmOf kt310 rfl : KM 310 1892 = some (.iadd, 1, 0, 0, .null, none))).trans (RH_iadd)
set_option maxRecDepth 100000 in
theorem s310_1893 {fu d : Nat} {lv : LV} {st : List Value} {h : AH} : aGo (fu + 1) d (310, 1893, lv, st, h) = pI st fun i st => pR st fun r st => hIld h r i fun x => aGo fu d (310, 1894, lv, .int x :: st, h) := (st_of (kmOf kt310 rfl : KM 310 1893 = some (.iaload, 1, 0, 0, .null, none))).trans (RH_iaload)
set_option maxRecDepth 100000 in
theorem s310_1894 {fu d : Nat} {lv : LV} {st : List Value} {h : AH} : aGo (fu + 1) d (310, 1894, lv, st, h) = ob (popN 2 st []) fun q => gT (isO h 12 q.1 = true ∧ q.2.length ≤ 12 ∧ (layA q.1).length ≤ MX 287) (ob (aCall d 287 q.1 h) (kont d 310 (1897) lv q.2)) := (st_of (kmOf kt310 rfl : KM 310 1894 = some (.invokevirtual 216, 3, 287, 2, (.retAddr 12), none))).trans (RH_invokevirtual (by decide))
set_option maxRecDepth 100000 in
theorem s310_1897 {fu d : Nat} {lv : LV} {st : List Value} {h : AH} : aGo (fu + 1) d (310, 1897, lv, st, h) = pI st fun y st => pI st fun x st => if x = y then aGo fu d (310, 1995, lv, st, h) else aGo fu d (310, 1900, lv, st, h) := (st_of (kmOf kt310 rfl : KM 310 1897 = some (.if_icmp .eq 98, 3, 1995, 0, .null, none))).trans (RH_icmp_eq)
set_option maxRecDepth 100000 in
theorem s310_1900 {fu d : Nat} {lv : LV} {st : List Value} {h : AH} : aGo (fu + 1) d (310, 1900, lv, st, h) = aGo fu d (310, 1901, lv, (.int (0)) :: st, h) := (st_of (kmOf kt310 rfl : KM 310 1900 = some (.iconst 0, 1, 0, 0, (.int (0)), none))).trans (RH_iconst)
set_option maxRecDepth 100000 in
theorem s310_1901 {fu d : Nat} {lv : LV} {st : List Value} {h : AH} : aGo (fu + 1) d (310, 1901, lv, st, h) = match st with | [.int x] => gT ((1 = 1 → x = 0 ∨ x = 1) ∧ (1 = 2 → x.toInt8.toInt32 = x)) (some (some (.int x), h)) | _ => none := (st_of (kmOf kt310 rfl : KM 310 1901 = some (.ireturn, 1, 1, 0, .null, none))).trans (RH_ireturn)
set_option maxRecDepth 100000 in
theorem s310_1902 {fu d : Nat} {lv : LV} {st : List Value} {h : AH} : aGo (fu + 1) d (310, 1902, lv, st, h) = lR (ld lv 1) fun x => aGo fu d (310, 1903, lv, x :: st, h) := (st_of (kmOf kt310 rfl : KM 310 1902 = some (.aload_n 1, 1, 0, 0, .null, none))).trans (RH_aload_n)
set_option maxRecDepth 100000 in
theorem s310_1903 {fu d : Nat} {lv : LV} {st : List Value} {h : AH} : aGo (fu + 1) d (310, 1903, lv, st, h) = lR (ld lv 0) fun x => aGo fu d (310, 1904, lv, x :: st, h) := (st_of (kmOf kt310 rfl : KM 310 1903 = some (.aload_n 0, 1, 0, 0, .null, none))).trans (RH_aload_n)
set_option maxRecDepth 100000 in
theorem s310_1904 {fu d : Nat} {lv : LV} {st : List Value} {h : AH} : aGo (fu + 1) d (310, 1904, lv, st, h) = lI (ld lv 4) fun x => aGo fu d (310, 1906, lv, .int x :: st, h) := (st_of (kmOf kt310 rfl : KM 310 1904 = some (.iload 4, 2, 0, 0, .null, none))).trans (RH_iload)
set_option maxRecDepth 100000 in
theorem s310_1906 {fu d : Nat} {lv : LV} {st : List Value} {h : AH} : aGo (fu + 1) d (310, 1906, lv, st, h) = aGo fu d (310, 1907, lv, (.int (1)) :: st, h) := (st_of (kmOf kt310 rfl : KM 310 1906 = some (.iconst 1, 1, 0, 0, (.int (1)), none))).trans (RH_iconst)
set_option maxRecDepth 100000 in
theorem s310_1907 {fu d : Nat} {lv : LV} {st : List Value} {h : AH} : aGo (fu + 1) d (310, 1907, lv, st, h) = pI st fun y st => pI st fun x st => aGo fu d (310, 1908, lv, .int (x + y) :: st, h) := (st_of (kmOf kt310 rfl : KM 310 1907 = some (.iadd, 1, 0, 0, .null, none))).trans (RH_iadd)
set_option maxRecDepth 100000 in
theorem s310_1908 {fu d : Nat} {lv : LV} {st : List Value} {h : AH} : aGo (fu + 1) d (310, 1908, lv, st, h) = pI st fun i st => pR st fun r st => hIld h r i fun x => aGo fu d (310, 1909, lv, .int x :: st, h) := (st_of (kmOf kt310 rfl : KM 310 1908 = some (.iaload, 1, 0, 0, .null, none))).trans (RH_iaload)
set_option maxRecDepth 100000 in
theorem s310_1909 {fu d : Nat} {lv : LV} {st : List Value} {h : AH} : aGo (fu + 1) d (310, 1909, lv, st, h) = lR (ld lv 0) fun x => aGo fu d (310, 1910, lv, x :: st, h) := (st_of (kmOf kt310 rfl : KM 310 1909 = some (.aload_n 0, 1, 0, 0, .null, none))).trans (RH_aload_n)
set_option maxRecDepth 100000 in
theorem s310_1910 {fu d : Nat} {lv : LV} {st : List Value} {h : AH} : aGo (fu + 1) d (310, 1910, lv, st, h) = lI (ld lv 4) fun x => aGo fu d (310, 1912, lv, .int x :: st, h) := (st_of (kmOf kt310 rfl : KM 310 1910 = some (.iload 4, 2, 0, 0, .null, none))).trans (RH_iload)
set_option maxRecDepth 100000 in
theorem s310_1912 {fu d : Nat} {lv : LV} {st : List Value} {h : AH} : aGo (fu + 1) d (310, 1912, lv, st, h) = aGo fu d (310, 1913, lv, (.int (2)) :: st, h) := (st_of (kmOf kt310 rfl : KM 310 1912 = some (.iconst 2, 1, 0, 0, (.int (2)), none))).trans (RH_iconst)
set_option maxRecDepth 100000 in
theorem s310_1913 {fu d : Nat} {lv : LV} {st : List Value} {h : AH} : aGo (fu + 1) d (310, 1913, lv, st, h) = pI st fun y st => pI st fun x st => aGo fu d (310, 1914, lv, .int (x + y) :: st, h) := (st_of (kmOf kt310 rfl : KM 310 1913 = some (.iadd, 1, 0, 0, .null, none))).trans (RH_iadd)
set_option maxRecDepth 100000 in
theorem s310_1914 {fu d : Nat} {lv : LV} {st : List Value} {h : AH} : aGo (fu + 1) d (310, 1914, lv, st, h) = pI st fun i st => pR st fun r st => hIld h r i fun x => aGo fu d (310, 1915, lv, .int x :: st, h) := (st_of (kmOf kt310 rfl : KM 310 1914 = some (.iaload, 1, 0, 0, .null, none))).trans (RH_iaload)
set_option maxRecDepth 100000 in
theorem s310_1915 {fu d : Nat} {lv : LV} {st : List Value} {h : AH} : aGo (fu + 1) d (310, 1915, lv, st, h) = ob (popN 3 st []) fun q => gT (isO h 11 q.1 = true ∧ q.2.length ≤ 12 ∧ (layA q.1).length ≤ MX 165) (ob (aCall d 165 q.1 h) (kont d 310 (1918) lv q.2)) := (st_of (kmOf kt310 rfl : KM 310 1915 = some (.invokevirtual 217, 3, 165, 3, (.retAddr 11), none))).trans (RH_invokevirtual (by decide))
set_option maxRecDepth 100000 in
theorem s310_1918 {fu d : Nat} {lv : LV} {st : List Value} {h : AH} : aGo (fu + 1) d (310, 1918, lv, st, h) = lR (ld lv 2) fun x => aGo fu d (310, 1919, lv, x :: st, h) := (st_of (kmOf kt310 rfl : KM 310 1918 = some (.aload_n 2, 1, 0, 0, .null, none))).trans (RH_aload_n)
set_option maxRecDepth 100000 in
theorem s310_1919 {fu d : Nat} {lv : LV} {st : List Value} {h : AH} : aGo (fu + 1) d (310, 1919, lv, st, h) = lR (ld lv 0) fun x => aGo fu d (310, 1920, lv, x :: st, h) := (st_of (kmOf kt310 rfl : KM 310 1919 = some (.aload_n 0, 1, 0, 0, .null, none))).trans (RH_aload_n)
set_option maxRecDepth 100000 in
theorem s310_1920 {fu d : Nat} {lv : LV} {st : List Value} {h : AH} : aGo (fu + 1) d (310, 1920, lv, st, h) = lI (ld lv 4) fun x => aGo fu d (310, 1922, lv, .int x :: st, h) := (st_of (kmOf kt310 rfl : KM 310 1920 = some (.iload 4, 2, 0, 0, .null, none))).trans (RH_iload)
set_option maxRecDepth 100000 in
theorem s310_1922 {fu d : Nat} {lv : LV} {st : List Value} {h : AH} : aGo (fu + 1) d (310, 1922, lv, st, h) = aGo fu d (310, 1923, lv, (.int (1)) :: st, h) := (st_of (kmOf kt310 rfl : KM 310 1922 = some (.iconst 1, 1, 0, 0, (.int (1)), none))).trans (RH_iconst)
set_option maxRecDepth 100000 in
theorem s310_1923 {fu d : Nat} {lv : LV} {st : List Value} {h : AH} : aGo (fu + 1) d (310, 1923, lv, st, h) = pI st fun y st => pI st fun x st => aGo fu d (310, 1924, lv, .int (x + y) :: st, h) := (st_of (kmOf kt310 rfl : KM 310 1923 = some (.iadd, 1, 0, 0, .null, none))).trans (RH_iadd)
set_option maxRecDepth 100000 in
theorem s310_1924 {fu d : Nat} {lv : LV} {st : List Value} {h : AH} : aGo (fu + 1) d (310, 1924, lv, st, h) = pI st fun i st => pR st fun r st => hIld h r i fun x => aGo fu d (310, 1925, lv, .int x :: st, h) := (st_of (kmOf kt310 rfl : KM 310 1924 = some (.iaload, 1, 0, 0, .null, none))).trans (RH_iaload)
set_option maxRecDepth 100000 in
theorem s310_1925 {fu d : Nat} {lv : LV} {st : List Value} {h : AH} : aGo (fu + 1) d (310, 1925, lv, st, h) = lR (ld lv 0) fun x => aGo fu d (310, 1926, lv, x :: st, h) := (st_of (kmOf kt310 rfl : KM 310 1925 = some (.aload_n 0, 1, 0, 0, .null, none))).trans (RH_aload_n)
set_option maxRecDepth 100000 in
theorem s310_1926 {fu d : Nat} {lv : LV} {st : List Value} {h : AH} : aGo (fu + 1) d (310, 1926, lv, st, h) = lI (ld lv 4) fun x => aGo fu d (310, 1928, lv, .int x :: st, h) := (st_of (kmOf kt310 rfl : KM 310 1926 = some (.iload 4, 2, 0, 0, .null, none))).trans (RH_iload)
set_option maxRecDepth 100000 in
theorem s310_1928 {fu d : Nat} {lv : LV} {st : List Value} {h : AH} : aGo (fu + 1) d (310, 1928, lv, st, h) = aGo fu d (310, 1929, lv, (.int (2)) :: st, h) := (st_of (kmOf kt310 rfl : KM 310 1928 = some (.iconst 2, 1, 0, 0, (.int (2)), none))).trans (RH_iconst)
set_option maxRecDepth 100000 in
theorem s310_1929 {fu d : Nat} {lv : LV} {st : List Value} {h : AH} : aGo (fu + 1) d (310, 1929, lv, st, h) = pI st fun y st => pI st fun x st => aGo fu d (310, 1930, lv, .int (x + y) :: st, h) := (st_of (kmOf kt310 rfl : KM 310 1929 = some (.iadd, 1, 0, 0, .null, none))).trans (RH_iadd)
set_option maxRecDepth 100000 in
theorem s310_1930 {fu d : Nat} {lv : LV} {st : List Value} {h : AH} : aGo (fu + 1) d (310, 1930, lv, st, h) = pI st fun i st => pR st fun r st => hIld h r i fun x => aGo fu d (310, 1931, lv, .int x :: st, h) := (st_of (kmOf kt310 rfl : KM 310 1930 = some (.iaload, 1, 0, 0, .null, none))).trans (RH_iaload)
set_option maxRecDepth 100000 in
theorem s310_1931 {fu d : Nat} {lv : LV} {st : List Value} {h : AH} : aGo (fu + 1) d (310, 1931, lv, st, h) = ob (popN 3 st []) fun q => gT (isO h 12 q.1 = true ∧ q.2.length ≤ 12 ∧ (layA q.1).length ≤ MX 289) (ob (aCall d 289 q.1 h) (kont d 310 (1934) lv q.2)) := (st_of (kmOf kt310 rfl : KM 310 1931 = some (.invokevirtual 220, 3, 289, 3, (.retAddr 12), none))).trans (RH_invokevirtual (by decide))
set_option maxRecDepth 100000 in
theorem s310_1934 {fu d : Nat} {lv : LV} {st : List Value} {h : AH} : aGo (fu + 1) d (310, 1934, lv, st, h) = pI st fun y st => pI st fun x st => if x = y then aGo fu d (310, 1995, lv, st, h) else aGo fu d (310, 1937, lv, st, h) := (st_of (kmOf kt310 rfl : KM 310 1934 = some (.if_icmp .eq 61, 3, 1995, 0, .null, none))).trans (RH_icmp_eq)
set_option maxRecDepth 100000 in
theorem s310_1937 {fu d : Nat} {lv : LV} {st : List Value} {h : AH} : aGo (fu + 1) d (310, 1937, lv, st, h) = aGo fu d (310, 1938, lv, (.int (0)) :: st, h) := (st_of (kmOf kt310 rfl : KM 310 1937 = some (.iconst 0, 1, 0, 0, (.int (0)), none))).trans (RH_iconst)
set_option maxRecDepth 100000 in
theorem s310_1938 {fu d : Nat} {lv : LV} {st : List Value} {h : AH} : aGo (fu + 1) d (310, 1938, lv, st, h) = match st with | [.int x] => gT ((1 = 1 → x = 0 ∨ x = 1) ∧ (1 = 2 → x.toInt8.toInt32 = x)) (some (some (.int x), h)) | _ => none := (st_of (kmOf kt310 rfl : KM 310 1938 = some (.ireturn, 1, 1, 0, .null, none))).trans (RH_ireturn)
set_option maxRecDepth 100000 in
theorem s310_1939 {fu d : Nat} {lv : LV} {st : List Value} {h : AH} : aGo (fu + 1) d (310, 1939, lv, st, h) = lR (ld lv 1) fun x => aGo fu d (310, 1940, lv, x :: st, h) := (st_of (kmOf kt310 rfl : KM 310 1939 = some (.aload_n 1, 1, 0, 0, .null, none))).trans (RH_aload_n)
set_option maxRecDepth 100000 in
theorem s310_1940 {fu d : Nat} {lv : LV} {st : List Value} {h : AH} : aGo (fu + 1) d (310, 1940, lv, st, h) = lR (ld lv 0) fun x => aGo fu d (310, 1941, lv, x :: st, h) := (st_of (kmOf kt310 rfl : KM 310 1940 = some (.aload_n 0, 1, 0, 0, .null, none))).trans (RH_aload_n)
set_option maxRecDepth 100000 in
theorem s310_1941 {fu d : Nat} {lv : LV} {st : List Value} {h : AH} : aGo (fu + 1) d (310, 1941, lv, st, h) = lI (ld lv 4) fun x => aGo fu d (310, 1943, lv, .int x :: st, h) := (st_of (kmOf kt310 rfl : KM 310 1941 = some (.iload 4, 2, 0, 0, .null, none))).trans (RH_iload)
set_option maxRecDepth 100000 in
theorem s310_1943 {fu d : Nat} {lv : LV} {st : List Value} {h : AH} : aGo (fu + 1) d (310, 1943, lv, st, h) = aGo fu d (310, 1944, lv, (.int (1)) :: st, h) := (st_of (kmOf kt310 rfl : KM 310 1943 = some (.iconst 1, 1, 0, 0, (.int (1)), none))).trans (RH_iconst)
set_option maxRecDepth 100000 in
theorem s310_1944 {fu d : Nat} {lv : LV} {st : List Value} {h : AH} : aGo (fu + 1) d (310, 1944, lv, st, h) = pI st fun y st => pI st fun x st => aGo fu d (310, 1945, lv, .int (x + y) :: st, h) := (st_of (kmOf kt310 rfl : KM 310 1944 = some (.iadd, 1, 0, 0, .null, none))).trans (RH_iadd)
set_option maxRecDepth 100000 in
theorem s310_1945 {fu d : Nat} {lv : LV} {st : List Value} {h : AH} : aGo (fu + 1) d (310, 1945, lv, st, h) = pI st fun i st => pR st fun r st => hIld h r i fun x => aGo fu d (310, 1946, lv, .int x :: st, h) := (st_of (kmOf kt310 rfl : KM 310 1945 = some (.iaload, 1, 0, 0, .null, none))).trans (RH_iaload)
set_option maxRecDepth 100000 in
theorem s310_1946 {fu d : Nat} {lv : LV} {st : List Value} {h : AH} : aGo (fu + 1) d (310, 1946, lv, st, h) = lR (ld lv 3) fun x => aGo fu d (310, 1947, lv, x :: st, h) := (st_of (kmOf kt310 rfl : KM 310 1946 = some (.aload_n 3, 1, 0, 0, .null, none))).trans (RH_aload_n)
set_option maxRecDepth 100000 in
theorem s310_1947 {fu d : Nat} {lv : LV} {st : List Value} {h : AH} : aGo (fu + 1) d (310, 1947, lv, st, h) = rowB h st fun st h => gT (st.length ≤ 12) (aGo fu d (310, 1950, lv, st, h)) := (st_of (kmOf kt310 rfl : KM 310 1947 = some (.invokestatic 221, 3, 9002, 3, .null, none))).trans (RH_lawrow)
set_option maxRecDepth 100000 in
theorem s310_1950 {fu d : Nat} {lv : LV} {st : List Value} {h : AH} : aGo (fu + 1) d (310, 1950, lv, st, h) = pI st fun x st => aGo fu d (310, 1952, ss1 lv 5 (.int x), st, h) := (st_of (kmOf kt310 rfl : KM 310 1950 = some (.istore 5, 2, 0, 0, .null, none))).trans (RH_istore)
set_option maxRecDepth 100000 in
theorem s310_1952 {fu d : Nat} {lv : LV} {st : List Value} {h : AH} : aGo (fu + 1) d (310, 1952, lv, st, h) = lR (ld lv 2) fun x => aGo fu d (310, 1953, lv, x :: st, h) := (st_of (kmOf kt310 rfl : KM 310 1952 = some (.aload_n 2, 1, 0, 0, .null, none))).trans (RH_aload_n)
set_option maxRecDepth 100000 in
theorem s310_1953 {fu d : Nat} {lv : LV} {st : List Value} {h : AH} : aGo (fu + 1) d (310, 1953, lv, st, h) = lR (ld lv 0) fun x => aGo fu d (310, 1954, lv, x :: st, h) := (st_of (kmOf kt310 rfl : KM 310 1953 = some (.aload_n 0, 1, 0, 0, .null, none))).trans (RH_aload_n)
set_option maxRecDepth 100000 in
theorem s310_1954 {fu d : Nat} {lv : LV} {st : List Value} {h : AH} : aGo (fu + 1) d (310, 1954, lv, st, h) = lI (ld lv 4) fun x => aGo fu d (310, 1956, lv, .int x :: st, h) := (st_of (kmOf kt310 rfl : KM 310 1954 = some (.iload 4, 2, 0, 0, .null, none))).trans (RH_iload)
set_option maxRecDepth 100000 in
theorem s310_1956 {fu d : Nat} {lv : LV} {st : List Value} {h : AH} : aGo (fu + 1) d (310, 1956, lv, st, h) = aGo fu d (310, 1957, lv, (.int (1)) :: st, h) := (st_of (kmOf kt310 rfl : KM 310 1956 = some (.iconst 1, 1, 0, 0, (.int (1)), none))).trans (RH_iconst)
set_option maxRecDepth 100000 in
theorem s310_1957 {fu d : Nat} {lv : LV} {st : List Value} {h : AH} : aGo (fu + 1) d (310, 1957, lv, st, h) = pI st fun y st => pI st fun x st => aGo fu d (310, 1958, lv, .int (x + y) :: st, h) := (st_of (kmOf kt310 rfl : KM 310 1957 = some (.iadd, 1, 0, 0, .null, none))).trans (RH_iadd)
set_option maxRecDepth 100000 in
theorem s310_1958 {fu d : Nat} {lv : LV} {st : List Value} {h : AH} : aGo (fu + 1) d (310, 1958, lv, st, h) = pI st fun i st => pR st fun r st => hIld h r i fun x => aGo fu d (310, 1959, lv, .int x :: st, h) := (st_of (kmOf kt310 rfl : KM 310 1958 = some (.iaload, 1, 0, 0, .null, none))).trans (RH_iaload)
set_option maxRecDepth 100000 in
theorem s310_1959 {fu d : Nat} {lv : LV} {st : List Value} {h : AH} : aGo (fu + 1) d (310, 1959, lv, st, h) = ob (popN 2 st []) fun q => gT (isO h 12 q.1 = true ∧ q.2.length ≤ 12 ∧ (layA q.1).length ≤ MX 291) (ob (aCall d 291 q.1 h) (kont d 310 (1962) lv q.2)) := (st_of (kmOf kt310 rfl : KM 310 1959 = some (.invokevirtual 226, 3, 291, 2, (.retAddr 12), none))).trans (RH_invokevirtual (by decide))
set_option maxRecDepth 100000 in
theorem s310_1962 {fu d : Nat} {lv : LV} {st : List Value} {h : AH} : aGo (fu + 1) d (310, 1962, lv, st, h) = pI st fun x st => aGo fu d (310, 1964, ss1 lv 6 (.int x), st, h) := (st_of (kmOf kt310 rfl : KM 310 1962 = some (.istore 6, 2, 0, 0, .null, none))).trans (RH_istore)
set_option maxRecDepth 100000 in
theorem s310_1964 {fu d : Nat} {lv : LV} {st : List Value} {h : AH} : aGo (fu + 1) d (310, 1964, lv, st, h) = lR (ld lv 2) fun x => aGo fu d (310, 1965, lv, x :: st, h) := (st_of (kmOf kt310 rfl : KM 310 1964 = some (.aload_n 2, 1, 0, 0, .null, none))).trans (RH_aload_n)
set_option maxRecDepth 100000 in
theorem s310_1965 {fu d : Nat} {lv : LV} {st : List Value} {h : AH} : aGo (fu + 1) d (310, 1965, lv, st, h) = ob (popN 1 st []) fun q => gT (isO h 12 q.1 = true ∧ q.2.length ≤ 12 ∧ (layA q.1).length ≤ MX 184) (ob (aCall d 184 q.1 h) (kont d 310 (1968) lv q.2)) := (st_of (kmOf kt310 rfl : KM 310 1965 = some (.invokevirtual 227, 3, 184, 1, (.retAddr 12), none))).trans (RH_invokevirtual (by decide))
set_option maxRecDepth 100000 in
theorem s310_1968 {fu d : Nat} {lv : LV} {st : List Value} {h : AH} : aGo (fu + 1) d (310, 1968, lv, st, h) = lI (ld lv 5) fun x => aGo fu d (310, 1970, lv, .int x :: st, h) := (st_of (kmOf kt310 rfl : KM 310 1968 = some (.iload 5, 2, 0, 0, .null, none))).trans (RH_iload)
set_option maxRecDepth 100000 in
theorem s310_1970 {fu d : Nat} {lv : LV} {st : List Value} {h : AH} : aGo (fu + 1) d (310, 1970, lv, st, h) = pI st fun y st => pI st fun x st => if x = y then aGo fu d (310, 1975, lv, st, h) else aGo fu d (310, 1973, lv, st, h) := (st_of (kmOf kt310 rfl : KM 310 1970 = some (.if_icmp .eq 5, 3, 1975, 0, .null, none))).trans (RH_icmp_eq)
set_option maxRecDepth 100000 in
theorem s310_1973 {fu d : Nat} {lv : LV} {st : List Value} {h : AH} : aGo (fu + 1) d (310, 1973, lv, st, h) = aGo fu d (310, 1974, lv, (.int (0)) :: st, h) := (st_of (kmOf kt310 rfl : KM 310 1973 = some (.iconst 0, 1, 0, 0, (.int (0)), none))).trans (RH_iconst)
set_option maxRecDepth 100000 in
theorem s310_1974 {fu d : Nat} {lv : LV} {st : List Value} {h : AH} : aGo (fu + 1) d (310, 1974, lv, st, h) = match st with | [.int x] => gT ((1 = 1 → x = 0 ∨ x = 1) ∧ (1 = 2 → x.toInt8.toInt32 = x)) (some (some (.int x), h)) | _ => none := (st_of (kmOf kt310 rfl : KM 310 1974 = some (.ireturn, 1, 1, 0, .null, none))).trans (RH_ireturn)
set_option maxRecDepth 100000 in
theorem s310_1975 {fu d : Nat} {lv : LV} {st : List Value} {h : AH} : aGo (fu + 1) d (310, 1975, lv, st, h) = lI (ld lv 5) fun x => aGo fu d (310, 1977, lv, .int x :: st, h) := (st_of (kmOf kt310 rfl : KM 310 1975 = some (.iload 5, 2, 0, 0, .null, none))).trans (RH_iload)
set_option maxRecDepth 100000 in
theorem s310_1977 {fu d : Nat} {lv : LV} {st : List Value} {h : AH} : aGo (fu + 1) d (310, 1977, lv, st, h) = pI st fun x st => if ¬ x = 0 then aGo fu d (310, 1992, lv, st, h) else aGo fu d (310, 1980, lv, st, h) := (st_of (kmOf kt310 rfl : KM 310 1977 = some (.ifCond .ne 15, 3, 1992, 0, .null, none))).trans (RH_if_ne)
set_option maxRecDepth 100000 in
theorem s310_1980 {fu d : Nat} {lv : LV} {st : List Value} {h : AH} : aGo (fu + 1) d (310, 1980, lv, st, h) = lR (ld lv 3) fun x => aGo fu d (310, 1981, lv, x :: st, h) := (st_of (kmOf kt310 rfl : KM 310 1980 = some (.aload_n 3, 1, 0, 0, .null, none))).trans (RH_aload_n)
set_option maxRecDepth 100000 in
theorem s310_1981 {fu d : Nat} {lv : LV} {st : List Value} {h : AH} : aGo (fu + 1) d (310, 1981, lv, st, h) = aGo fu d (310, 1982, lv, (.int (0)) :: st, h) := (st_of (kmOf kt310 rfl : KM 310 1981 = some (.iconst 0, 1, 0, 0, (.int (0)), none))).trans (RH_iconst)
set_option maxRecDepth 100000 in
theorem s310_1982 {fu d : Nat} {lv : LV} {st : List Value} {h : AH} : aGo (fu + 1) d (310, 1982, lv, st, h) = pI st fun i st => pR st fun r st => hJld h r i fun x => aGo fu d (310, 1983, lv, .long x :: st, h) := (st_of (kmOf kt310 rfl : KM 310 1982 = some (.laload, 1, 0, 0, .null, none))).trans (RH_laload)
set_option maxRecDepth 100000 in
theorem s310_1983 {fu d : Nat} {lv : LV} {st : List Value} {h : AH} : aGo (fu + 1) d (310, 1983, lv, st, h) = lI (ld lv 6) fun x => aGo fu d (310, 1985, lv, .int x :: st, h) := (st_of (kmOf kt310 rfl : KM 310 1983 = some (.iload 6, 2, 0, 0, .null, none))).trans (RH_iload)
set_option maxRecDepth 100000 in
theorem s310_1985 {fu d : Nat} {lv : LV} {st : List Value} {h : AH} : aGo (fu + 1) d (310, 1985, lv, st, h) = pI st fun x st => aGo fu d (310, 1986, lv, .long x.toInt64 :: st, h) := (st_of (kmOf kt310 rfl : KM 310 1985 = some (.i2l, 1, 0, 0, .null, none))).trans (RH_i2l)
set_option maxRecDepth 100000 in
theorem s310_1986 {fu d : Nat} {lv : LV} {st : List Value} {h : AH} : aGo (fu + 1) d (310, 1986, lv, st, h) = pJ st fun y st => pJ st fun x st => aGo fu d (310, 1987, lv, .int (lg_cmp x y) :: st, h) := (st_of (kmOf kt310 rfl : KM 310 1986 = some (.lcmp, 1, 0, 0, .null, none))).trans (RH_lcmp)
set_option maxRecDepth 100000 in
theorem s310_1987 {fu d : Nat} {lv : LV} {st : List Value} {h : AH} : aGo (fu + 1) d (310, 1987, lv, st, h) = pI st fun x st => if x = 0 then aGo fu d (310, 1992, lv, st, h) else aGo fu d (310, 1990, lv, st, h) := (st_of (kmOf kt310 rfl : KM 310 1987 = some (.ifCond .eq 5, 3, 1992, 0, .null, none))).trans (RH_if_eq)
set_option maxRecDepth 100000 in
theorem s310_1990 {fu d : Nat} {lv : LV} {st : List Value} {h : AH} : aGo (fu + 1) d (310, 1990, lv, st, h) = aGo fu d (310, 1991, lv, (.int (0)) :: st, h) := (st_of (kmOf kt310 rfl : KM 310 1990 = some (.iconst 0, 1, 0, 0, (.int (0)), none))).trans (RH_iconst)
set_option maxRecDepth 100000 in
theorem s310_1991 {fu d : Nat} {lv : LV} {st : List Value} {h : AH} : aGo (fu + 1) d (310, 1991, lv, st, h) = match st with | [.int x] => gT ((1 = 1 → x = 0 ∨ x = 1) ∧ (1 = 2 → x.toInt8.toInt32 = x)) (some (some (.int x), h)) | _ => none := (st_of (kmOf kt310 rfl : KM 310 1991 = some (.ireturn, 1, 1, 0, .null, none))).trans (RH_ireturn)
set_option maxRecDepth 100000 in
theorem s310_1992 {fu d : Nat} {lv : LV} {st : List Value} {h : AH} : aGo (fu + 1) d (310, 1992, lv, st, h) = aGo fu d (310, 1995, lv, st, h) := (st_of (kmOf kt310 rfl : KM 310 1992 = some (.goto 3, 3, 1995, 0, .null, none))).trans (RH_goto)
set_option maxRecDepth 100000 in
theorem s310_1995 {fu d : Nat} {lv : LV} {st : List Value} {h : AH} : aGo (fu + 1) d (310, 1995, lv, st, h) = lI (ld lv 4) fun x => aGo fu d (310, 1998, ss1 lv 4 (.int (x + (7))), st, h) := (st_of (kmOf kt310 rfl : KM 310 1995 = some (.iinc 4 7, 3, 0, 0, (.int (7)), none))).trans (RH_iinc)
set_option maxRecDepth 100000 in
theorem s310_1998 {fu d : Nat} {lv : LV} {st : List Value} {h : AH} : aGo (fu + 1) d (310, 1998, lv, st, h) = aGo fu d (310, 23, lv, st, h) := (st_of (kmOf kt310 rfl : KM 310 1998 = some (.goto (-1975), 3, 23, 0, .null, none))).trans (RH_goto)
set_option maxRecDepth 100000 in
theorem s310_2001 {fu d : Nat} {lv : LV} {st : List Value} {h : AH} : aGo (fu + 1) d (310, 2001, lv, st, h) = aGo fu d (310, 2002, lv, (.int (1)) :: st, h) := (st_of (kmOf kt310 rfl : KM 310 2001 = some (.iconst 1, 1, 0, 0, (.int (1)), none))).trans (RH_iconst)
set_option maxRecDepth 100000 in
theorem s310_2002 {fu d : Nat} {lv : LV} {st : List Value} {h : AH} : aGo (fu + 1) d (310, 2002, lv, st, h) = match st with | [.int x] => gT ((1 = 1 → x = 0 ∨ x = 1) ∧ (1 = 2 → x.toInt8.toInt32 = x)) (some (some (.int x), h)) | _ => none := (st_of (kmOf kt310 rfl : KM 310 2002 = some (.ireturn, 1, 1, 0, .null, none))).trans (RH_ireturn)
