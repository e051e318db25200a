/-! small numbers as they stand in the code -/
theorem nlit2 : (2 : Int32) = nI 2 := rfl
theorem nlit3 : (3 : Int32) = nI 3 := rfl
theorem nlit4 : (4 : Int32) = nI 4 := rfl
theorem nlit5 : (5 : Int32) = nI 5 := rfl
theorem nlit6 : (6 : Int32) = nI 6 := rfl
theorem nlit7 : (7 : Int32) = nI 7 := rfl
theorem nlit8 : (8 : Int32) = nI 8 := rfl
theorem nlit9 : (9 : Int32) = nI 9 := rfl
theorem nlit10 : (10 : Int32) = nI 10 := rfl
theorem nlit11 : (11 : Int32) = nI 11 := rfl
theorem nlit12 : (12 : Int32) = nI 12 := rfl
theorem nlit15 : (15 : Int32) = nI 15 := rfl
theorem nlit16 : (16 : Int32) = nI 16 := rfl
theorem nlit20 : (20 : Int32) = nI 20 := rfl
theorem nlit24 : (24 : Int32) = nI 24 := rfl
theorem nlit32 : (32 : Int32) = nI 32 := rfl
theorem nlit36 : (36 : Int32) = nI 36 := rfl
theorem nlit40 : (40 : Int32) = nI 40 := rfl
theorem nlit41 : (41 : Int32) = nI 41 := rfl
theorem nlit42 : (42 : Int32) = nI 42 := rfl
theorem nlit43 : (43 : Int32) = nI 43 := rfl
theorem nlit45 : (45 : Int32) = nI 45 := rfl
theorem nlit47 : (47 : Int32) = nI 47 := rfl
theorem nlit48 : (48 : Int32) = nI 48 := rfl
theorem nlit57 : (57 : Int32) = nI 57 := rfl
theorem nlit58 : (58 : Int32) = nI 58 := rfl
theorem nlit59 : (59 : Int32) = nI 59 := rfl
theorem nlit60 : (60 : Int32) = nI 60 := rfl
theorem nlit61 : (61 : Int32) = nI 61 := rfl
theorem nlit62 : (62 : Int32) = nI 62 := rfl
theorem nlit63 : (63 : Int32) = nI 63 := rfl
theorem nlit64 : (64 : Int32) = nI 64 := rfl
theorem nlit65 : (65 : Int32) = nI 65 := rfl
theorem nlit96 : (96 : Int32) = nI 96 := rfl
theorem nlit100 : (100 : Int32) = nI 100 := rfl
theorem nlit127 : (127 : Int32) = nI 127 := rfl
theorem nlit128 : (128 : Int32) = nI 128 := rfl
theorem nlit255 : (255 : Int32) = nI 255 := rfl
theorem nlit310 : (310 : Int32) = nI 310 := rfl
theorem nlit512 : (512 : Int32) = nI 512 := rfl
theorem nlit1024 : (1024 : Int32) = nI 1024 := rfl
theorem nlit16384 : (16384 : Int32) = nI 16384 := rfl
theorem nlit1000000 : (1000000 : Int32) = nI 1000000 := rfl
theorem vp_id {i : Int32} {n : Nat} (h : vp_in i n) : vp_in i n := h
theorem i8_0 : (Int32.toInt8 0).toInt32 = 0 := rfl
theorem i8_1 : (Int32.toInt8 1).toInt32 = 1 := rfl
theorem bi_ok2 (b : Bool) : (b = false ∨ bi b = 1) = True := by cases b <;> simp [bi]
