theorem kmOf {m pc : Nat} {t : List (Nat × EN)} {e : EN} (h : KT.find? (fun q => q.1 == m) = some (m, t)) (h2 : t.find? (fun e => e.1 == pc) = some (pc, e)) : KM m pc = some e := by unfold KM; rw [h]; simp only [Option.bind_some]; rw [h2]; rfl
set_option maxRecDepth 100000 in
theorem kt0 : KT.find? (fun q => q.1 == 0) = some (0, k0) := rfl
set_option maxRecDepth 100000 in
theorem kt1 : KT.find? (fun q => q.1 == 1) = some (1, k1) := rfl
set_option maxRecDepth 100000 in
theorem kt2 : KT.find? (fun q => q.1 == 2) = some (2, k2) := rfl
set_option maxRecDepth 100000 in
theorem kt3 : KT.find? (fun q => q.1 == 3) = some (3, k3) := rfl
set_option maxRecDepth 100000 in
theorem kt4 : KT.find? (fun q => q.1 == 4) = some (4, k4) := rfl
set_option maxRecDepth 100000 in
theorem kt5 : KT.find? (fun q => q.1 == 5) = some (5, k5) := rfl
set_option maxRecDepth 100000 in
theorem kt6 : KT.find? (fun q => q.1 == 6) = some (6, k6) := rfl
set_option maxRecDepth 100000 in
theorem kt7 : KT.find? (fun q => q.1 == 7) = some (7, k7) := rfl
set_option maxRecDepth 100000 in
theorem kt8 : KT.find? (fun q => q.1 == 8) = some (8, k8) := rfl
set_option maxRecDepth 100000 in
theorem kt9 : KT.find? (fun q => q.1 == 9) = some (9, k9) := rfl
set_option maxRecDepth 100000 in
theorem kt10 : KT.find? (fun q => q.1 == 10) = some (10, k10) := rfl
set_option maxRecDepth 100000 in
theorem kt11 : KT.find? (fun q => q.1 == 11) = some (11, k11) := rfl
set_option maxRecDepth 100000 in
theorem kt12 : KT.find? (fun q => q.1 == 12) = some (12, k12) := rfl
set_option maxRecDepth 100000 in
theorem kt13 : KT.find? (fun q => q.1 == 13) = some (13, k13) := rfl
set_option maxRecDepth 100000 in
theorem kt14 : KT.find? (fun q => q.1 == 14) = some (14, k14) := rfl
set_option maxRecDepth 100000 in
theorem kt15 : KT.find? (fun q => q.1 == 15) = some (15, k15) := rfl
set_option maxRecDepth 100000 in
theorem kt16 : KT.find? (fun q => q.1 == 16) = some (16, k16) := rfl
set_option maxRecDepth 100000 in
theorem kt17 : KT.find? (fun q => q.1 == 17) = some (17, k17) := rfl
set_option maxRecDepth 100000 in
theorem kt18 : KT.find? (fun q => q.1 == 18) = some (18, k18) := rfl
set_option maxRecDepth 100000 in
theorem kt19 : KT.find? (fun q => q.1 == 19) = some (19, k19) := rfl
set_option maxRecDepth 100000 in
theorem kt20 : KT.find? (fun q => q.1 == 20) = some (20, k20) := rfl
set_option maxRecDepth 100000 in
theorem kt21 : KT.find? (fun q => q.1 == 21) = some (21, k21) := rfl
set_option maxRecDepth 100000 in
theorem kt22 : KT.find? (fun q => q.1 == 22) = some (22, k22) := rfl
set_option maxRecDepth 100000 in
theorem kt23 : KT.find? (fun q => q.1 == 23) = some (23, k23) := rfl
set_option maxRecDepth 100000 in
theorem kt24 : KT.find? (fun q => q.1 == 24) = some (24, k24) := rfl
set_option maxRecDepth 100000 in
theorem kt25 : KT.find? (fun q => q.1 == 25) = some (25, k25) := rfl
set_option maxRecDepth 100000 in
theorem kt26 : KT.find? (fun q => q.1 == 26) = some (26, k26) := rfl
set_option maxRecDepth 100000 in
theorem kt27 : KT.find? (fun q => q.1 == 27) = some (27, k27) := rfl
set_option maxRecDepth 100000 in
theorem kt28 : KT.find? (fun q => q.1 == 28) = some (28, k28) := rfl
set_option maxRecDepth 100000 in
theorem kt29 : KT.find? (fun q => q.1 == 29) = some (29, k29) := rfl
set_option maxRecDepth 100000 in
theorem kt30 : KT.find? (fun q => q.1 == 30) = some (30, k30) := rfl
set_option maxRecDepth 100000 in
theorem kt31 : KT.find? (fun q => q.1 == 31) = some (31, k31) := rfl
set_option maxRecDepth 100000 in
theorem kt32 : KT.find? (fun q => q.1 == 32) = some (32, k32) := rfl
set_option maxRecDepth 100000 in
theorem kt33 : KT.find? (fun q => q.1 == 33) = some (33, k33) := rfl
set_option maxRecDepth 100000 in
theorem kt34 : KT.find? (fun q => q.1 == 34) = some (34, k34) := rfl
set_option maxRecDepth 100000 in
theorem kt35 : KT.find? (fun q => q.1 == 35) = some (35, k35) := rfl
set_option maxRecDepth 100000 in
theorem kt36 : KT.find? (fun q => q.1 == 36) = some (36, k36) := rfl
set_option maxRecDepth 100000 in
theorem kt37 : KT.find? (fun q => q.1 == 37) = some (37, k37) := rfl
set_option maxRecDepth 100000 in
theorem kt38 : KT.find? (fun q => q.1 == 38) = some (38, k38) := rfl
set_option maxRecDepth 100000 in
theorem kt39 : KT.find? (fun q => q.1 == 39) = some (39, k39) := rfl
set_option maxRecDepth 100000 in
theorem kt40 : KT.find? (fun q => q.1 == 40) = some (40, k40) := rfl
set_option maxRecDepth 100000 in
theorem kt41 : KT.find? (fun q => q.1 == 41) = some (41, k41) := rfl
set_option maxRecDepth 100000 in
theorem kt42 : KT.find? (fun q => q.1 == 42) = some (42, k42) := rfl
set_option maxRecDepth 100000 in
theorem kt43 : KT.find? (fun q => q.1 == 43) = some (43, k43) := rfl
set_option maxRecDepth 100000 in
theorem kt44 : KT.find? (fun q => q.1 == 44) = some (44, k44) := rfl
set_option maxRecDepth 100000 in
theorem kt45 : KT.find? (fun q => q.1 == 45) = some (45, k45) := rfl
set_option maxRecDepth 100000 in
theorem kt46 : KT.find? (fun q => q.1 == 46) = some (46, k46) := rfl
set_option maxRecDepth 100000 in
theorem kt47 : KT.find? (fun q => q.1 == 47) = some (47, k47) := rfl
set_option maxRecDepth 100000 in
theorem kt48 : KT.find? (fun q => q.1 == 48) = some (48, k48) := rfl
set_option maxRecDepth 100000 in
theorem kt49 : KT.find? (fun q => q.1 == 49) = some (49, k49) := rfl
set_option maxRecDepth 100000 in
theorem kt50 : KT.find? (fun q => q.1 == 50) = some (50, k50) := rfl
set_option maxRecDepth 100000 in
theorem kt51 : KT.find? (fun q => q.1 == 51) = some (51, k51) := rfl
set_option maxRecDepth 100000 in
theorem kt52 : KT.find? (fun q => q.1 == 52) = some (52, k52) := rfl
set_option maxRecDepth 100000 in
theorem kt53 : KT.find? (fun q => q.1 == 53) = some (53, k53) := rfl
set_option maxRecDepth 100000 in
theorem kt54 : KT.find? (fun q => q.1 == 54) = some (54, k54) := rfl
set_option maxRecDepth 100000 in
theorem kt55 : KT.find? (fun q => q.1 == 55) = some (55, k55) := rfl
set_option maxRecDepth 100000 in
theorem kt56 : KT.find? (fun q => q.1 == 56) = some (56, k56) := rfl
set_option maxRecDepth 100000 in
theorem kt57 : KT.find? (fun q => q.1 == 57) = some (57, k57) := rfl
set_option maxRecDepth 100000 in
theorem kt58 : KT.find? (fun q => q.1 == 58) = some (58, k58) := rfl
set_option maxRecDepth 100000 in
theorem kt59 : KT.find? (fun q => q.1 == 59) = some (59, k59) := rfl
set_option maxRecDepth 100000 in
theorem kt60 : KT.find? (fun q => q.1 == 60) = some (60, k60) := rfl
set_option maxRecDepth 100000 in
theorem kt61 : KT.find? (fun q => q.1 == 61) = some (61, k61) := rfl
set_option maxRecDepth 100000 in
theorem kt62 : KT.find? (fun q => q.1 == 62) = some (62, k62) := rfl
set_option maxRecDepth 100000 in
theorem kt63 : KT.find? (fun q => q.1 == 63) = some (63, k63) := rfl
set_option maxRecDepth 100000 in
theorem kt64 : KT.find? (fun q => q.1 == 64) = some (64, k64) := rfl
set_option maxRecDepth 100000 in
theorem kt65 : KT.find? (fun q => q.1 == 65) = some (65, k65) := rfl
set_option maxRecDepth 100000 in
theorem kt66 : KT.find? (fun q => q.1 == 66) = some (66, k66) := rfl
set_option maxRecDepth 100000 in
theorem kt67 : KT.find? (fun q => q.1 == 67) = some (67, k67) := rfl
set_option maxRecDepth 100000 in
theorem kt68 : KT.find? (fun q => q.1 == 68) = some (68, k68) := rfl
set_option maxRecDepth 100000 in
theorem kt69 : KT.find? (fun q => q.1 == 69) = some (69, k69) := rfl
set_option maxRecDepth 100000 in
theorem kt70 : KT.find? (fun q => q.1 == 70) = some (70, k70) := rfl
set_option maxRecDepth 100000 in
theorem kt71 : KT.find? (fun q => q.1 == 71) = some (71, k71) := rfl
set_option maxRecDepth 100000 in
theorem kt72 : KT.find? (fun q => q.1 == 72) = some (72, k72) := rfl
set_option maxRecDepth 100000 in
theorem kt73 : KT.find? (fun q => q.1 == 73) = some (73, k73) := rfl
set_option maxRecDepth 100000 in
theorem kt74 : KT.find? (fun q => q.1 == 74) = some (74, k74) := rfl
set_option maxRecDepth 100000 in
theorem kt75 : KT.find? (fun q => q.1 == 75) = some (75, k75) := rfl
set_option maxRecDepth 100000 in
theorem kt76 : KT.find? (fun q => q.1 == 76) = some (76, k76) := rfl
set_option maxRecDepth 100000 in
theorem kt77 : KT.find? (fun q => q.1 == 77) = some (77, k77) := rfl
set_option maxRecDepth 100000 in
theorem kt78 : KT.find? (fun q => q.1 == 78) = some (78, k78) := rfl
set_option maxRecDepth 100000 in
theorem kt79 : KT.find? (fun q => q.1 == 79) = some (79, k79) := rfl
set_option maxRecDepth 100000 in
theorem kt80 : KT.find? (fun q => q.1 == 80) = some (80, k80) := rfl
set_option maxRecDepth 100000 in
theorem kt81 : KT.find? (fun q => q.1 == 81) = some (81, k81) := rfl
set_option maxRecDepth 100000 in
theorem kt82 : KT.find? (fun q => q.1 == 82) = some (82, k82) := rfl
set_option maxRecDepth 100000 in
theorem kt83 : KT.find? (fun q => q.1 == 83) = some (83, k83) := rfl
set_option maxRecDepth 100000 in
theorem kt84 : KT.find? (fun q => q.1 == 84) = some (84, k84) := rfl
set_option maxRecDepth 100000 in
theorem kt85 : KT.find? (fun q => q.1 == 85) = some (85, k85) := rfl
set_option maxRecDepth 100000 in
theorem kt86 : KT.find? (fun q => q.1 == 86) = some (86, k86) := rfl
set_option maxRecDepth 100000 in
theorem kt87 : KT.find? (fun q => q.1 == 87) = some (87, k87) := rfl
set_option maxRecDepth 100000 in
theorem kt88 : KT.find? (fun q => q.1 == 88) = some (88, k88) := rfl
set_option maxRecDepth 100000 in
theorem kt89 : KT.find? (fun q => q.1 == 89) = some (89, k89) := rfl
set_option maxRecDepth 100000 in
theorem kt90 : KT.find? (fun q => q.1 == 90) = some (90, k90) := rfl
set_option maxRecDepth 100000 in
theorem kt91 : KT.find? (fun q => q.1 == 91) = some (91, k91) := rfl
set_option maxRecDepth 100000 in
theorem kt92 : KT.find? (fun q => q.1 == 92) = some (92, k92) := rfl
set_option maxRecDepth 100000 in
theorem kt93 : KT.find? (fun q => q.1 == 93) = some (93, k93) := rfl
set_option maxRecDepth 100000 in
theorem kt94 : KT.find? (fun q => q.1 == 94) = some (94, k94) := rfl
set_option maxRecDepth 100000 in
theorem kt95 : KT.find? (fun q => q.1 == 95) = some (95, k95) := rfl
set_option maxRecDepth 100000 in
theorem kt96 : KT.find? (fun q => q.1 == 96) = some (96, k96) := rfl
set_option maxRecDepth 100000 in
theorem kt97 : KT.find? (fun q => q.1 == 97) = some (97, k97) := rfl
set_option maxRecDepth 100000 in
theorem kt98 : KT.find? (fun q => q.1 == 98) = some (98, k98) := rfl
set_option maxRecDepth 100000 in
theorem kt99 : KT.find? (fun q => q.1 == 99) = some (99, k99) := rfl
set_option maxRecDepth 100000 in
theorem kt100 : KT.find? (fun q => q.1 == 100) = some (100, k100) := rfl
set_option maxRecDepth 100000 in
theorem kt101 : KT.find? (fun q => q.1 == 101) = some (101, k101) := rfl
set_option maxRecDepth 100000 in
theorem kt102 : KT.find? (fun q => q.1 == 102) = some (102, k102) := rfl
set_option maxRecDepth 100000 in
theorem kt103 : KT.find? (fun q => q.1 == 103) = some (103, k103) := rfl
set_option maxRecDepth 100000 in
theorem kt104 : KT.find? (fun q => q.1 == 104) = some (104, k104) := rfl
set_option maxRecDepth 100000 in
theorem kt105 : KT.find? (fun q => q.1 == 105) = some (105, k105) := rfl
set_option maxRecDepth 100000 in
theorem kt106 : KT.find? (fun q => q.1 == 106) = some (106, k106) := rfl
set_option maxRecDepth 100000 in
theorem kt107 : KT.find? (fun q => q.1 == 107) = some (107, k107) := rfl
set_option maxRecDepth 100000 in
theorem kt108 : KT.find? (fun q => q.1 == 108) = some (108, k108) := rfl
set_option maxRecDepth 100000 in
theorem kt109 : KT.find? (fun q => q.1 == 109) = some (109, k109) := rfl
set_option maxRecDepth 100000 in
theorem kt110 : KT.find? (fun q => q.1 == 110) = some (110, k110) := rfl
set_option maxRecDepth 100000 in
theorem kt111 : KT.find? (fun q => q.1 == 111) = some (111, k111) := rfl
set_option maxRecDepth 100000 in
theorem kt112 : KT.find? (fun q => q.1 == 112) = some (112, k112) := rfl
set_option maxRecDepth 100000 in
theorem kt113 : KT.find? (fun q => q.1 == 113) = some (113, k113) := rfl
set_option maxRecDepth 100000 in
theorem kt114 : KT.find? (fun q => q.1 == 114) = some (114, k114) := rfl
set_option maxRecDepth 100000 in
theorem kt115 : KT.find? (fun q => q.1 == 115) = some (115, k115) := rfl
set_option maxRecDepth 100000 in
theorem kt116 : KT.find? (fun q => q.1 == 116) = some (116, k116) := rfl
set_option maxRecDepth 100000 in
theorem kt117 : KT.find? (fun q => q.1 == 117) = some (117, k117) := rfl
set_option maxRecDepth 100000 in
theorem kt118 : KT.find? (fun q => q.1 == 118) = some (118, k118) := rfl
set_option maxRecDepth 100000 in
theorem kt119 : KT.find? (fun q => q.1 == 119) = some (119, k119) := rfl
set_option maxRecDepth 100000 in
theorem kt120 : KT.find? (fun q => q.1 == 120) = some (120, k120) := rfl
set_option maxRecDepth 100000 in
theorem kt121 : KT.find? (fun q => q.1 == 121) = some (121, k121) := rfl
set_option maxRecDepth 100000 in
theorem kt122 : KT.find? (fun q => q.1 == 122) = some (122, k122) := rfl
set_option maxRecDepth 100000 in
theorem kt123 : KT.find? (fun q => q.1 == 123) = some (123, k123) := rfl
set_option maxRecDepth 100000 in
theorem kt124 : KT.find? (fun q => q.1 == 124) = some (124, k124) := rfl
set_option maxRecDepth 100000 in
theorem kt125 : KT.find? (fun q => q.1 == 125) = some (125, k125) := rfl
set_option maxRecDepth 100000 in
theorem kt126 : KT.find? (fun q => q.1 == 126) = some (126, k126) := rfl
set_option maxRecDepth 100000 in
theorem kt127 : KT.find? (fun q => q.1 == 127) = some (127, k127) := rfl
set_option maxRecDepth 100000 in
theorem kt128 : KT.find? (fun q => q.1 == 128) = some (128, k128) := rfl
set_option maxRecDepth 100000 in
theorem kt129 : KT.find? (fun q => q.1 == 129) = some (129, k129) := rfl
set_option maxRecDepth 100000 in
theorem kt130 : KT.find? (fun q => q.1 == 130) = some (130, k130) := rfl
set_option maxRecDepth 100000 in
theorem kt131 : KT.find? (fun q => q.1 == 131) = some (131, k131) := rfl
set_option maxRecDepth 100000 in
theorem kt132 : KT.find? (fun q => q.1 == 132) = some (132, k132) := rfl
set_option maxRecDepth 100000 in
theorem kt133 : KT.find? (fun q => q.1 == 133) = some (133, k133) := rfl
set_option maxRecDepth 100000 in
theorem kt134 : KT.find? (fun q => q.1 == 134) = some (134, k134) := rfl
set_option maxRecDepth 100000 in
theorem kt135 : KT.find? (fun q => q.1 == 135) = some (135, k135) := rfl
set_option maxRecDepth 100000 in
theorem kt136 : KT.find? (fun q => q.1 == 136) = some (136, k136) := rfl
set_option maxRecDepth 100000 in
theorem kt137 : KT.find? (fun q => q.1 == 137) = some (137, k137) := rfl
set_option maxRecDepth 100000 in
theorem kt138 : KT.find? (fun q => q.1 == 138) = some (138, k138) := rfl
set_option maxRecDepth 100000 in
theorem kt139 : KT.find? (fun q => q.1 == 139) = some (139, k139) := rfl
set_option maxRecDepth 100000 in
theorem kt140 : KT.find? (fun q => q.1 == 140) = some (140, k140) := rfl
set_option maxRecDepth 100000 in
theorem kt141 : KT.find? (fun q => q.1 == 141) = some (141, k141) := rfl
set_option maxRecDepth 100000 in
theorem kt142 : KT.find? (fun q => q.1 == 142) = some (142, k142) := rfl
set_option maxRecDepth 100000 in
theorem kt143 : KT.find? (fun q => q.1 == 143) = some (143, k143) := rfl
set_option maxRecDepth 100000 in
theorem kt144 : KT.find? (fun q => q.1 == 144) = some (144, k144) := rfl
set_option maxRecDepth 100000 in
theorem kt145 : KT.find? (fun q => q.1 == 145) = some (145, k145) := rfl
set_option maxRecDepth 100000 in
theorem kt146 : KT.find? (fun q => q.1 == 146) = some (146, k146) := rfl
set_option maxRecDepth 100000 in
theorem kt147 : KT.find? (fun q => q.1 == 147) = some (147, k147) := rfl
set_option maxRecDepth 100000 in
theorem kt148 : KT.find? (fun q => q.1 == 148) = some (148, k148) := rfl
set_option maxRecDepth 100000 in
theorem kt149 : KT.find? (fun q => q.1 == 149) = some (149, k149) := rfl
set_option maxRecDepth 100000 in
theorem kt150 : KT.find? (fun q => q.1 == 150) = some (150, k150) := rfl
set_option maxRecDepth 100000 in
theorem kt151 : KT.find? (fun q => q.1 == 151) = some (151, k151) := rfl
set_option maxRecDepth 100000 in
theorem kt152 : KT.find? (fun q => q.1 == 152) = some (152, k152) := rfl
set_option maxRecDepth 100000 in
theorem kt153 : KT.find? (fun q => q.1 == 153) = some (153, k153) := rfl
set_option maxRecDepth 100000 in
theorem kt154 : KT.find? (fun q => q.1 == 154) = some (154, k154) := rfl
set_option maxRecDepth 100000 in
theorem kt155 : KT.find? (fun q => q.1 == 155) = some (155, k155) := rfl
set_option maxRecDepth 100000 in
theorem kt156 : KT.find? (fun q => q.1 == 156) = some (156, k156) := rfl
set_option maxRecDepth 100000 in
theorem kt157 : KT.find? (fun q => q.1 == 157) = some (157, k157) := rfl
set_option maxRecDepth 100000 in
theorem kt158 : KT.find? (fun q => q.1 == 158) = some (158, k158) := rfl
set_option maxRecDepth 100000 in
theorem kt159 : KT.find? (fun q => q.1 == 159) = some (159, k159) := rfl
set_option maxRecDepth 100000 in
theorem kt160 : KT.find? (fun q => q.1 == 160) = some (160, k160) := rfl
set_option maxRecDepth 100000 in
theorem kt161 : KT.find? (fun q => q.1 == 161) = some (161, k161) := rfl
set_option maxRecDepth 100000 in
theorem kt162 : KT.find? (fun q => q.1 == 162) = some (162, k162) := rfl
set_option maxRecDepth 100000 in
theorem kt163 : KT.find? (fun q => q.1 == 163) = some (163, k163) := rfl
set_option maxRecDepth 100000 in
theorem kt164 : KT.find? (fun q => q.1 == 164) = some (164, k164) := rfl
set_option maxRecDepth 100000 in
theorem kt165 : KT.find? (fun q => q.1 == 165) = some (165, k165) := rfl
set_option maxRecDepth 100000 in
theorem kt166 : KT.find? (fun q => q.1 == 166) = some (166, k166) := rfl
set_option maxRecDepth 100000 in
theorem kt167 : KT.find? (fun q => q.1 == 167) = some (167, k167) := rfl
set_option maxRecDepth 100000 in
theorem kt168 : KT.find? (fun q => q.1 == 168) = some (168, k168) := rfl
set_option maxRecDepth 100000 in
theorem kt169 : KT.find? (fun q => q.1 == 169) = some (169, k169) := rfl
set_option maxRecDepth 100000 in
theorem kt170 : KT.find? (fun q => q.1 == 170) = some (170, k170) := rfl
set_option maxRecDepth 100000 in
theorem kt171 : KT.find? (fun q => q.1 == 171) = some (171, k171) := rfl
set_option maxRecDepth 100000 in
theorem kt172 : KT.find? (fun q => q.1 == 172) = some (172, k172) := rfl
set_option maxRecDepth 100000 in
theorem kt173 : KT.find? (fun q => q.1 == 173) = some (173, k173) := rfl
set_option maxRecDepth 100000 in
theorem kt174 : KT.find? (fun q => q.1 == 174) = some (174, k174) := rfl
set_option maxRecDepth 100000 in
theorem kt175 : KT.find? (fun q => q.1 == 175) = some (175, k175) := rfl
set_option maxRecDepth 100000 in
theorem kt176 : KT.find? (fun q => q.1 == 176) = some (176, k176) := rfl
set_option maxRecDepth 100000 in
theorem kt177 : KT.find? (fun q => q.1 == 177) = some (177, k177) := rfl
set_option maxRecDepth 100000 in
theorem kt178 : KT.find? (fun q => q.1 == 178) = some (178, k178) := rfl
set_option maxRecDepth 100000 in
theorem kt179 : KT.find? (fun q => q.1 == 179) = some (179, k179) := rfl
set_option maxRecDepth 100000 in
theorem kt180 : KT.find? (fun q => q.1 == 180) = some (180, k180) := rfl
set_option maxRecDepth 100000 in
theorem kt181 : KT.find? (fun q => q.1 == 181) = some (181, k181) := rfl
set_option maxRecDepth 100000 in
theorem kt182 : KT.find? (fun q => q.1 == 182) = some (182, k182) := rfl
set_option maxRecDepth 100000 in
theorem kt183 : KT.find? (fun q => q.1 == 183) = some (183, k183) := rfl
set_option maxRecDepth 100000 in
theorem kt184 : KT.find? (fun q => q.1 == 184) = some (184, k184) := rfl
set_option maxRecDepth 100000 in
theorem kt185 : KT.find? (fun q => q.1 == 185) = some (185, k185) := rfl
set_option maxRecDepth 100000 in
theorem kt186 : KT.find? (fun q => q.1 == 186) = some (186, k186) := rfl
set_option maxRecDepth 100000 in
theorem kt187 : KT.find? (fun q => q.1 == 187) = some (187, k187) := rfl
set_option maxRecDepth 100000 in
theorem kt188 : KT.find? (fun q => q.1 == 188) = some (188, k188) := rfl
set_option maxRecDepth 100000 in
theorem kt189 : KT.find? (fun q => q.1 == 189) = some (189, k189) := rfl
set_option maxRecDepth 100000 in
theorem kt190 : KT.find? (fun q => q.1 == 190) = some (190, k190) := rfl
set_option maxRecDepth 100000 in
theorem kt191 : KT.find? (fun q => q.1 == 191) = some (191, k191) := rfl
set_option maxRecDepth 100000 in
theorem kt192 : KT.find? (fun q => q.1 == 192) = some (192, k192) := rfl
set_option maxRecDepth 100000 in
theorem kt193 : KT.find? (fun q => q.1 == 193) = some (193, k193) := rfl
set_option maxRecDepth 100000 in
theorem kt194 : KT.find? (fun q => q.1 == 194) = some (194, k194) := rfl
set_option maxRecDepth 100000 in
theorem kt195 : KT.find? (fun q => q.1 == 195) = some (195, k195) := rfl
set_option maxRecDepth 100000 in
theorem kt196 : KT.find? (fun q => q.1 == 196) = some (196, k196) := rfl
set_option maxRecDepth 100000 in
theorem kt197 : KT.find? (fun q => q.1 == 197) = some (197, k197) := rfl
set_option maxRecDepth 100000 in
theorem kt198 : KT.find? (fun q => q.1 == 198) = some (198, k198) := rfl
set_option maxRecDepth 100000 in
theorem kt199 : KT.find? (fun q => q.1 == 199) = some (199, k199) := rfl
set_option maxRecDepth 100000 in
theorem kt200 : KT.find? (fun q => q.1 == 200) = some (200, k200) := rfl
set_option maxRecDepth 100000 in
theorem kt201 : KT.find? (fun q => q.1 == 201) = some (201, k201) := rfl
set_option maxRecDepth 100000 in
theorem kt202 : KT.find? (fun q => q.1 == 202) = some (202, k202) := rfl
set_option maxRecDepth 100000 in
theorem kt203 : KT.find? (fun q => q.1 == 203) = some (203, k203) := rfl
set_option maxRecDepth 100000 in
theorem kt204 : KT.find? (fun q => q.1 == 204) = some (204, k204) := rfl
set_option maxRecDepth 100000 in
theorem kt205 : KT.find? (fun q => q.1 == 205) = some (205, k205) := rfl
set_option maxRecDepth 100000 in
theorem kt206 : KT.find? (fun q => q.1 == 206) = some (206, k206) := rfl
set_option maxRecDepth 100000 in
theorem kt207 : KT.find? (fun q => q.1 == 207) = some (207, k207) := rfl
set_option maxRecDepth 100000 in
theorem kt208 : KT.find? (fun q => q.1 == 208) = some (208, k208) := rfl
set_option maxRecDepth 100000 in
theorem kt209 : KT.find? (fun q => q.1 == 209) = some (209, k209) := rfl
set_option maxRecDepth 100000 in
theorem kt210 : KT.find? (fun q => q.1 == 210) = some (210, k210) := rfl
set_option maxRecDepth 100000 in
theorem kt211 : KT.find? (fun q => q.1 == 211) = some (211, k211) := rfl
set_option maxRecDepth 100000 in
theorem kt212 : KT.find? (fun q => q.1 == 212) = some (212, k212) := rfl
set_option maxRecDepth 100000 in
theorem kt213 : KT.find? (fun q => q.1 == 213) = some (213, k213) := rfl
set_option maxRecDepth 100000 in
theorem kt214 : KT.find? (fun q => q.1 == 214) = some (214, k214) := rfl
set_option maxRecDepth 100000 in
theorem kt215 : KT.find? (fun q => q.1 == 215) = some (215, k215) := rfl
set_option maxRecDepth 100000 in
theorem kt216 : KT.find? (fun q => q.1 == 216) = some (216, k216) := rfl
set_option maxRecDepth 100000 in
theorem kt217 : KT.find? (fun q => q.1 == 217) = some (217, k217) := rfl
set_option maxRecDepth 100000 in
theorem kt218 : KT.find? (fun q => q.1 == 218) = some (218, k218) := rfl
set_option maxRecDepth 100000 in
theorem kt219 : KT.find? (fun q => q.1 == 219) = some (219, k219) := rfl
set_option maxRecDepth 100000 in
theorem kt220 : KT.find? (fun q => q.1 == 220) = some (220, k220) := rfl
set_option maxRecDepth 100000 in
theorem kt221 : KT.find? (fun q => q.1 == 221) = some (221, k221) := rfl
set_option maxRecDepth 100000 in
theorem kt222 : KT.find? (fun q => q.1 == 222) = some (222, k222) := rfl
set_option maxRecDepth 100000 in
theorem kt223 : KT.find? (fun q => q.1 == 223) = some (223, k223) := rfl
set_option maxRecDepth 100000 in
theorem kt224 : KT.find? (fun q => q.1 == 224) = some (224, k224) := rfl
set_option maxRecDepth 100000 in
theorem kt225 : KT.find? (fun q => q.1 == 225) = some (225, k225) := rfl
set_option maxRecDepth 100000 in
theorem kt226 : KT.find? (fun q => q.1 == 226) = some (226, k226) := rfl
set_option maxRecDepth 100000 in
theorem kt227 : KT.find? (fun q => q.1 == 227) = some (227, k227) := rfl
set_option maxRecDepth 100000 in
theorem kt228 : KT.find? (fun q => q.1 == 228) = some (228, k228) := rfl
set_option maxRecDepth 100000 in
theorem kt229 : KT.find? (fun q => q.1 == 229) = some (229, k229) := rfl
set_option maxRecDepth 100000 in
theorem kt230 : KT.find? (fun q => q.1 == 230) = some (230, k230) := rfl
set_option maxRecDepth 100000 in
theorem kt231 : KT.find? (fun q => q.1 == 231) = some (231, k231) := rfl
set_option maxRecDepth 100000 in
theorem kt232 : KT.find? (fun q => q.1 == 232) = some (232, k232) := rfl
set_option maxRecDepth 100000 in
theorem kt233 : KT.find? (fun q => q.1 == 233) = some (233, k233) := rfl
set_option maxRecDepth 100000 in
theorem kt234 : KT.find? (fun q => q.1 == 234) = some (234, k234) := rfl
set_option maxRecDepth 100000 in
theorem kt235 : KT.find? (fun q => q.1 == 235) = some (235, k235) := rfl
set_option maxRecDepth 100000 in
theorem kt236 : KT.find? (fun q => q.1 == 236) = some (236, k236) := rfl
set_option maxRecDepth 100000 in
theorem kt237 : KT.find? (fun q => q.1 == 237) = some (237, k237) := rfl
set_option maxRecDepth 100000 in
theorem kt238 : KT.find? (fun q => q.1 == 238) = some (238, k238) := rfl
set_option maxRecDepth 100000 in
theorem kt239 : KT.find? (fun q => q.1 == 239) = some (239, k239) := rfl
set_option maxRecDepth 100000 in
theorem kt240 : KT.find? (fun q => q.1 == 240) = some (240, k240) := rfl
set_option maxRecDepth 100000 in
theorem kt241 : KT.find? (fun q => q.1 == 241) = some (241, k241) := rfl
set_option maxRecDepth 100000 in
theorem kt242 : KT.find? (fun q => q.1 == 242) = some (242, k242) := rfl
set_option maxRecDepth 100000 in
theorem kt243 : KT.find? (fun q => q.1 == 243) = some (243, k243) := rfl
set_option maxRecDepth 100000 in
theorem kt244 : KT.find? (fun q => q.1 == 244) = some (244, k244) := rfl
set_option maxRecDepth 100000 in
theorem kt245 : KT.find? (fun q => q.1 == 245) = some (245, k245) := rfl
set_option maxRecDepth 100000 in
theorem kt246 : KT.find? (fun q => q.1 == 246) = some (246, k246) := rfl
set_option maxRecDepth 100000 in
theorem kt247 : KT.find? (fun q => q.1 == 247) = some (247, k247) := rfl
set_option maxRecDepth 100000 in
theorem kt248 : KT.find? (fun q => q.1 == 248) = some (248, k248) := rfl
set_option maxRecDepth 100000 in
theorem kt249 : KT.find? (fun q => q.1 == 249) = some (249, k249) := rfl
set_option maxRecDepth 100000 in
theorem kt250 : KT.find? (fun q => q.1 == 250) = some (250, k250) := rfl
set_option maxRecDepth 100000 in
theorem kt251 : KT.find? (fun q => q.1 == 251) = some (251, k251) := rfl
set_option maxRecDepth 100000 in
theorem kt252 : KT.find? (fun q => q.1 == 252) = some (252, k252) := rfl
set_option maxRecDepth 100000 in
theorem kt253 : KT.find? (fun q => q.1 == 253) = some (253, k253) := rfl
set_option maxRecDepth 100000 in
theorem kt254 : KT.find? (fun q => q.1 == 254) = some (254, k254) := rfl
set_option maxRecDepth 100000 in
theorem kt255 : KT.find? (fun q => q.1 == 255) = some (255, k255) := rfl
set_option maxRecDepth 100000 in
theorem kt256 : KT.find? (fun q => q.1 == 256) = some (256, k256) := rfl
set_option maxRecDepth 100000 in
theorem kt257 : KT.find? (fun q => q.1 == 257) = some (257, k257) := rfl
set_option maxRecDepth 100000 in
theorem kt258 : KT.find? (fun q => q.1 == 258) = some (258, k258) := rfl
set_option maxRecDepth 100000 in
theorem kt259 : KT.find? (fun q => q.1 == 259) = some (259, k259) := rfl
set_option maxRecDepth 100000 in
theorem kt260 : KT.find? (fun q => q.1 == 260) = some (260, k260) := rfl
set_option maxRecDepth 100000 in
theorem kt261 : KT.find? (fun q => q.1 == 261) = some (261, k261) := rfl
set_option maxRecDepth 100000 in
theorem kt262 : KT.find? (fun q => q.1 == 262) = some (262, k262) := rfl
set_option maxRecDepth 100000 in
theorem kt263 : KT.find? (fun q => q.1 == 263) = some (263, k263) := rfl
set_option maxRecDepth 100000 in
theorem kt264 : KT.find? (fun q => q.1 == 264) = some (264, k264) := rfl
set_option maxRecDepth 100000 in
theorem kt265 : KT.find? (fun q => q.1 == 265) = some (265, k265) := rfl
set_option maxRecDepth 100000 in
theorem kt266 : KT.find? (fun q => q.1 == 266) = some (266, k266) := rfl
set_option maxRecDepth 100000 in
theorem kt267 : KT.find? (fun q => q.1 == 267) = some (267, k267) := rfl
set_option maxRecDepth 100000 in
theorem kt268 : KT.find? (fun q => q.1 == 268) = some (268, k268) := rfl
set_option maxRecDepth 100000 in
theorem kt269 : KT.find? (fun q => q.1 == 269) = some (269, k269) := rfl
set_option maxRecDepth 100000 in
theorem kt270 : KT.find? (fun q => q.1 == 270) = some (270, k270) := rfl
set_option maxRecDepth 100000 in
theorem kt271 : KT.find? (fun q => q.1 == 271) = some (271, k271) := rfl
set_option maxRecDepth 100000 in
theorem kt272 : KT.find? (fun q => q.1 == 272) = some (272, k272) := rfl
set_option maxRecDepth 100000 in
theorem kt273 : KT.find? (fun q => q.1 == 273) = some (273, k273) := rfl
set_option maxRecDepth 100000 in
theorem kt274 : KT.find? (fun q => q.1 == 274) = some (274, k274) := rfl
set_option maxRecDepth 100000 in
theorem kt275 : KT.find? (fun q => q.1 == 275) = some (275, k275) := rfl
set_option maxRecDepth 100000 in
theorem kt276 : KT.find? (fun q => q.1 == 276) = some (276, k276) := rfl
set_option maxRecDepth 100000 in
theorem kt277 : KT.find? (fun q => q.1 == 277) = some (277, k277) := rfl
set_option maxRecDepth 100000 in
theorem kt278 : KT.find? (fun q => q.1 == 278) = some (278, k278) := rfl
set_option maxRecDepth 100000 in
theorem kt279 : KT.find? (fun q => q.1 == 279) = some (279, k279) := rfl
set_option maxRecDepth 100000 in
theorem kt280 : KT.find? (fun q => q.1 == 280) = some (280, k280) := rfl
set_option maxRecDepth 100000 in
theorem kt281 : KT.find? (fun q => q.1 == 281) = some (281, k281) := rfl
set_option maxRecDepth 100000 in
theorem kt282 : KT.find? (fun q => q.1 == 282) = some (282, k282) := rfl
set_option maxRecDepth 100000 in
theorem kt283 : KT.find? (fun q => q.1 == 283) = some (283, k283) := rfl
set_option maxRecDepth 100000 in
theorem kt284 : KT.find? (fun q => q.1 == 284) = some (284, k284) := rfl
set_option maxRecDepth 100000 in
theorem kt285 : KT.find? (fun q => q.1 == 285) = some (285, k285) := rfl
set_option maxRecDepth 100000 in
theorem kt286 : KT.find? (fun q => q.1 == 286) = some (286, k286) := rfl
set_option maxRecDepth 100000 in
theorem kt287 : KT.find? (fun q => q.1 == 287) = some (287, k287) := rfl
set_option maxRecDepth 100000 in
theorem kt288 : KT.find? (fun q => q.1 == 288) = some (288, k288) := rfl
set_option maxRecDepth 100000 in
theorem kt289 : KT.find? (fun q => q.1 == 289) = some (289, k289) := rfl
set_option maxRecDepth 100000 in
theorem kt290 : KT.find? (fun q => q.1 == 290) = some (290, k290) := rfl
set_option maxRecDepth 100000 in
theorem kt291 : KT.find? (fun q => q.1 == 291) = some (291, k291) := rfl
set_option maxRecDepth 100000 in
theorem kt292 : KT.find? (fun q => q.1 == 292) = some (292, k292) := rfl
set_option maxRecDepth 100000 in
theorem kt293 : KT.find? (fun q => q.1 == 293) = some (293, k293) := rfl
set_option maxRecDepth 100000 in
theorem kt294 : KT.find? (fun q => q.1 == 294) = some (294, k294) := rfl
set_option maxRecDepth 100000 in
theorem kt295 : KT.find? (fun q => q.1 == 295) = some (295, k295) := rfl
set_option maxRecDepth 100000 in
theorem kt296 : KT.find? (fun q => q.1 == 296) = some (296, k296) := rfl
set_option maxRecDepth 100000 in
theorem kt297 : KT.find? (fun q => q.1 == 297) = some (297, k297) := rfl
set_option maxRecDepth 100000 in
theorem kt298 : KT.find? (fun q => q.1 == 298) = some (298, k298) := rfl
set_option maxRecDepth 100000 in
theorem kt299 : KT.find? (fun q => q.1 == 299) = some (299, k299) := rfl
set_option maxRecDepth 100000 in
theorem kt300 : KT.find? (fun q => q.1 == 300) = some (300, k300) := rfl
set_option maxRecDepth 100000 in
theorem kt301 : KT.find? (fun q => q.1 == 301) = some (301, k301) := rfl
set_option maxRecDepth 100000 in
theorem kt302 : KT.find? (fun q => q.1 == 302) = some (302, k302) := rfl
set_option maxRecDepth 100000 in
theorem kt303 : KT.find? (fun q => q.1 == 303) = some (303, k303) := rfl
set_option maxRecDepth 100000 in
theorem kt304 : KT.find? (fun q => q.1 == 304) = some (304, k304) := rfl
set_option maxRecDepth 100000 in
theorem kt305 : KT.find? (fun q => q.1 == 305) = some (305, k305) := rfl
set_option maxRecDepth 100000 in
theorem kt306 : KT.find? (fun q => q.1 == 306) = some (306, k306) := rfl
set_option maxRecDepth 100000 in
theorem kt307 : KT.find? (fun q => q.1 == 307) = some (307, k307) := rfl
set_option maxRecDepth 100000 in
theorem kt308 : KT.find? (fun q => q.1 == 308) = some (308, k308) := rfl
set_option maxRecDepth 100000 in
theorem kt309 : KT.find? (fun q => q.1 == 309) = some (309, k309) := rfl
set_option maxRecDepth 100000 in
theorem kt310 : KT.find? (fun q => q.1 == 310) = some (310, k310) := rfl
