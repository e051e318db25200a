set_option maxRecDepth 100000 in
theorem ok0_0 : k0_0.all (okE 0) = true := by decide +kernel
theorem okm0 : k0.all (okE 0) = true := ok0_0
set_option maxRecDepth 100000 in
theorem ok1_0 : k1_0.all (okE 1) = true := by decide +kernel
theorem okm1 : k1.all (okE 1) = true := ok1_0
set_option maxRecDepth 100000 in
theorem ok2_0 : k2_0.all (okE 2) = true := by decide +kernel
theorem okm2 : k2.all (okE 2) = true := ok2_0
set_option maxRecDepth 100000 in
theorem ok3_0 : k3_0.all (okE 3) = true := by decide +kernel
theorem okm3 : k3.all (okE 3) = true := ok3_0
set_option maxRecDepth 100000 in
theorem ok4_0 : k4_0.all (okE 4) = true := by decide +kernel
theorem okm4 : k4.all (okE 4) = true := ok4_0
set_option maxRecDepth 100000 in
theorem ok5_0 : k5_0.all (okE 5) = true := by decide +kernel
theorem okm5 : k5.all (okE 5) = true := ok5_0
set_option maxRecDepth 100000 in
theorem ok6_0 : k6_0.all (okE 6) = true := by decide +kernel
theorem okm6 : k6.all (okE 6) = true := ok6_0
set_option maxRecDepth 100000 in
theorem ok7_0 : k7_0.all (okE 7) = true := by decide +kernel
theorem okm7 : k7.all (okE 7) = true := ok7_0
set_option maxRecDepth 100000 in
theorem ok8_0 : k8_0.all (okE 8) = true := by decide +kernel
theorem okm8 : k8.all (okE 8) = true := ok8_0
set_option maxRecDepth 100000 in
theorem ok9_0 : k9_0.all (okE 9) = true := by decide +kernel
theorem okm9 : k9.all (okE 9) = true := ok9_0
set_option maxRecDepth 100000 in
theorem ok10_0 : k10_0.all (okE 10) = true := by decide +kernel
theorem okm10 : k10.all (okE 10) = true := ok10_0
set_option maxRecDepth 100000 in
theorem ok11_0 : k11_0.all (okE 11) = true := by decide +kernel
set_option maxRecDepth 100000 in
theorem ok11_1 : k11_1.all (okE 11) = true := by decide +kernel
set_option maxRecDepth 100000 in
theorem ok11_2 : k11_2.all (okE 11) = true := by decide +kernel
theorem okm11 : k11.all (okE 11) = true := by
  unfold k11
  simp only [List.all_append, Bool.and_eq_true]
  exact ⟨ok11_0, ok11_1, ok11_2⟩
set_option maxRecDepth 100000 in
theorem ok12_0 : k12_0.all (okE 12) = true := by decide +kernel
set_option maxRecDepth 100000 in
theorem ok12_1 : k12_1.all (okE 12) = true := by decide +kernel
theorem okm12 : k12.all (okE 12) = true := by
  unfold k12
  simp only [List.all_append, Bool.and_eq_true]
  exact ⟨ok12_0, ok12_1⟩
set_option maxRecDepth 100000 in
theorem ok13_0 : k13_0.all (okE 13) = true := by decide +kernel
theorem okm13 : k13.all (okE 13) = true := ok13_0
set_option maxRecDepth 100000 in
theorem ok14_0 : k14_0.all (okE 14) = true := by decide +kernel
theorem okm14 : k14.all (okE 14) = true := ok14_0
set_option maxRecDepth 100000 in
theorem ok15_0 : k15_0.all (okE 15) = true := by decide +kernel
theorem okm15 : k15.all (okE 15) = true := ok15_0
set_option maxRecDepth 100000 in
theorem ok16_0 : k16_0.all (okE 16) = true := by decide +kernel
theorem okm16 : k16.all (okE 16) = true := ok16_0
set_option maxRecDepth 100000 in
theorem ok17_0 : k17_0.all (okE 17) = true := by decide +kernel
theorem okm17 : k17.all (okE 17) = true := ok17_0
set_option maxRecDepth 100000 in
theorem ok18_0 : k18_0.all (okE 18) = true := by decide +kernel
theorem okm18 : k18.all (okE 18) = true := ok18_0
set_option maxRecDepth 100000 in
theorem ok19_0 : k19_0.all (okE 19) = true := by decide +kernel
theorem okm19 : k19.all (okE 19) = true := ok19_0
set_option maxRecDepth 100000 in
theorem ok20_0 : k20_0.all (okE 20) = true := by decide +kernel
theorem okm20 : k20.all (okE 20) = true := ok20_0
set_option maxRecDepth 100000 in
theorem ok21_0 : k21_0.all (okE 21) = true := by decide +kernel
theorem okm21 : k21.all (okE 21) = true := ok21_0
set_option maxRecDepth 100000 in
theorem ok22_0 : k22_0.all (okE 22) = true := by decide +kernel
theorem okm22 : k22.all (okE 22) = true := ok22_0
set_option maxRecDepth 100000 in
theorem ok23_0 : k23_0.all (okE 23) = true := by decide +kernel
theorem okm23 : k23.all (okE 23) = true := ok23_0
set_option maxRecDepth 100000 in
theorem ok24_0 : k24_0.all (okE 24) = true := by decide +kernel
theorem okm24 : k24.all (okE 24) = true := ok24_0
set_option maxRecDepth 100000 in
theorem ok25_0 : k25_0.all (okE 25) = true := by decide +kernel
theorem okm25 : k25.all (okE 25) = true := ok25_0
set_option maxRecDepth 100000 in
theorem ok26_0 : k26_0.all (okE 26) = true := by decide +kernel
theorem okm26 : k26.all (okE 26) = true := ok26_0
set_option maxRecDepth 100000 in
theorem ok27_0 : k27_0.all (okE 27) = true := by decide +kernel
theorem okm27 : k27.all (okE 27) = true := ok27_0
set_option maxRecDepth 100000 in
theorem ok28_0 : k28_0.all (okE 28) = true := by decide +kernel
theorem okm28 : k28.all (okE 28) = true := ok28_0
set_option maxRecDepth 100000 in
theorem ok29_0 : k29_0.all (okE 29) = true := by decide +kernel
theorem okm29 : k29.all (okE 29) = true := ok29_0
set_option maxRecDepth 100000 in
theorem ok30_0 : k30_0.all (okE 30) = true := by decide +kernel
set_option maxRecDepth 100000 in
theorem ok30_1 : k30_1.all (okE 30) = true := by decide +kernel
theorem okm30 : k30.all (okE 30) = true := by
  unfold k30
  simp only [List.all_append, Bool.and_eq_true]
  exact ⟨ok30_0, ok30_1⟩
set_option maxRecDepth 100000 in
theorem ok31_0 : k31_0.all (okE 31) = true := by decide +kernel
theorem okm31 : k31.all (okE 31) = true := ok31_0
set_option maxRecDepth 100000 in
theorem ok32_0 : k32_0.all (okE 32) = true := by decide +kernel
theorem okm32 : k32.all (okE 32) = true := ok32_0
set_option maxRecDepth 100000 in
theorem ok33_0 : k33_0.all (okE 33) = true := by decide +kernel
theorem okm33 : k33.all (okE 33) = true := ok33_0
set_option maxRecDepth 100000 in
theorem ok34_0 : k34_0.all (okE 34) = true := by decide +kernel
set_option maxRecDepth 100000 in
theorem ok34_1 : k34_1.all (okE 34) = true := by decide +kernel
set_option maxRecDepth 100000 in
theorem ok34_2 : k34_2.all (okE 34) = true := by decide +kernel
theorem okm34 : k34.all (okE 34) = true := by
  unfold k34
  simp only [List.all_append, Bool.and_eq_true]
  exact ⟨ok34_0, ok34_1, ok34_2⟩
set_option maxRecDepth 100000 in
theorem ok35_0 : k35_0.all (okE 35) = true := by decide +kernel
theorem okm35 : k35.all (okE 35) = true := ok35_0
set_option maxRecDepth 100000 in
theorem ok36_0 : k36_0.all (okE 36) = true := by decide +kernel
theorem okm36 : k36.all (okE 36) = true := ok36_0
set_option maxRecDepth 100000 in
theorem ok37_0 : k37_0.all (okE 37) = true := by decide +kernel
theorem okm37 : k37.all (okE 37) = true := ok37_0
set_option maxRecDepth 100000 in
theorem ok38_0 : k38_0.all (okE 38) = true := by decide +kernel
theorem okm38 : k38.all (okE 38) = true := ok38_0
set_option maxRecDepth 100000 in
theorem ok39_0 : k39_0.all (okE 39) = true := by decide +kernel
theorem okm39 : k39.all (okE 39) = true := ok39_0
set_option maxRecDepth 100000 in
theorem ok40_0 : k40_0.all (okE 40) = true := by decide +kernel
set_option maxRecDepth 100000 in
theorem ok40_1 : k40_1.all (okE 40) = true := by decide +kernel
theorem okm40 : k40.all (okE 40) = true := by
  unfold k40
  simp only [List.all_append, Bool.and_eq_true]
  exact ⟨ok40_0, ok40_1⟩
set_option maxRecDepth 100000 in
theorem ok41_0 : k41_0.all (okE 41) = true := by decide +kernel
set_option maxRecDepth 100000 in
theorem ok41_1 : k41_1.all (okE 41) = true := by decide +kernel
theorem okm41 : k41.all (okE 41) = true := by
  unfold k41
  simp only [List.all_append, Bool.and_eq_true]
  exact ⟨ok41_0, ok41_1⟩
set_option maxRecDepth 100000 in
theorem ok42_0 : k42_0.all (okE 42) = true := by decide +kernel
theorem okm42 : k42.all (okE 42) = true := ok42_0
set_option maxRecDepth 100000 in
theorem ok43_0 : k43_0.all (okE 43) = true := by decide +kernel
theorem okm43 : k43.all (okE 43) = true := ok43_0
set_option maxRecDepth 100000 in
theorem ok44_0 : k44_0.all (okE 44) = true := by decide +kernel
theorem okm44 : k44.all (okE 44) = true := ok44_0
set_option maxRecDepth 100000 in
theorem ok45_0 : k45_0.all (okE 45) = true := by decide +kernel
theorem okm45 : k45.all (okE 45) = true := ok45_0
set_option maxRecDepth 100000 in
theorem ok46_0 : k46_0.all (okE 46) = true := by decide +kernel
theorem okm46 : k46.all (okE 46) = true := ok46_0
set_option maxRecDepth 100000 in
theorem ok47_0 : k47_0.all (okE 47) = true := by decide +kernel
theorem okm47 : k47.all (okE 47) = true := ok47_0
set_option maxRecDepth 100000 in
theorem ok48_0 : k48_0.all (okE 48) = true := by decide +kernel
theorem okm48 : k48.all (okE 48) = true := ok48_0
set_option maxRecDepth 100000 in
theorem ok49_0 : k49_0.all (okE 49) = true := by decide +kernel
theorem okm49 : k49.all (okE 49) = true := ok49_0
set_option maxRecDepth 100000 in
theorem ok50_0 : k50_0.all (okE 50) = true := by decide +kernel
theorem okm50 : k50.all (okE 50) = true := ok50_0
set_option maxRecDepth 100000 in
theorem ok51_0 : k51_0.all (okE 51) = true := by decide +kernel
theorem okm51 : k51.all (okE 51) = true := ok51_0
set_option maxRecDepth 100000 in
theorem ok52_0 : k52_0.all (okE 52) = true := by decide +kernel
theorem okm52 : k52.all (okE 52) = true := ok52_0
set_option maxRecDepth 100000 in
theorem ok53_0 : k53_0.all (okE 53) = true := by decide +kernel
theorem okm53 : k53.all (okE 53) = true := ok53_0
set_option maxRecDepth 100000 in
theorem ok54_0 : k54_0.all (okE 54) = true := by decide +kernel
theorem okm54 : k54.all (okE 54) = true := ok54_0
set_option maxRecDepth 100000 in
theorem ok55_0 : k55_0.all (okE 55) = true := by decide +kernel
theorem okm55 : k55.all (okE 55) = true := ok55_0
set_option maxRecDepth 100000 in
theorem ok56_0 : k56_0.all (okE 56) = true := by decide +kernel
theorem okm56 : k56.all (okE 56) = true := ok56_0
set_option maxRecDepth 100000 in
theorem ok57_0 : k57_0.all (okE 57) = true := by decide +kernel
theorem okm57 : k57.all (okE 57) = true := ok57_0
set_option maxRecDepth 100000 in
theorem ok58_0 : k58_0.all (okE 58) = true := by decide +kernel
theorem okm58 : k58.all (okE 58) = true := ok58_0
set_option maxRecDepth 100000 in
theorem ok59_0 : k59_0.all (okE 59) = true := by decide +kernel
set_option maxRecDepth 100000 in
theorem ok59_1 : k59_1.all (okE 59) = true := by decide +kernel
theorem okm59 : k59.all (okE 59) = true := by
  unfold k59
  simp only [List.all_append, Bool.and_eq_true]
  exact ⟨ok59_0, ok59_1⟩
set_option maxRecDepth 100000 in
theorem ok60_0 : k60_0.all (okE 60) = true := by decide +kernel
set_option maxRecDepth 100000 in
theorem ok60_1 : k60_1.all (okE 60) = true := by decide +kernel
theorem okm60 : k60.all (okE 60) = true := by
  unfold k60
  simp only [List.all_append, Bool.and_eq_true]
  exact ⟨ok60_0, ok60_1⟩
set_option maxRecDepth 100000 in
theorem ok61_0 : k61_0.all (okE 61) = true := by decide +kernel
theorem okm61 : k61.all (okE 61) = true := ok61_0
set_option maxRecDepth 100000 in
theorem ok62_0 : k62_0.all (okE 62) = true := by decide +kernel
theorem okm62 : k62.all (okE 62) = true := ok62_0
set_option maxRecDepth 100000 in
theorem ok63_0 : k63_0.all (okE 63) = true := by decide +kernel
theorem okm63 : k63.all (okE 63) = true := ok63_0
set_option maxRecDepth 100000 in
theorem ok64_0 : k64_0.all (okE 64) = true := by decide +kernel
theorem okm64 : k64.all (okE 64) = true := ok64_0
set_option maxRecDepth 100000 in
theorem ok65_0 : k65_0.all (okE 65) = true := by decide +kernel
theorem okm65 : k65.all (okE 65) = true := ok65_0
set_option maxRecDepth 100000 in
theorem ok66_0 : k66_0.all (okE 66) = true := by decide +kernel
theorem okm66 : k66.all (okE 66) = true := ok66_0
set_option maxRecDepth 100000 in
theorem ok67_0 : k67_0.all (okE 67) = true := by decide +kernel
theorem okm67 : k67.all (okE 67) = true := ok67_0
set_option maxRecDepth 100000 in
theorem ok68_0 : k68_0.all (okE 68) = true := by decide +kernel
theorem okm68 : k68.all (okE 68) = true := ok68_0
set_option maxRecDepth 100000 in
theorem ok69_0 : k69_0.all (okE 69) = true := by decide +kernel
theorem okm69 : k69.all (okE 69) = true := ok69_0
set_option maxRecDepth 100000 in
theorem ok70_0 : k70_0.all (okE 70) = true := by decide +kernel
theorem okm70 : k70.all (okE 70) = true := ok70_0
set_option maxRecDepth 100000 in
theorem ok71_0 : k71_0.all (okE 71) = true := by decide +kernel
theorem okm71 : k71.all (okE 71) = true := ok71_0
set_option maxRecDepth 100000 in
theorem ok72_0 : k72_0.all (okE 72) = true := by decide +kernel
theorem okm72 : k72.all (okE 72) = true := ok72_0
set_option maxRecDepth 100000 in
theorem ok73_0 : k73_0.all (okE 73) = true := by decide +kernel
theorem okm73 : k73.all (okE 73) = true := ok73_0
set_option maxRecDepth 100000 in
theorem ok74_0 : k74_0.all (okE 74) = true := by decide +kernel
theorem okm74 : k74.all (okE 74) = true := ok74_0
set_option maxRecDepth 100000 in
theorem ok75_0 : k75_0.all (okE 75) = true := by decide +kernel
theorem okm75 : k75.all (okE 75) = true := ok75_0
set_option maxRecDepth 100000 in
theorem ok76_0 : k76_0.all (okE 76) = true := by decide +kernel
theorem okm76 : k76.all (okE 76) = true := ok76_0
set_option maxRecDepth 100000 in
theorem ok77_0 : k77_0.all (okE 77) = true := by decide +kernel
theorem okm77 : k77.all (okE 77) = true := ok77_0
set_option maxRecDepth 100000 in
theorem ok78_0 : k78_0.all (okE 78) = true := by decide +kernel
theorem okm78 : k78.all (okE 78) = true := ok78_0
set_option maxRecDepth 100000 in
theorem ok79_0 : k79_0.all (okE 79) = true := by decide +kernel
set_option maxRecDepth 100000 in
theorem ok79_1 : k79_1.all (okE 79) = true := by decide +kernel
theorem okm79 : k79.all (okE 79) = true := by
  unfold k79
  simp only [List.all_append, Bool.and_eq_true]
  exact ⟨ok79_0, ok79_1⟩
set_option maxRecDepth 100000 in
theorem ok80_0 : k80_0.all (okE 80) = true := by decide +kernel
theorem okm80 : k80.all (okE 80) = true := ok80_0
set_option maxRecDepth 100000 in
theorem ok81_0 : k81_0.all (okE 81) = true := by decide +kernel
theorem okm81 : k81.all (okE 81) = true := ok81_0
set_option maxRecDepth 100000 in
theorem ok82_0 : k82_0.all (okE 82) = true := by decide +kernel
theorem okm82 : k82.all (okE 82) = true := ok82_0
set_option maxRecDepth 100000 in
theorem ok83_0 : k83_0.all (okE 83) = true := by decide +kernel
set_option maxRecDepth 100000 in
theorem ok83_1 : k83_1.all (okE 83) = true := by decide +kernel
set_option maxRecDepth 100000 in
theorem ok83_2 : k83_2.all (okE 83) = true := by decide +kernel
theorem okm83 : k83.all (okE 83) = true := by
  unfold k83
  simp only [List.all_append, Bool.and_eq_true]
  exact ⟨ok83_0, ok83_1, ok83_2⟩
set_option maxRecDepth 100000 in
theorem ok84_0 : k84_0.all (okE 84) = true := by decide +kernel
set_option maxRecDepth 100000 in
theorem ok84_1 : k84_1.all (okE 84) = true := by decide +kernel
theorem okm84 : k84.all (okE 84) = true := by
  unfold k84
  simp only [List.all_append, Bool.and_eq_true]
  exact ⟨ok84_0, ok84_1⟩
set_option maxRecDepth 100000 in
theorem ok85_0 : k85_0.all (okE 85) = true := by decide +kernel
theorem okm85 : k85.all (okE 85) = true := ok85_0
set_option maxRecDepth 100000 in
theorem ok86_0 : k86_0.all (okE 86) = true := by decide +kernel
theorem okm86 : k86.all (okE 86) = true := ok86_0
set_option maxRecDepth 100000 in
theorem ok87_0 : k87_0.all (okE 87) = true := by decide +kernel
set_option maxRecDepth 100000 in
theorem ok87_1 : k87_1.all (okE 87) = true := by decide +kernel
theorem okm87 : k87.all (okE 87) = true := by
  unfold k87
  simp only [List.all_append, Bool.and_eq_true]
  exact ⟨ok87_0, ok87_1⟩
set_option maxRecDepth 100000 in
theorem ok88_0 : k88_0.all (okE 88) = true := by decide +kernel
theorem okm88 : k88.all (okE 88) = true := ok88_0
set_option maxRecDepth 100000 in
theorem ok89_0 : k89_0.all (okE 89) = true := by decide +kernel
theorem okm89 : k89.all (okE 89) = true := ok89_0
set_option maxRecDepth 100000 in
theorem ok90_0 : k90_0.all (okE 90) = true := by decide +kernel
set_option maxRecDepth 100000 in
theorem ok90_1 : k90_1.all (okE 90) = true := by decide +kernel
theorem okm90 : k90.all (okE 90) = true := by
  unfold k90
  simp only [List.all_append, Bool.and_eq_true]
  exact ⟨ok90_0, ok90_1⟩
set_option maxRecDepth 100000 in
theorem ok91_0 : k91_0.all (okE 91) = true := by decide +kernel
set_option maxRecDepth 100000 in
theorem ok91_1 : k91_1.all (okE 91) = true := by decide +kernel
theorem okm91 : k91.all (okE 91) = true := by
  unfold k91
  simp only [List.all_append, Bool.and_eq_true]
  exact ⟨ok91_0, ok91_1⟩
set_option maxRecDepth 100000 in
theorem ok92_0 : k92_0.all (okE 92) = true := by decide +kernel
set_option maxRecDepth 100000 in
theorem ok92_1 : k92_1.all (okE 92) = true := by decide +kernel
theorem okm92 : k92.all (okE 92) = true := by
  unfold k92
  simp only [List.all_append, Bool.and_eq_true]
  exact ⟨ok92_0, ok92_1⟩
set_option maxRecDepth 100000 in
theorem ok93_0 : k93_0.all (okE 93) = true := by decide +kernel
set_option maxRecDepth 100000 in
theorem ok93_1 : k93_1.all (okE 93) = true := by decide +kernel
theorem okm93 : k93.all (okE 93) = true := by
  unfold k93
  simp only [List.all_append, Bool.and_eq_true]
  exact ⟨ok93_0, ok93_1⟩
set_option maxRecDepth 100000 in
theorem ok94_0 : k94_0.all (okE 94) = true := by decide +kernel
set_option maxRecDepth 100000 in
theorem ok94_1 : k94_1.all (okE 94) = true := by decide +kernel
set_option maxRecDepth 100000 in
theorem ok94_2 : k94_2.all (okE 94) = true := by decide +kernel
theorem okm94 : k94.all (okE 94) = true := by
  unfold k94
  simp only [List.all_append, Bool.and_eq_true]
  exact ⟨ok94_0, ok94_1, ok94_2⟩
set_option maxRecDepth 100000 in
theorem ok95_0 : k95_0.all (okE 95) = true := by decide +kernel
set_option maxRecDepth 100000 in
theorem ok95_1 : k95_1.all (okE 95) = true := by decide +kernel
theorem okm95 : k95.all (okE 95) = true := by
  unfold k95
  simp only [List.all_append, Bool.and_eq_true]
  exact ⟨ok95_0, ok95_1⟩
set_option maxRecDepth 100000 in
theorem ok96_0 : k96_0.all (okE 96) = true := by decide +kernel
theorem okm96 : k96.all (okE 96) = true := ok96_0
set_option maxRecDepth 100000 in
theorem ok97_0 : k97_0.all (okE 97) = true := by decide +kernel
theorem okm97 : k97.all (okE 97) = true := ok97_0
set_option maxRecDepth 100000 in
theorem ok98_0 : k98_0.all (okE 98) = true := by decide +kernel
set_option maxRecDepth 100000 in
theorem ok98_1 : k98_1.all (okE 98) = true := by decide +kernel
theorem okm98 : k98.all (okE 98) = true := by
  unfold k98
  simp only [List.all_append, Bool.and_eq_true]
  exact ⟨ok98_0, ok98_1⟩
set_option maxRecDepth 100000 in
theorem ok99_0 : k99_0.all (okE 99) = true := by decide +kernel
theorem okm99 : k99.all (okE 99) = true := ok99_0
set_option maxRecDepth 100000 in
theorem ok100_0 : k100_0.all (okE 100) = true := by decide +kernel
set_option maxRecDepth 100000 in
theorem ok100_1 : k100_1.all (okE 100) = true := by decide +kernel
theorem okm100 : k100.all (okE 100) = true := by
  unfold k100
  simp only [List.all_append, Bool.and_eq_true]
  exact ⟨ok100_0, ok100_1⟩
set_option maxRecDepth 100000 in
theorem ok101_0 : k101_0.all (okE 101) = true := by decide +kernel
theorem okm101 : k101.all (okE 101) = true := ok101_0
set_option maxRecDepth 100000 in
theorem ok102_0 : k102_0.all (okE 102) = true := by decide +kernel
theorem okm102 : k102.all (okE 102) = true := ok102_0
set_option maxRecDepth 100000 in
theorem ok103_0 : k103_0.all (okE 103) = true := by decide +kernel
theorem okm103 : k103.all (okE 103) = true := ok103_0
set_option maxRecDepth 100000 in
theorem ok104_0 : k104_0.all (okE 104) = true := by decide +kernel
theorem okm104 : k104.all (okE 104) = true := ok104_0
set_option maxRecDepth 100000 in
theorem ok105_0 : k105_0.all (okE 105) = true := by decide +kernel
theorem okm105 : k105.all (okE 105) = true := ok105_0
set_option maxRecDepth 100000 in
theorem ok106_0 : k106_0.all (okE 106) = true := by decide +kernel
theorem okm106 : k106.all (okE 106) = true := ok106_0
set_option maxRecDepth 100000 in
theorem ok107_0 : k107_0.all (okE 107) = true := by decide +kernel
theorem okm107 : k107.all (okE 107) = true := ok107_0
set_option maxRecDepth 100000 in
theorem ok108_0 : k108_0.all (okE 108) = true := by decide +kernel
theorem okm108 : k108.all (okE 108) = true := ok108_0
set_option maxRecDepth 100000 in
theorem ok109_0 : k109_0.all (okE 109) = true := by decide +kernel
theorem okm109 : k109.all (okE 109) = true := ok109_0
set_option maxRecDepth 100000 in
theorem ok110_0 : k110_0.all (okE 110) = true := by decide +kernel
set_option maxRecDepth 100000 in
theorem ok110_1 : k110_1.all (okE 110) = true := by decide +kernel
theorem okm110 : k110.all (okE 110) = true := by
  unfold k110
  simp only [List.all_append, Bool.and_eq_true]
  exact ⟨ok110_0, ok110_1⟩
set_option maxRecDepth 100000 in
theorem ok111_0 : k111_0.all (okE 111) = true := by decide +kernel
theorem okm111 : k111.all (okE 111) = true := ok111_0
set_option maxRecDepth 100000 in
theorem ok112_0 : k112_0.all (okE 112) = true := by decide +kernel
theorem okm112 : k112.all (okE 112) = true := ok112_0
set_option maxRecDepth 100000 in
theorem ok113_0 : k113_0.all (okE 113) = true := by decide +kernel
theorem okm113 : k113.all (okE 113) = true := ok113_0
set_option maxRecDepth 100000 in
theorem ok114_0 : k114_0.all (okE 114) = true := by decide +kernel
theorem okm114 : k114.all (okE 114) = true := ok114_0
set_option maxRecDepth 100000 in
theorem ok115_0 : k115_0.all (okE 115) = true := by decide +kernel
theorem okm115 : k115.all (okE 115) = true := ok115_0
set_option maxRecDepth 100000 in
theorem ok116_0 : k116_0.all (okE 116) = true := by decide +kernel
set_option maxRecDepth 100000 in
theorem ok116_1 : k116_1.all (okE 116) = true := by decide +kernel
theorem okm116 : k116.all (okE 116) = true := by
  unfold k116
  simp only [List.all_append, Bool.and_eq_true]
  exact ⟨ok116_0, ok116_1⟩
set_option maxRecDepth 100000 in
theorem ok117_0 : k117_0.all (okE 117) = true := by decide +kernel
set_option maxRecDepth 100000 in
theorem ok117_1 : k117_1.all (okE 117) = true := by decide +kernel
set_option maxRecDepth 100000 in
theorem ok117_2 : k117_2.all (okE 117) = true := by decide +kernel
theorem okm117 : k117.all (okE 117) = true := by
  unfold k117
  simp only [List.all_append, Bool.and_eq_true]
  exact ⟨ok117_0, ok117_1, ok117_2⟩
set_option maxRecDepth 100000 in
theorem ok118_0 : k118_0.all (okE 118) = true := by decide +kernel
theorem okm118 : k118.all (okE 118) = true := ok118_0
set_option maxRecDepth 100000 in
theorem ok119_0 : k119_0.all (okE 119) = true := by decide +kernel
theorem okm119 : k119.all (okE 119) = true := ok119_0
set_option maxRecDepth 100000 in
theorem ok120_0 : k120_0.all (okE 120) = true := by decide +kernel
theorem okm120 : k120.all (okE 120) = true := ok120_0
set_option maxRecDepth 100000 in
theorem ok121_0 : k121_0.all (okE 121) = true := by decide +kernel
theorem okm121 : k121.all (okE 121) = true := ok121_0
set_option maxRecDepth 100000 in
theorem ok122_0 : k122_0.all (okE 122) = true := by decide +kernel
theorem okm122 : k122.all (okE 122) = true := ok122_0
set_option maxRecDepth 100000 in
theorem ok123_0 : k123_0.all (okE 123) = true := by decide +kernel
theorem okm123 : k123.all (okE 123) = true := ok123_0
set_option maxRecDepth 100000 in
theorem ok124_0 : k124_0.all (okE 124) = true := by decide +kernel
set_option maxRecDepth 100000 in
theorem ok124_1 : k124_1.all (okE 124) = true := by decide +kernel
theorem okm124 : k124.all (okE 124) = true := by
  unfold k124
  simp only [List.all_append, Bool.and_eq_true]
  exact ⟨ok124_0, ok124_1⟩
set_option maxRecDepth 100000 in
theorem ok125_0 : k125_0.all (okE 125) = true := by decide +kernel
theorem okm125 : k125.all (okE 125) = true := ok125_0
set_option maxRecDepth 100000 in
theorem ok126_0 : k126_0.all (okE 126) = true := by decide +kernel
theorem okm126 : k126.all (okE 126) = true := ok126_0
set_option maxRecDepth 100000 in
theorem ok127_0 : k127_0.all (okE 127) = true := by decide +kernel
theorem okm127 : k127.all (okE 127) = true := ok127_0
set_option maxRecDepth 100000 in
theorem ok128_0 : k128_0.all (okE 128) = true := by decide +kernel
theorem okm128 : k128.all (okE 128) = true := ok128_0
set_option maxRecDepth 100000 in
theorem ok129_0 : k129_0.all (okE 129) = true := by decide +kernel
set_option maxRecDepth 100000 in
theorem ok129_1 : k129_1.all (okE 129) = true := by decide +kernel
set_option maxRecDepth 100000 in
theorem ok129_2 : k129_2.all (okE 129) = true := by decide +kernel
theorem okm129 : k129.all (okE 129) = true := by
  unfold k129
  simp only [List.all_append, Bool.and_eq_true]
  exact ⟨ok129_0, ok129_1, ok129_2⟩
set_option maxRecDepth 100000 in
theorem ok130_0 : k130_0.all (okE 130) = true := by decide +kernel
set_option maxRecDepth 100000 in
theorem ok130_1 : k130_1.all (okE 130) = true := by decide +kernel
theorem okm130 : k130.all (okE 130) = true := by
  unfold k130
  simp only [List.all_append, Bool.and_eq_true]
  exact ⟨ok130_0, ok130_1⟩
set_option maxRecDepth 100000 in
theorem ok131_0 : k131_0.all (okE 131) = true := by decide +kernel
theorem okm131 : k131.all (okE 131) = true := ok131_0
set_option maxRecDepth 100000 in
theorem ok132_0 : k132_0.all (okE 132) = true := by decide +kernel
theorem okm132 : k132.all (okE 132) = true := ok132_0
set_option maxRecDepth 100000 in
theorem ok133_0 : k133_0.all (okE 133) = true := by decide +kernel
theorem okm133 : k133.all (okE 133) = true := ok133_0
set_option maxRecDepth 100000 in
theorem ok134_0 : k134_0.all (okE 134) = true := by decide +kernel
set_option maxRecDepth 100000 in
theorem ok134_1 : k134_1.all (okE 134) = true := by decide +kernel
theorem okm134 : k134.all (okE 134) = true := by
  unfold k134
  simp only [List.all_append, Bool.and_eq_true]
  exact ⟨ok134_0, ok134_1⟩
set_option maxRecDepth 100000 in
theorem ok135_0 : k135_0.all (okE 135) = true := by decide +kernel
theorem okm135 : k135.all (okE 135) = true := ok135_0
set_option maxRecDepth 100000 in
theorem ok136_0 : k136_0.all (okE 136) = true := by decide +kernel
theorem okm136 : k136.all (okE 136) = true := ok136_0
set_option maxRecDepth 100000 in
theorem ok137_0 : k137_0.all (okE 137) = true := by decide +kernel
theorem okm137 : k137.all (okE 137) = true := ok137_0
set_option maxRecDepth 100000 in
theorem ok138_0 : k138_0.all (okE 138) = true := by decide +kernel
set_option maxRecDepth 100000 in
theorem ok138_1 : k138_1.all (okE 138) = true := by decide +kernel
theorem okm138 : k138.all (okE 138) = true := by
  unfold k138
  simp only [List.all_append, Bool.and_eq_true]
  exact ⟨ok138_0, ok138_1⟩
set_option maxRecDepth 100000 in
theorem ok139_0 : k139_0.all (okE 139) = true := by decide +kernel
theorem okm139 : k139.all (okE 139) = true := ok139_0
set_option maxRecDepth 100000 in
theorem ok140_0 : k140_0.all (okE 140) = true := by decide +kernel
theorem okm140 : k140.all (okE 140) = true := ok140_0
set_option maxRecDepth 100000 in
theorem ok141_0 : k141_0.all (okE 141) = true := by decide +kernel
theorem okm141 : k141.all (okE 141) = true := ok141_0
set_option maxRecDepth 100000 in
theorem ok142_0 : k142_0.all (okE 142) = true := by decide +kernel
set_option maxRecDepth 100000 in
theorem ok142_1 : k142_1.all (okE 142) = true := by decide +kernel
set_option maxRecDepth 100000 in
theorem ok142_2 : k142_2.all (okE 142) = true := by decide +kernel
theorem okm142 : k142.all (okE 142) = true := by
  unfold k142
  simp only [List.all_append, Bool.and_eq_true]
  exact ⟨ok142_0, ok142_1, ok142_2⟩
set_option maxRecDepth 100000 in
theorem ok143_0 : k143_0.all (okE 143) = true := by decide +kernel
theorem okm143 : k143.all (okE 143) = true := ok143_0
set_option maxRecDepth 100000 in
theorem ok144_0 : k144_0.all (okE 144) = true := by decide +kernel
theorem okm144 : k144.all (okE 144) = true := ok144_0
set_option maxRecDepth 100000 in
theorem ok145_0 : k145_0.all (okE 145) = true := by decide +kernel
theorem okm145 : k145.all (okE 145) = true := ok145_0
set_option maxRecDepth 100000 in
theorem ok146_0 : k146_0.all (okE 146) = true := by decide +kernel
theorem okm146 : k146.all (okE 146) = true := ok146_0
set_option maxRecDepth 100000 in
theorem ok147_0 : k147_0.all (okE 147) = true := by decide +kernel
set_option maxRecDepth 100000 in
theorem ok147_1 : k147_1.all (okE 147) = true := by decide +kernel
theorem okm147 : k147.all (okE 147) = true := by
  unfold k147
  simp only [List.all_append, Bool.and_eq_true]
  exact ⟨ok147_0, ok147_1⟩
set_option maxRecDepth 100000 in
theorem ok148_0 : k148_0.all (okE 148) = true := by decide +kernel
set_option maxRecDepth 100000 in
theorem ok148_1 : k148_1.all (okE 148) = true := by decide +kernel
theorem okm148 : k148.all (okE 148) = true := by
  unfold k148
  simp only [List.all_append, Bool.and_eq_true]
  exact ⟨ok148_0, ok148_1⟩
set_option maxRecDepth 100000 in
theorem ok149_0 : k149_0.all (okE 149) = true := by decide +kernel
set_option maxRecDepth 100000 in
theorem ok149_1 : k149_1.all (okE 149) = true := by decide +kernel
set_option maxRecDepth 100000 in
theorem ok149_2 : k149_2.all (okE 149) = true := by decide +kernel
theorem okm149 : k149.all (okE 149) = true := by
  unfold k149
  simp only [List.all_append, Bool.and_eq_true]
  exact ⟨ok149_0, ok149_1, ok149_2⟩
set_option maxRecDepth 100000 in
theorem ok150_0 : k150_0.all (okE 150) = true := by decide +kernel
set_option maxRecDepth 100000 in
theorem ok150_1 : k150_1.all (okE 150) = true := by decide +kernel
theorem okm150 : k150.all (okE 150) = true := by
  unfold k150
  simp only [List.all_append, Bool.and_eq_true]
  exact ⟨ok150_0, ok150_1⟩
set_option maxRecDepth 100000 in
theorem ok151_0 : k151_0.all (okE 151) = true := by decide +kernel
theorem okm151 : k151.all (okE 151) = true := ok151_0
set_option maxRecDepth 100000 in
theorem ok152_0 : k152_0.all (okE 152) = true := by decide +kernel
set_option maxRecDepth 100000 in
theorem ok152_1 : k152_1.all (okE 152) = true := by decide +kernel
set_option maxRecDepth 100000 in
theorem ok152_2 : k152_2.all (okE 152) = true := by decide +kernel
theorem okm152 : k152.all (okE 152) = true := by
  unfold k152
  simp only [List.all_append, Bool.and_eq_true]
  exact ⟨ok152_0, ok152_1, ok152_2⟩
set_option maxRecDepth 100000 in
theorem ok153_0 : k153_0.all (okE 153) = true := by decide +kernel
theorem okm153 : k153.all (okE 153) = true := ok153_0
set_option maxRecDepth 100000 in
theorem ok154_0 : k154_0.all (okE 154) = true := by decide +kernel
theorem okm154 : k154.all (okE 154) = true := ok154_0
set_option maxRecDepth 100000 in
theorem ok155_0 : k155_0.all (okE 155) = true := by decide +kernel
set_option maxRecDepth 100000 in
theorem ok155_1 : k155_1.all (okE 155) = true := by decide +kernel
theorem okm155 : k155.all (okE 155) = true := by
  unfold k155
  simp only [List.all_append, Bool.and_eq_true]
  exact ⟨ok155_0, ok155_1⟩
set_option maxRecDepth 100000 in
theorem ok156_0 : k156_0.all (okE 156) = true := by decide +kernel
set_option maxRecDepth 100000 in
theorem ok156_1 : k156_1.all (okE 156) = true := by decide +kernel
theorem okm156 : k156.all (okE 156) = true := by
  unfold k156
  simp only [List.all_append, Bool.and_eq_true]
  exact ⟨ok156_0, ok156_1⟩
set_option maxRecDepth 100000 in
theorem ok157_0 : k157_0.all (okE 157) = true := by decide +kernel
theorem okm157 : k157.all (okE 157) = true := ok157_0
set_option maxRecDepth 100000 in
theorem ok158_0 : k158_0.all (okE 158) = true := by decide +kernel
theorem okm158 : k158.all (okE 158) = true := ok158_0
set_option maxRecDepth 100000 in
theorem ok159_0 : k159_0.all (okE 159) = true := by decide +kernel
theorem okm159 : k159.all (okE 159) = true := ok159_0
set_option maxRecDepth 100000 in
theorem ok160_0 : k160_0.all (okE 160) = true := by decide +kernel
theorem okm160 : k160.all (okE 160) = true := ok160_0
set_option maxRecDepth 100000 in
theorem ok161_0 : k161_0.all (okE 161) = true := by decide +kernel
theorem okm161 : k161.all (okE 161) = true := ok161_0
set_option maxRecDepth 100000 in
theorem ok162_0 : k162_0.all (okE 162) = true := by decide +kernel
theorem okm162 : k162.all (okE 162) = true := ok162_0
set_option maxRecDepth 100000 in
theorem ok163_0 : k163_0.all (okE 163) = true := by decide +kernel
theorem okm163 : k163.all (okE 163) = true := ok163_0
set_option maxRecDepth 100000 in
theorem ok164_0 : k164_0.all (okE 164) = true := by decide +kernel
set_option maxRecDepth 100000 in
theorem ok164_1 : k164_1.all (okE 164) = true := by decide +kernel
theorem okm164 : k164.all (okE 164) = true := by
  unfold k164
  simp only [List.all_append, Bool.and_eq_true]
  exact ⟨ok164_0, ok164_1⟩
set_option maxRecDepth 100000 in
theorem ok165_0 : k165_0.all (okE 165) = true := by decide +kernel
theorem okm165 : k165.all (okE 165) = true := ok165_0
set_option maxRecDepth 100000 in
theorem ok166_0 : k166_0.all (okE 166) = true := by decide +kernel
theorem okm166 : k166.all (okE 166) = true := ok166_0
set_option maxRecDepth 100000 in
theorem ok167_0 : k167_0.all (okE 167) = true := by decide +kernel
theorem okm167 : k167.all (okE 167) = true := ok167_0
set_option maxRecDepth 100000 in
theorem ok168_0 : k168_0.all (okE 168) = true := by decide +kernel
theorem okm168 : k168.all (okE 168) = true := ok168_0
set_option maxRecDepth 100000 in
theorem ok169_0 : k169_0.all (okE 169) = true := by decide +kernel
theorem okm169 : k169.all (okE 169) = true := ok169_0
set_option maxRecDepth 100000 in
theorem ok170_0 : k170_0.all (okE 170) = true := by decide +kernel
theorem okm170 : k170.all (okE 170) = true := ok170_0
set_option maxRecDepth 100000 in
theorem ok171_0 : k171_0.all (okE 171) = true := by decide +kernel
theorem okm171 : k171.all (okE 171) = true := ok171_0
set_option maxRecDepth 100000 in
theorem ok172_0 : k172_0.all (okE 172) = true := by decide +kernel
theorem okm172 : k172.all (okE 172) = true := ok172_0
set_option maxRecDepth 100000 in
theorem ok173_0 : k173_0.all (okE 173) = true := by decide +kernel
theorem okm173 : k173.all (okE 173) = true := ok173_0
set_option maxRecDepth 100000 in
theorem ok174_0 : k174_0.all (okE 174) = true := by decide +kernel
theorem okm174 : k174.all (okE 174) = true := ok174_0
set_option maxRecDepth 100000 in
theorem ok175_0 : k175_0.all (okE 175) = true := by decide +kernel
theorem okm175 : k175.all (okE 175) = true := ok175_0
set_option maxRecDepth 100000 in
theorem ok176_0 : k176_0.all (okE 176) = true := by decide +kernel
theorem okm176 : k176.all (okE 176) = true := ok176_0
set_option maxRecDepth 100000 in
theorem ok177_0 : k177_0.all (okE 177) = true := by decide +kernel
theorem okm177 : k177.all (okE 177) = true := ok177_0
set_option maxRecDepth 100000 in
theorem ok178_0 : k178_0.all (okE 178) = true := by decide +kernel
theorem okm178 : k178.all (okE 178) = true := ok178_0
set_option maxRecDepth 100000 in
theorem ok179_0 : k179_0.all (okE 179) = true := by decide +kernel
set_option maxRecDepth 100000 in
theorem ok179_1 : k179_1.all (okE 179) = true := by decide +kernel
theorem okm179 : k179.all (okE 179) = true := by
  unfold k179
  simp only [List.all_append, Bool.and_eq_true]
  exact ⟨ok179_0, ok179_1⟩
set_option maxRecDepth 100000 in
theorem ok180_0 : k180_0.all (okE 180) = true := by decide +kernel
theorem okm180 : k180.all (okE 180) = true := ok180_0
set_option maxRecDepth 100000 in
theorem ok181_0 : k181_0.all (okE 181) = true := by decide +kernel
theorem okm181 : k181.all (okE 181) = true := ok181_0
set_option maxRecDepth 100000 in
theorem ok182_0 : k182_0.all (okE 182) = true := by decide +kernel
theorem okm182 : k182.all (okE 182) = true := ok182_0
set_option maxRecDepth 100000 in
theorem ok183_0 : k183_0.all (okE 183) = true := by decide +kernel
set_option maxRecDepth 100000 in
theorem ok183_1 : k183_1.all (okE 183) = true := by decide +kernel
theorem okm183 : k183.all (okE 183) = true := by
  unfold k183
  simp only [List.all_append, Bool.and_eq_true]
  exact ⟨ok183_0, ok183_1⟩
set_option maxRecDepth 100000 in
theorem ok184_0 : k184_0.all (okE 184) = true := by decide +kernel
theorem okm184 : k184.all (okE 184) = true := ok184_0
set_option maxRecDepth 100000 in
theorem ok185_0 : k185_0.all (okE 185) = true := by decide +kernel
theorem okm185 : k185.all (okE 185) = true := ok185_0
set_option maxRecDepth 100000 in
theorem ok186_0 : k186_0.all (okE 186) = true := by decide +kernel
theorem okm186 : k186.all (okE 186) = true := ok186_0
set_option maxRecDepth 100000 in
theorem ok187_0 : k187_0.all (okE 187) = true := by decide +kernel
theorem okm187 : k187.all (okE 187) = true := ok187_0
set_option maxRecDepth 100000 in
theorem ok188_0 : k188_0.all (okE 188) = true := by decide +kernel
theorem okm188 : k188.all (okE 188) = true := ok188_0
set_option maxRecDepth 100000 in
theorem ok189_0 : k189_0.all (okE 189) = true := by decide +kernel
theorem okm189 : k189.all (okE 189) = true := ok189_0
set_option maxRecDepth 100000 in
theorem ok190_0 : k190_0.all (okE 190) = true := by decide +kernel
theorem okm190 : k190.all (okE 190) = true := ok190_0
set_option maxRecDepth 100000 in
theorem ok191_0 : k191_0.all (okE 191) = true := by decide +kernel
theorem okm191 : k191.all (okE 191) = true := ok191_0
set_option maxRecDepth 100000 in
theorem ok192_0 : k192_0.all (okE 192) = true := by decide +kernel
theorem okm192 : k192.all (okE 192) = true := ok192_0
set_option maxRecDepth 100000 in
theorem ok193_0 : k193_0.all (okE 193) = true := by decide +kernel
theorem okm193 : k193.all (okE 193) = true := ok193_0
set_option maxRecDepth 100000 in
theorem ok194_0 : k194_0.all (okE 194) = true := by decide +kernel
theorem okm194 : k194.all (okE 194) = true := ok194_0
set_option maxRecDepth 100000 in
theorem ok195_0 : k195_0.all (okE 195) = true := by decide +kernel
theorem okm195 : k195.all (okE 195) = true := ok195_0
set_option maxRecDepth 100000 in
theorem ok196_0 : k196_0.all (okE 196) = true := by decide +kernel
theorem okm196 : k196.all (okE 196) = true := ok196_0
set_option maxRecDepth 100000 in
theorem ok197_0 : k197_0.all (okE 197) = true := by decide +kernel
set_option maxRecDepth 100000 in
theorem ok197_1 : k197_1.all (okE 197) = true := by decide +kernel
set_option maxRecDepth 100000 in
theorem ok197_2 : k197_2.all (okE 197) = true := by decide +kernel
theorem okm197 : k197.all (okE 197) = true := by
  unfold k197
  simp only [List.all_append, Bool.and_eq_true]
  exact ⟨ok197_0, ok197_1, ok197_2⟩
set_option maxRecDepth 100000 in
theorem ok198_0 : k198_0.all (okE 198) = true := by decide +kernel
set_option maxRecDepth 100000 in
theorem ok198_1 : k198_1.all (okE 198) = true := by decide +kernel
theorem okm198 : k198.all (okE 198) = true := by
  unfold k198
  simp only [List.all_append, Bool.and_eq_true]
  exact ⟨ok198_0, ok198_1⟩
set_option maxRecDepth 100000 in
theorem ok199_0 : k199_0.all (okE 199) = true := by decide +kernel
theorem okm199 : k199.all (okE 199) = true := ok199_0
set_option maxRecDepth 100000 in
theorem ok200_0 : k200_0.all (okE 200) = true := by decide +kernel
set_option maxRecDepth 100000 in
theorem ok200_1 : k200_1.all (okE 200) = true := by decide +kernel
theorem okm200 : k200.all (okE 200) = true := by
  unfold k200
  simp only [List.all_append, Bool.and_eq_true]
  exact ⟨ok200_0, ok200_1⟩
set_option maxRecDepth 100000 in
theorem ok201_0 : k201_0.all (okE 201) = true := by decide +kernel
set_option maxRecDepth 100000 in
theorem ok201_1 : k201_1.all (okE 201) = true := by decide +kernel
theorem okm201 : k201.all (okE 201) = true := by
  unfold k201
  simp only [List.all_append, Bool.and_eq_true]
  exact ⟨ok201_0, ok201_1⟩
set_option maxRecDepth 100000 in
theorem ok202_0 : k202_0.all (okE 202) = true := by decide +kernel
set_option maxRecDepth 100000 in
theorem ok202_1 : k202_1.all (okE 202) = true := by decide +kernel
theorem okm202 : k202.all (okE 202) = true := by
  unfold k202
  simp only [List.all_append, Bool.and_eq_true]
  exact ⟨ok202_0, ok202_1⟩
set_option maxRecDepth 100000 in
theorem ok203_0 : k203_0.all (okE 203) = true := by decide +kernel
theorem okm203 : k203.all (okE 203) = true := ok203_0
set_option maxRecDepth 100000 in
theorem ok204_0 : k204_0.all (okE 204) = true := by decide +kernel
theorem okm204 : k204.all (okE 204) = true := ok204_0
set_option maxRecDepth 100000 in
theorem ok205_0 : k205_0.all (okE 205) = true := by decide +kernel
theorem okm205 : k205.all (okE 205) = true := ok205_0
set_option maxRecDepth 100000 in
theorem ok206_0 : k206_0.all (okE 206) = true := by decide +kernel
set_option maxRecDepth 100000 in
theorem ok206_1 : k206_1.all (okE 206) = true := by decide +kernel
theorem okm206 : k206.all (okE 206) = true := by
  unfold k206
  simp only [List.all_append, Bool.and_eq_true]
  exact ⟨ok206_0, ok206_1⟩
set_option maxRecDepth 100000 in
theorem ok207_0 : k207_0.all (okE 207) = true := by decide +kernel
theorem okm207 : k207.all (okE 207) = true := ok207_0
set_option maxRecDepth 100000 in
theorem ok208_0 : k208_0.all (okE 208) = true := by decide +kernel
theorem okm208 : k208.all (okE 208) = true := ok208_0
set_option maxRecDepth 100000 in
theorem ok209_0 : k209_0.all (okE 209) = true := by decide +kernel
theorem okm209 : k209.all (okE 209) = true := ok209_0
set_option maxRecDepth 100000 in
theorem ok210_0 : k210_0.all (okE 210) = true := by decide +kernel
theorem okm210 : k210.all (okE 210) = true := ok210_0
set_option maxRecDepth 100000 in
theorem ok211_0 : k211_0.all (okE 211) = true := by decide +kernel
theorem okm211 : k211.all (okE 211) = true := ok211_0
set_option maxRecDepth 100000 in
theorem ok212_0 : k212_0.all (okE 212) = true := by decide +kernel
theorem okm212 : k212.all (okE 212) = true := ok212_0
set_option maxRecDepth 100000 in
theorem ok213_0 : k213_0.all (okE 213) = true := by decide +kernel
set_option maxRecDepth 100000 in
theorem ok213_1 : k213_1.all (okE 213) = true := by decide +kernel
set_option maxRecDepth 100000 in
theorem ok213_2 : k213_2.all (okE 213) = true := by decide +kernel
set_option maxRecDepth 100000 in
theorem ok213_3 : k213_3.all (okE 213) = true := by decide +kernel
set_option maxRecDepth 100000 in
theorem ok213_4 : k213_4.all (okE 213) = true := by decide +kernel
set_option maxRecDepth 100000 in
theorem ok213_5 : k213_5.all (okE 213) = true := by decide +kernel
theorem okm213 : k213.all (okE 213) = true := by
  unfold k213
  simp only [List.all_append, Bool.and_eq_true]
  exact ⟨ok213_0, ok213_1, ok213_2, ok213_3, ok213_4, ok213_5⟩
set_option maxRecDepth 100000 in
theorem ok214_0 : k214_0.all (okE 214) = true := by decide +kernel
set_option maxRecDepth 100000 in
theorem ok214_1 : k214_1.all (okE 214) = true := by decide +kernel
theorem okm214 : k214.all (okE 214) = true := by
  unfold k214
  simp only [List.all_append, Bool.and_eq_true]
  exact ⟨ok214_0, ok214_1⟩
set_option maxRecDepth 100000 in
theorem ok215_0 : k215_0.all (okE 215) = true := by decide +kernel
set_option maxRecDepth 100000 in
theorem ok215_1 : k215_1.all (okE 215) = true := by decide +kernel
theorem okm215 : k215.all (okE 215) = true := by
  unfold k215
  simp only [List.all_append, Bool.and_eq_true]
  exact ⟨ok215_0, ok215_1⟩
set_option maxRecDepth 100000 in
theorem ok216_0 : k216_0.all (okE 216) = true := by decide +kernel
set_option maxRecDepth 100000 in
theorem ok216_1 : k216_1.all (okE 216) = true := by decide +kernel
theorem okm216 : k216.all (okE 216) = true := by
  unfold k216
  simp only [List.all_append, Bool.and_eq_true]
  exact ⟨ok216_0, ok216_1⟩
set_option maxRecDepth 100000 in
theorem ok217_0 : k217_0.all (okE 217) = true := by decide +kernel
set_option maxRecDepth 100000 in
theorem ok217_1 : k217_1.all (okE 217) = true := by decide +kernel
theorem okm217 : k217.all (okE 217) = true := by
  unfold k217
  simp only [List.all_append, Bool.and_eq_true]
  exact ⟨ok217_0, ok217_1⟩
set_option maxRecDepth 100000 in
theorem ok218_0 : k218_0.all (okE 218) = true := by decide +kernel
theorem okm218 : k218.all (okE 218) = true := ok218_0
set_option maxRecDepth 100000 in
theorem ok219_0 : k219_0.all (okE 219) = true := by decide +kernel
theorem okm219 : k219.all (okE 219) = true := ok219_0
set_option maxRecDepth 100000 in
theorem ok220_0 : k220_0.all (okE 220) = true := by decide +kernel
theorem okm220 : k220.all (okE 220) = true := ok220_0
set_option maxRecDepth 100000 in
theorem ok221_0 : k221_0.all (okE 221) = true := by decide +kernel
theorem okm221 : k221.all (okE 221) = true := ok221_0
set_option maxRecDepth 100000 in
theorem ok222_0 : k222_0.all (okE 222) = true := by decide +kernel
theorem okm222 : k222.all (okE 222) = true := ok222_0
set_option maxRecDepth 100000 in
theorem ok223_0 : k223_0.all (okE 223) = true := by decide +kernel
set_option maxRecDepth 100000 in
theorem ok223_1 : k223_1.all (okE 223) = true := by decide +kernel
set_option maxRecDepth 100000 in
theorem ok223_2 : k223_2.all (okE 223) = true := by decide +kernel
theorem okm223 : k223.all (okE 223) = true := by
  unfold k223
  simp only [List.all_append, Bool.and_eq_true]
  exact ⟨ok223_0, ok223_1, ok223_2⟩
set_option maxRecDepth 100000 in
theorem ok224_0 : k224_0.all (okE 224) = true := by decide +kernel
set_option maxRecDepth 100000 in
theorem ok224_1 : k224_1.all (okE 224) = true := by decide +kernel
theorem okm224 : k224.all (okE 224) = true := by
  unfold k224
  simp only [List.all_append, Bool.and_eq_true]
  exact ⟨ok224_0, ok224_1⟩
set_option maxRecDepth 100000 in
theorem ok225_0 : k225_0.all (okE 225) = true := by decide +kernel
set_option maxRecDepth 100000 in
theorem ok225_1 : k225_1.all (okE 225) = true := by decide +kernel
set_option maxRecDepth 100000 in
theorem ok225_2 : k225_2.all (okE 225) = true := by decide +kernel
theorem okm225 : k225.all (okE 225) = true := by
  unfold k225
  simp only [List.all_append, Bool.and_eq_true]
  exact ⟨ok225_0, ok225_1, ok225_2⟩
set_option maxRecDepth 100000 in
theorem ok226_0 : k226_0.all (okE 226) = true := by decide +kernel
theorem okm226 : k226.all (okE 226) = true := ok226_0
set_option maxRecDepth 100000 in
theorem ok227_0 : k227_0.all (okE 227) = true := by decide +kernel
set_option maxRecDepth 100000 in
theorem ok227_1 : k227_1.all (okE 227) = true := by decide +kernel
set_option maxRecDepth 100000 in
theorem ok227_2 : k227_2.all (okE 227) = true := by decide +kernel
theorem okm227 : k227.all (okE 227) = true := by
  unfold k227
  simp only [List.all_append, Bool.and_eq_true]
  exact ⟨ok227_0, ok227_1, ok227_2⟩
set_option maxRecDepth 100000 in
theorem ok228_0 : k228_0.all (okE 228) = true := by decide +kernel
theorem okm228 : k228.all (okE 228) = true := ok228_0
set_option maxRecDepth 100000 in
theorem ok229_0 : k229_0.all (okE 229) = true := by decide +kernel
theorem okm229 : k229.all (okE 229) = true := ok229_0
set_option maxRecDepth 100000 in
theorem ok230_0 : k230_0.all (okE 230) = true := by decide +kernel
theorem okm230 : k230.all (okE 230) = true := ok230_0
set_option maxRecDepth 100000 in
theorem ok231_0 : k231_0.all (okE 231) = true := by decide +kernel
theorem okm231 : k231.all (okE 231) = true := ok231_0
set_option maxRecDepth 100000 in
theorem ok232_0 : k232_0.all (okE 232) = true := by decide +kernel
theorem okm232 : k232.all (okE 232) = true := ok232_0
set_option maxRecDepth 100000 in
theorem ok233_0 : k233_0.all (okE 233) = true := by decide +kernel
theorem okm233 : k233.all (okE 233) = true := ok233_0
set_option maxRecDepth 100000 in
theorem ok234_0 : k234_0.all (okE 234) = true := by decide +kernel
theorem okm234 : k234.all (okE 234) = true := ok234_0
set_option maxRecDepth 100000 in
theorem ok235_0 : k235_0.all (okE 235) = true := by decide +kernel
theorem okm235 : k235.all (okE 235) = true := ok235_0
set_option maxRecDepth 100000 in
theorem ok236_0 : k236_0.all (okE 236) = true := by decide +kernel
theorem okm236 : k236.all (okE 236) = true := ok236_0
set_option maxRecDepth 100000 in
theorem ok237_0 : k237_0.all (okE 237) = true := by decide +kernel
set_option maxRecDepth 100000 in
theorem ok237_1 : k237_1.all (okE 237) = true := by decide +kernel
set_option maxRecDepth 100000 in
theorem ok237_2 : k237_2.all (okE 237) = true := by decide +kernel
set_option maxRecDepth 100000 in
theorem ok237_3 : k237_3.all (okE 237) = true := by decide +kernel
theorem okm237 : k237.all (okE 237) = true := by
  unfold k237
  simp only [List.all_append, Bool.and_eq_true]
  exact ⟨ok237_0, ok237_1, ok237_2, ok237_3⟩
set_option maxRecDepth 100000 in
theorem ok238_0 : k238_0.all (okE 238) = true := by decide +kernel
theorem okm238 : k238.all (okE 238) = true := ok238_0
set_option maxRecDepth 100000 in
theorem ok239_0 : k239_0.all (okE 239) = true := by decide +kernel
set_option maxRecDepth 100000 in
theorem ok239_1 : k239_1.all (okE 239) = true := by decide +kernel
theorem okm239 : k239.all (okE 239) = true := by
  unfold k239
  simp only [List.all_append, Bool.and_eq_true]
  exact ⟨ok239_0, ok239_1⟩
set_option maxRecDepth 100000 in
theorem ok240_0 : k240_0.all (okE 240) = true := by decide +kernel
theorem okm240 : k240.all (okE 240) = true := ok240_0
set_option maxRecDepth 100000 in
theorem ok241_0 : k241_0.all (okE 241) = true := by decide +kernel
theorem okm241 : k241.all (okE 241) = true := ok241_0
set_option maxRecDepth 100000 in
theorem ok242_0 : k242_0.all (okE 242) = true := by decide +kernel
theorem okm242 : k242.all (okE 242) = true := ok242_0
set_option maxRecDepth 100000 in
theorem ok243_0 : k243_0.all (okE 243) = true := by decide +kernel
theorem okm243 : k243.all (okE 243) = true := ok243_0
set_option maxRecDepth 100000 in
theorem ok244_0 : k244_0.all (okE 244) = true := by decide +kernel
theorem okm244 : k244.all (okE 244) = true := ok244_0
set_option maxRecDepth 100000 in
theorem ok245_0 : k245_0.all (okE 245) = true := by decide +kernel
theorem okm245 : k245.all (okE 245) = true := ok245_0
set_option maxRecDepth 100000 in
theorem ok246_0 : k246_0.all (okE 246) = true := by decide +kernel
theorem okm246 : k246.all (okE 246) = true := ok246_0
set_option maxRecDepth 100000 in
theorem ok247_0 : k247_0.all (okE 247) = true := by decide +kernel
theorem okm247 : k247.all (okE 247) = true := ok247_0
set_option maxRecDepth 100000 in
theorem ok248_0 : k248_0.all (okE 248) = true := by decide +kernel
theorem okm248 : k248.all (okE 248) = true := ok248_0
set_option maxRecDepth 100000 in
theorem ok249_0 : k249_0.all (okE 249) = true := by decide +kernel
theorem okm249 : k249.all (okE 249) = true := ok249_0
set_option maxRecDepth 100000 in
theorem ok250_0 : k250_0.all (okE 250) = true := by decide +kernel
set_option maxRecDepth 100000 in
theorem ok250_1 : k250_1.all (okE 250) = true := by decide +kernel
theorem okm250 : k250.all (okE 250) = true := by
  unfold k250
  simp only [List.all_append, Bool.and_eq_true]
  exact ⟨ok250_0, ok250_1⟩
set_option maxRecDepth 100000 in
theorem ok251_0 : k251_0.all (okE 251) = true := by decide +kernel
theorem okm251 : k251.all (okE 251) = true := ok251_0
set_option maxRecDepth 100000 in
theorem ok252_0 : k252_0.all (okE 252) = true := by decide +kernel
theorem okm252 : k252.all (okE 252) = true := ok252_0
set_option maxRecDepth 100000 in
theorem ok253_0 : k253_0.all (okE 253) = true := by decide +kernel
set_option maxRecDepth 100000 in
theorem ok253_1 : k253_1.all (okE 253) = true := by decide +kernel
set_option maxRecDepth 100000 in
theorem ok253_2 : k253_2.all (okE 253) = true := by decide +kernel
theorem okm253 : k253.all (okE 253) = true := by
  unfold k253
  simp only [List.all_append, Bool.and_eq_true]
  exact ⟨ok253_0, ok253_1, ok253_2⟩
set_option maxRecDepth 100000 in
theorem ok254_0 : k254_0.all (okE 254) = true := by decide +kernel
theorem okm254 : k254.all (okE 254) = true := ok254_0
set_option maxRecDepth 100000 in
theorem ok255_0 : k255_0.all (okE 255) = true := by decide +kernel
set_option maxRecDepth 100000 in
theorem ok255_1 : k255_1.all (okE 255) = true := by decide +kernel
set_option maxRecDepth 100000 in
theorem ok255_2 : k255_2.all (okE 255) = true := by decide +kernel
theorem okm255 : k255.all (okE 255) = true := by
  unfold k255
  simp only [List.all_append, Bool.and_eq_true]
  exact ⟨ok255_0, ok255_1, ok255_2⟩
set_option maxRecDepth 100000 in
theorem ok256_0 : k256_0.all (okE 256) = true := by decide +kernel
set_option maxRecDepth 100000 in
theorem ok256_1 : k256_1.all (okE 256) = true := by decide +kernel
theorem okm256 : k256.all (okE 256) = true := by
  unfold k256
  simp only [List.all_append, Bool.and_eq_true]
  exact ⟨ok256_0, ok256_1⟩
set_option maxRecDepth 100000 in
theorem ok257_0 : k257_0.all (okE 257) = true := by decide +kernel
set_option maxRecDepth 100000 in
theorem ok257_1 : k257_1.all (okE 257) = true := by decide +kernel
theorem okm257 : k257.all (okE 257) = true := by
  unfold k257
  simp only [List.all_append, Bool.and_eq_true]
  exact ⟨ok257_0, ok257_1⟩
set_option maxRecDepth 100000 in
theorem ok258_0 : k258_0.all (okE 258) = true := by decide +kernel
theorem okm258 : k258.all (okE 258) = true := ok258_0
set_option maxRecDepth 100000 in
theorem ok259_0 : k259_0.all (okE 259) = true := by decide +kernel
theorem okm259 : k259.all (okE 259) = true := ok259_0
set_option maxRecDepth 100000 in
theorem ok260_0 : k260_0.all (okE 260) = true := by decide +kernel
theorem okm260 : k260.all (okE 260) = true := ok260_0
set_option maxRecDepth 100000 in
theorem ok261_0 : k261_0.all (okE 261) = true := by decide +kernel
theorem okm261 : k261.all (okE 261) = true := ok261_0
set_option maxRecDepth 100000 in
theorem ok262_0 : k262_0.all (okE 262) = true := by decide +kernel
set_option maxRecDepth 100000 in
theorem ok262_1 : k262_1.all (okE 262) = true := by decide +kernel
theorem okm262 : k262.all (okE 262) = true := by
  unfold k262
  simp only [List.all_append, Bool.and_eq_true]
  exact ⟨ok262_0, ok262_1⟩
set_option maxRecDepth 100000 in
theorem ok263_0 : k263_0.all (okE 263) = true := by decide +kernel
set_option maxRecDepth 100000 in
theorem ok263_1 : k263_1.all (okE 263) = true := by decide +kernel
theorem okm263 : k263.all (okE 263) = true := by
  unfold k263
  simp only [List.all_append, Bool.and_eq_true]
  exact ⟨ok263_0, ok263_1⟩
set_option maxRecDepth 100000 in
theorem ok264_0 : k264_0.all (okE 264) = true := by decide +kernel
theorem okm264 : k264.all (okE 264) = true := ok264_0
set_option maxRecDepth 100000 in
theorem ok265_0 : k265_0.all (okE 265) = true := by decide +kernel
theorem okm265 : k265.all (okE 265) = true := ok265_0
set_option maxRecDepth 100000 in
theorem ok266_0 : k266_0.all (okE 266) = true := by decide +kernel
set_option maxRecDepth 100000 in
theorem ok266_1 : k266_1.all (okE 266) = true := by decide +kernel
set_option maxRecDepth 100000 in
theorem ok266_2 : k266_2.all (okE 266) = true := by decide +kernel
theorem okm266 : k266.all (okE 266) = true := by
  unfold k266
  simp only [List.all_append, Bool.and_eq_true]
  exact ⟨ok266_0, ok266_1, ok266_2⟩
set_option maxRecDepth 100000 in
theorem ok267_0 : k267_0.all (okE 267) = true := by decide +kernel
theorem okm267 : k267.all (okE 267) = true := ok267_0
set_option maxRecDepth 100000 in
theorem ok268_0 : k268_0.all (okE 268) = true := by decide +kernel
set_option maxRecDepth 100000 in
theorem ok268_1 : k268_1.all (okE 268) = true := by decide +kernel
theorem okm268 : k268.all (okE 268) = true := by
  unfold k268
  simp only [List.all_append, Bool.and_eq_true]
  exact ⟨ok268_0, ok268_1⟩
set_option maxRecDepth 100000 in
theorem ok269_0 : k269_0.all (okE 269) = true := by decide +kernel
set_option maxRecDepth 100000 in
theorem ok269_1 : k269_1.all (okE 269) = true := by decide +kernel
theorem okm269 : k269.all (okE 269) = true := by
  unfold k269
  simp only [List.all_append, Bool.and_eq_true]
  exact ⟨ok269_0, ok269_1⟩
set_option maxRecDepth 100000 in
theorem ok270_0 : k270_0.all (okE 270) = true := by decide +kernel
set_option maxRecDepth 100000 in
theorem ok270_1 : k270_1.all (okE 270) = true := by decide +kernel
theorem okm270 : k270.all (okE 270) = true := by
  unfold k270
  simp only [List.all_append, Bool.and_eq_true]
  exact ⟨ok270_0, ok270_1⟩
set_option maxRecDepth 100000 in
theorem ok271_0 : k271_0.all (okE 271) = true := by decide +kernel
theorem okm271 : k271.all (okE 271) = true := ok271_0
set_option maxRecDepth 100000 in
theorem ok272_0 : k272_0.all (okE 272) = true := by decide +kernel
set_option maxRecDepth 100000 in
theorem ok272_1 : k272_1.all (okE 272) = true := by decide +kernel
set_option maxRecDepth 100000 in
theorem ok272_2 : k272_2.all (okE 272) = true := by decide +kernel
set_option maxRecDepth 100000 in
theorem ok272_3 : k272_3.all (okE 272) = true := by decide +kernel
set_option maxRecDepth 100000 in
theorem ok272_4 : k272_4.all (okE 272) = true := by decide +kernel
theorem okm272 : k272.all (okE 272) = true := by
  unfold k272
  simp only [List.all_append, Bool.and_eq_true]
  exact ⟨ok272_0, ok272_1, ok272_2, ok272_3, ok272_4⟩
set_option maxRecDepth 100000 in
theorem ok273_0 : k273_0.all (okE 273) = true := by decide +kernel
theorem okm273 : k273.all (okE 273) = true := ok273_0
set_option maxRecDepth 100000 in
theorem ok274_0 : k274_0.all (okE 274) = true := by decide +kernel
theorem okm274 : k274.all (okE 274) = true := ok274_0
set_option maxRecDepth 100000 in
theorem ok275_0 : k275_0.all (okE 275) = true := by decide +kernel
set_option maxRecDepth 100000 in
theorem ok275_1 : k275_1.all (okE 275) = true := by decide +kernel
theorem okm275 : k275.all (okE 275) = true := by
  unfold k275
  simp only [List.all_append, Bool.and_eq_true]
  exact ⟨ok275_0, ok275_1⟩
set_option maxRecDepth 100000 in
theorem ok276_0 : k276_0.all (okE 276) = true := by decide +kernel
theorem okm276 : k276.all (okE 276) = true := ok276_0
set_option maxRecDepth 100000 in
theorem ok277_0 : k277_0.all (okE 277) = true := by decide +kernel
theorem okm277 : k277.all (okE 277) = true := ok277_0
set_option maxRecDepth 100000 in
theorem ok278_0 : k278_0.all (okE 278) = true := by decide +kernel
set_option maxRecDepth 100000 in
theorem ok278_1 : k278_1.all (okE 278) = true := by decide +kernel
set_option maxRecDepth 100000 in
theorem ok278_2 : k278_2.all (okE 278) = true := by decide +kernel
set_option maxRecDepth 100000 in
theorem ok278_3 : k278_3.all (okE 278) = true := by decide +kernel
theorem okm278 : k278.all (okE 278) = true := by
  unfold k278
  simp only [List.all_append, Bool.and_eq_true]
  exact ⟨ok278_0, ok278_1, ok278_2, ok278_3⟩
set_option maxRecDepth 100000 in
theorem ok279_0 : k279_0.all (okE 279) = true := by decide +kernel
set_option maxRecDepth 100000 in
theorem ok279_1 : k279_1.all (okE 279) = true := by decide +kernel
theorem okm279 : k279.all (okE 279) = true := by
  unfold k279
  simp only [List.all_append, Bool.and_eq_true]
  exact ⟨ok279_0, ok279_1⟩
set_option maxRecDepth 100000 in
theorem ok280_0 : k280_0.all (okE 280) = true := by decide +kernel
set_option maxRecDepth 100000 in
theorem ok280_1 : k280_1.all (okE 280) = true := by decide +kernel
set_option maxRecDepth 100000 in
theorem ok280_2 : k280_2.all (okE 280) = true := by decide +kernel
theorem okm280 : k280.all (okE 280) = true := by
  unfold k280
  simp only [List.all_append, Bool.and_eq_true]
  exact ⟨ok280_0, ok280_1, ok280_2⟩
set_option maxRecDepth 100000 in
theorem ok281_0 : k281_0.all (okE 281) = true := by decide +kernel
theorem okm281 : k281.all (okE 281) = true := ok281_0
set_option maxRecDepth 100000 in
theorem ok282_0 : k282_0.all (okE 282) = true := by decide +kernel
theorem okm282 : k282.all (okE 282) = true := ok282_0
set_option maxRecDepth 100000 in
theorem ok283_0 : k283_0.all (okE 283) = true := by decide +kernel
set_option maxRecDepth 100000 in
theorem ok283_1 : k283_1.all (okE 283) = true := by decide +kernel
set_option maxRecDepth 100000 in
theorem ok283_2 : k283_2.all (okE 283) = true := by decide +kernel
theorem okm283 : k283.all (okE 283) = true := by
  unfold k283
  simp only [List.all_append, Bool.and_eq_true]
  exact ⟨ok283_0, ok283_1, ok283_2⟩
set_option maxRecDepth 100000 in
theorem ok284_0 : k284_0.all (okE 284) = true := by decide +kernel
theorem okm284 : k284.all (okE 284) = true := ok284_0
set_option maxRecDepth 100000 in
theorem ok285_0 : k285_0.all (okE 285) = true := by decide +kernel
theorem okm285 : k285.all (okE 285) = true := ok285_0
set_option maxRecDepth 100000 in
theorem ok286_0 : k286_0.all (okE 286) = true := by decide +kernel
theorem okm286 : k286.all (okE 286) = true := ok286_0
set_option maxRecDepth 100000 in
theorem ok287_0 : k287_0.all (okE 287) = true := by decide +kernel
set_option maxRecDepth 100000 in
theorem ok287_1 : k287_1.all (okE 287) = true := by decide +kernel
theorem okm287 : k287.all (okE 287) = true := by
  unfold k287
  simp only [List.all_append, Bool.and_eq_true]
  exact ⟨ok287_0, ok287_1⟩
set_option maxRecDepth 100000 in
theorem ok288_0 : k288_0.all (okE 288) = true := by decide +kernel
set_option maxRecDepth 100000 in
theorem ok288_1 : k288_1.all (okE 288) = true := by decide +kernel
set_option maxRecDepth 100000 in
theorem ok288_2 : k288_2.all (okE 288) = true := by decide +kernel
theorem okm288 : k288.all (okE 288) = true := by
  unfold k288
  simp only [List.all_append, Bool.and_eq_true]
  exact ⟨ok288_0, ok288_1, ok288_2⟩
set_option maxRecDepth 100000 in
theorem ok289_0 : k289_0.all (okE 289) = true := by decide +kernel
set_option maxRecDepth 100000 in
theorem ok289_1 : k289_1.all (okE 289) = true := by decide +kernel
set_option maxRecDepth 100000 in
theorem ok289_2 : k289_2.all (okE 289) = true := by decide +kernel
theorem okm289 : k289.all (okE 289) = true := by
  unfold k289
  simp only [List.all_append, Bool.and_eq_true]
  exact ⟨ok289_0, ok289_1, ok289_2⟩
set_option maxRecDepth 100000 in
theorem ok290_0 : k290_0.all (okE 290) = true := by decide +kernel
set_option maxRecDepth 100000 in
theorem ok290_1 : k290_1.all (okE 290) = true := by decide +kernel
set_option maxRecDepth 100000 in
theorem ok290_2 : k290_2.all (okE 290) = true := by decide +kernel
set_option maxRecDepth 100000 in
theorem ok290_3 : k290_3.all (okE 290) = true := by decide +kernel
theorem okm290 : k290.all (okE 290) = true := by
  unfold k290
  simp only [List.all_append, Bool.and_eq_true]
  exact ⟨ok290_0, ok290_1, ok290_2, ok290_3⟩
set_option maxRecDepth 100000 in
theorem ok291_0 : k291_0.all (okE 291) = true := by decide +kernel
theorem okm291 : k291.all (okE 291) = true := ok291_0
set_option maxRecDepth 100000 in
theorem ok292_0 : k292_0.all (okE 292) = true := by decide +kernel
theorem okm292 : k292.all (okE 292) = true := ok292_0
set_option maxRecDepth 100000 in
theorem ok293_0 : k293_0.all (okE 293) = true := by decide +kernel
theorem okm293 : k293.all (okE 293) = true := ok293_0
set_option maxRecDepth 100000 in
theorem ok294_0 : k294_0.all (okE 294) = true := by decide +kernel
theorem okm294 : k294.all (okE 294) = true := ok294_0
set_option maxRecDepth 100000 in
theorem ok295_0 : k295_0.all (okE 295) = true := by decide +kernel
theorem okm295 : k295.all (okE 295) = true := ok295_0
set_option maxRecDepth 100000 in
theorem ok296_0 : k296_0.all (okE 296) = true := by decide +kernel
theorem okm296 : k296.all (okE 296) = true := ok296_0
set_option maxRecDepth 100000 in
theorem ok297_0 : k297_0.all (okE 297) = true := by decide +kernel
theorem okm297 : k297.all (okE 297) = true := ok297_0
set_option maxRecDepth 100000 in
theorem ok298_0 : k298_0.all (okE 298) = true := by decide +kernel
theorem okm298 : k298.all (okE 298) = true := ok298_0
set_option maxRecDepth 100000 in
theorem ok299_0 : k299_0.all (okE 299) = true := by decide +kernel
theorem okm299 : k299.all (okE 299) = true := ok299_0
set_option maxRecDepth 100000 in
theorem ok300_0 : k300_0.all (okE 300) = true := by decide +kernel
theorem okm300 : k300.all (okE 300) = true := ok300_0
set_option maxRecDepth 100000 in
theorem ok301_0 : k301_0.all (okE 301) = true := by decide +kernel
theorem okm301 : k301.all (okE 301) = true := ok301_0
set_option maxRecDepth 100000 in
theorem ok302_0 : k302_0.all (okE 302) = true := by decide +kernel
theorem okm302 : k302.all (okE 302) = true := ok302_0
set_option maxRecDepth 100000 in
theorem ok303_0 : k303_0.all (okE 303) = true := by decide +kernel
theorem okm303 : k303.all (okE 303) = true := ok303_0
set_option maxRecDepth 100000 in
theorem ok304_0 : k304_0.all (okE 304) = true := by decide +kernel
theorem okm304 : k304.all (okE 304) = true := ok304_0
set_option maxRecDepth 100000 in
theorem ok305_0 : k305_0.all (okE 305) = true := by decide +kernel
theorem okm305 : k305.all (okE 305) = true := ok305_0
set_option maxRecDepth 100000 in
theorem ok306_0 : k306_0.all (okE 306) = true := by decide +kernel
theorem okm306 : k306.all (okE 306) = true := ok306_0
set_option maxRecDepth 100000 in
theorem ok307_0 : k307_0.all (okE 307) = true := by decide +kernel
theorem okm307 : k307.all (okE 307) = true := ok307_0
set_option maxRecDepth 100000 in
theorem ok308_0 : k308_0.all (okE 308) = true := by decide +kernel
theorem okm308 : k308.all (okE 308) = true := ok308_0
set_option maxRecDepth 100000 in
theorem ok309_0 : k309_0.all (okE 309) = true := by decide +kernel
theorem okm309 : k309.all (okE 309) = true := ok309_0
set_option maxRecDepth 100000 in
theorem ok310_0 : k310_0.all (okE 310) = true := by decide +kernel
set_option maxRecDepth 100000 in
theorem ok310_1 : k310_1.all (okE 310) = true := by decide +kernel
set_option maxRecDepth 100000 in
theorem ok310_2 : k310_2.all (okE 310) = true := by decide +kernel
set_option maxRecDepth 100000 in
theorem ok310_3 : k310_3.all (okE 310) = true := by decide +kernel
set_option maxRecDepth 100000 in
theorem ok310_4 : k310_4.all (okE 310) = true := by decide +kernel
set_option maxRecDepth 100000 in
theorem ok310_5 : k310_5.all (okE 310) = true := by decide +kernel
set_option maxRecDepth 100000 in
theorem ok310_6 : k310_6.all (okE 310) = true := by decide +kernel
set_option maxRecDepth 100000 in
theorem ok310_7 : k310_7.all (okE 310) = true := by decide +kernel
set_option maxRecDepth 100000 in
theorem ok310_8 : k310_8.all (okE 310) = true := by decide +kernel
set_option maxRecDepth 100000 in
theorem ok310_9 : k310_9.all (okE 310) = true := by decide +kernel
set_option maxRecDepth 100000 in
theorem ok310_10 : k310_10.all (okE 310) = true := by decide +kernel
set_option maxRecDepth 100000 in
theorem ok310_11 : k310_11.all (okE 310) = true := by decide +kernel
set_option maxRecDepth 100000 in
theorem ok310_12 : k310_12.all (okE 310) = true := by decide +kernel
set_option maxRecDepth 100000 in
theorem ok310_13 : k310_13.all (okE 310) = true := by decide +kernel
set_option maxRecDepth 100000 in
theorem ok310_14 : k310_14.all (okE 310) = true := by decide +kernel
set_option maxRecDepth 100000 in
theorem ok310_15 : k310_15.all (okE 310) = true := by decide +kernel
set_option maxRecDepth 100000 in
theorem ok310_16 : k310_16.all (okE 310) = true := by decide +kernel
set_option maxRecDepth 100000 in
theorem ok310_17 : k310_17.all (okE 310) = true := by decide +kernel
set_option maxRecDepth 100000 in
theorem ok310_18 : k310_18.all (okE 310) = true := by decide +kernel
set_option maxRecDepth 100000 in
theorem ok310_19 : k310_19.all (okE 310) = true := by decide +kernel
set_option maxRecDepth 100000 in
theorem ok310_20 : k310_20.all (okE 310) = true := by decide +kernel
set_option maxRecDepth 100000 in
theorem ok310_21 : k310_21.all (okE 310) = true := by decide +kernel
set_option maxRecDepth 100000 in
theorem ok310_22 : k310_22.all (okE 310) = true := by decide +kernel
set_option maxRecDepth 100000 in
theorem ok310_23 : k310_23.all (okE 310) = true := by decide +kernel
set_option maxRecDepth 100000 in
theorem ok310_24 : k310_24.all (okE 310) = true := by decide +kernel
set_option maxRecDepth 100000 in
theorem ok310_25 : k310_25.all (okE 310) = true := by decide +kernel
theorem okm310 : k310.all (okE 310) = true := by
  unfold k310
  simp only [List.all_append, Bool.and_eq_true]
  exact ⟨ok310_0, ok310_1, ok310_2, ok310_3, ok310_4, ok310_5, ok310_6, ok310_7, ok310_8, ok310_9, ok310_10, ok310_11, ok310_12, ok310_13, ok310_14, ok310_15, ok310_16, ok310_17, ok310_18, ok310_19, ok310_20, ok310_21, ok310_22, ok310_23, ok310_24, ok310_25⟩
theorem KT0_ok : ∀ q ∈ KT0, q.2.all (okE q.1) = true := List.forall_mem_cons.mpr ⟨okm0, List.forall_mem_cons.mpr ⟨okm1, List.forall_mem_cons.mpr ⟨okm2, List.forall_mem_cons.mpr ⟨okm3, List.forall_mem_cons.mpr ⟨okm4, List.forall_mem_cons.mpr ⟨okm5, List.forall_mem_cons.mpr ⟨okm6, List.forall_mem_cons.mpr ⟨okm7, List.forall_mem_cons.mpr ⟨okm8, List.forall_mem_cons.mpr ⟨okm9, List.forall_mem_cons.mpr ⟨okm10, List.forall_mem_cons.mpr ⟨okm11, List.forall_mem_cons.mpr ⟨okm12, List.forall_mem_cons.mpr ⟨okm13, List.forall_mem_cons.mpr ⟨okm14, List.forall_mem_cons.mpr ⟨okm15, List.forall_mem_cons.mpr ⟨okm16, List.forall_mem_cons.mpr ⟨okm17, List.forall_mem_cons.mpr ⟨okm18, List.forall_mem_cons.mpr ⟨okm19, fun _ h => absurd h List.not_mem_nil⟩⟩⟩⟩⟩⟩⟩⟩⟩⟩⟩⟩⟩⟩⟩⟩⟩⟩⟩⟩
theorem KT1_ok : ∀ q ∈ KT1, q.2.all (okE q.1) = true := List.forall_mem_cons.mpr ⟨okm20, List.forall_mem_cons.mpr ⟨okm21, List.forall_mem_cons.mpr ⟨okm22, List.forall_mem_cons.mpr ⟨okm23, List.forall_mem_cons.mpr ⟨okm24, List.forall_mem_cons.mpr ⟨okm25, List.forall_mem_cons.mpr ⟨okm26, List.forall_mem_cons.mpr ⟨okm27, List.forall_mem_cons.mpr ⟨okm28, List.forall_mem_cons.mpr ⟨okm29, List.forall_mem_cons.mpr ⟨okm30, List.forall_mem_cons.mpr ⟨okm31, List.forall_mem_cons.mpr ⟨okm32, List.forall_mem_cons.mpr ⟨okm33, List.forall_mem_cons.mpr ⟨okm34, List.forall_mem_cons.mpr ⟨okm35, List.forall_mem_cons.mpr ⟨okm36, List.forall_mem_cons.mpr ⟨okm37, List.forall_mem_cons.mpr ⟨okm38, List.forall_mem_cons.mpr ⟨okm39, fun _ h => absurd h List.not_mem_nil⟩⟩⟩⟩⟩⟩⟩⟩⟩⟩⟩⟩⟩⟩⟩⟩⟩⟩⟩⟩
theorem KT2_ok : ∀ q ∈ KT2, q.2.all (okE q.1) = true := List.forall_mem_cons.mpr ⟨okm40, List.forall_mem_cons.mpr ⟨okm41, List.forall_mem_cons.mpr ⟨okm42, List.forall_mem_cons.mpr ⟨okm43, List.forall_mem_cons.mpr ⟨okm44, List.forall_mem_cons.mpr ⟨okm45, List.forall_mem_cons.mpr ⟨okm46, List.forall_mem_cons.mpr ⟨okm47, List.forall_mem_cons.mpr ⟨okm48, List.forall_mem_cons.mpr ⟨okm49, List.forall_mem_cons.mpr ⟨okm50, List.forall_mem_cons.mpr ⟨okm51, List.forall_mem_cons.mpr ⟨okm52, List.forall_mem_cons.mpr ⟨okm53, List.forall_mem_cons.mpr ⟨okm54, List.forall_mem_cons.mpr ⟨okm55, List.forall_mem_cons.mpr ⟨okm56, List.forall_mem_cons.mpr ⟨okm57, List.forall_mem_cons.mpr ⟨okm58, List.forall_mem_cons.mpr ⟨okm59, fun _ h => absurd h List.not_mem_nil⟩⟩⟩⟩⟩⟩⟩⟩⟩⟩⟩⟩⟩⟩⟩⟩⟩⟩⟩⟩
theorem KT3_ok : ∀ q ∈ KT3, q.2.all (okE q.1) = true := List.forall_mem_cons.mpr ⟨okm60, List.forall_mem_cons.mpr ⟨okm61, List.forall_mem_cons.mpr ⟨okm62, List.forall_mem_cons.mpr ⟨okm63, List.forall_mem_cons.mpr ⟨okm64, List.forall_mem_cons.mpr ⟨okm65, List.forall_mem_cons.mpr ⟨okm66, List.forall_mem_cons.mpr ⟨okm67, List.forall_mem_cons.mpr ⟨okm68, List.forall_mem_cons.mpr ⟨okm69, List.forall_mem_cons.mpr ⟨okm70, List.forall_mem_cons.mpr ⟨okm71, List.forall_mem_cons.mpr ⟨okm72, List.forall_mem_cons.mpr ⟨okm73, List.forall_mem_cons.mpr ⟨okm74, List.forall_mem_cons.mpr ⟨okm75, List.forall_mem_cons.mpr ⟨okm76, List.forall_mem_cons.mpr ⟨okm77, List.forall_mem_cons.mpr ⟨okm78, List.forall_mem_cons.mpr ⟨okm79, fun _ h => absurd h List.not_mem_nil⟩⟩⟩⟩⟩⟩⟩⟩⟩⟩⟩⟩⟩⟩⟩⟩⟩⟩⟩⟩
theorem KT4_ok : ∀ q ∈ KT4, q.2.all (okE q.1) = true := List.forall_mem_cons.mpr ⟨okm80, List.forall_mem_cons.mpr ⟨okm81, List.forall_mem_cons.mpr ⟨okm82, List.forall_mem_cons.mpr ⟨okm83, List.forall_mem_cons.mpr ⟨okm84, List.forall_mem_cons.mpr ⟨okm85, List.forall_mem_cons.mpr ⟨okm86, List.forall_mem_cons.mpr ⟨okm87, List.forall_mem_cons.mpr ⟨okm88, List.forall_mem_cons.mpr ⟨okm89, List.forall_mem_cons.mpr ⟨okm90, List.forall_mem_cons.mpr ⟨okm91, List.forall_mem_cons.mpr ⟨okm92, List.forall_mem_cons.mpr ⟨okm93, List.forall_mem_cons.mpr ⟨okm94, List.forall_mem_cons.mpr ⟨okm95, List.forall_mem_cons.mpr ⟨okm96, List.forall_mem_cons.mpr ⟨okm97, List.forall_mem_cons.mpr ⟨okm98, List.forall_mem_cons.mpr ⟨okm99, fun _ h => absurd h List.not_mem_nil⟩⟩⟩⟩⟩⟩⟩⟩⟩⟩⟩⟩⟩⟩⟩⟩⟩⟩⟩⟩
theorem KT5_ok : ∀ q ∈ KT5, q.2.all (okE q.1) = true := List.forall_mem_cons.mpr ⟨okm100, List.forall_mem_cons.mpr ⟨okm101, List.forall_mem_cons.mpr ⟨okm102, List.forall_mem_cons.mpr ⟨okm103, List.forall_mem_cons.mpr ⟨okm104, List.forall_mem_cons.mpr ⟨okm105, List.forall_mem_cons.mpr ⟨okm106, List.forall_mem_cons.mpr ⟨okm107, List.forall_mem_cons.mpr ⟨okm108, List.forall_mem_cons.mpr ⟨okm109, List.forall_mem_cons.mpr ⟨okm110, List.forall_mem_cons.mpr ⟨okm111, List.forall_mem_cons.mpr ⟨okm112, List.forall_mem_cons.mpr ⟨okm113, List.forall_mem_cons.mpr ⟨okm114, List.forall_mem_cons.mpr ⟨okm115, List.forall_mem_cons.mpr ⟨okm116, List.forall_mem_cons.mpr ⟨okm117, List.forall_mem_cons.mpr ⟨okm118, List.forall_mem_cons.mpr ⟨okm119, fun _ h => absurd h List.not_mem_nil⟩⟩⟩⟩⟩⟩⟩⟩⟩⟩⟩⟩⟩⟩⟩⟩⟩⟩⟩⟩
theorem KT6_ok : ∀ q ∈ KT6, q.2.all (okE q.1) = true := List.forall_mem_cons.mpr ⟨okm120, List.forall_mem_cons.mpr ⟨okm121, List.forall_mem_cons.mpr ⟨okm122, List.forall_mem_cons.mpr ⟨okm123, List.forall_mem_cons.mpr ⟨okm124, List.forall_mem_cons.mpr ⟨okm125, List.forall_mem_cons.mpr ⟨okm126, List.forall_mem_cons.mpr ⟨okm127, List.forall_mem_cons.mpr ⟨okm128, List.forall_mem_cons.mpr ⟨okm129, List.forall_mem_cons.mpr ⟨okm130, List.forall_mem_cons.mpr ⟨okm131, List.forall_mem_cons.mpr ⟨okm132, List.forall_mem_cons.mpr ⟨okm133, List.forall_mem_cons.mpr ⟨okm134, List.forall_mem_cons.mpr ⟨okm135, List.forall_mem_cons.mpr ⟨okm136, List.forall_mem_cons.mpr ⟨okm137, List.forall_mem_cons.mpr ⟨okm138, List.forall_mem_cons.mpr ⟨okm139, fun _ h => absurd h List.not_mem_nil⟩⟩⟩⟩⟩⟩⟩⟩⟩⟩⟩⟩⟩⟩⟩⟩⟩⟩⟩⟩
theorem KT7_ok : ∀ q ∈ KT7, q.2.all (okE q.1) = true := List.forall_mem_cons.mpr ⟨okm140, List.forall_mem_cons.mpr ⟨okm141, List.forall_mem_cons.mpr ⟨okm142, List.forall_mem_cons.mpr ⟨okm143, List.forall_mem_cons.mpr ⟨okm144, List.forall_mem_cons.mpr ⟨okm145, List.forall_mem_cons.mpr ⟨okm146, List.forall_mem_cons.mpr ⟨okm147, List.forall_mem_cons.mpr ⟨okm148, List.forall_mem_cons.mpr ⟨okm149, List.forall_mem_cons.mpr ⟨okm150, List.forall_mem_cons.mpr ⟨okm151, List.forall_mem_cons.mpr ⟨okm152, List.forall_mem_cons.mpr ⟨okm153, List.forall_mem_cons.mpr ⟨okm154, List.forall_mem_cons.mpr ⟨okm155, List.forall_mem_cons.mpr ⟨okm156, List.forall_mem_cons.mpr ⟨okm157, List.forall_mem_cons.mpr ⟨okm158, List.forall_mem_cons.mpr ⟨okm159, fun _ h => absurd h List.not_mem_nil⟩⟩⟩⟩⟩⟩⟩⟩⟩⟩⟩⟩⟩⟩⟩⟩⟩⟩⟩⟩
theorem KT8_ok : ∀ q ∈ KT8, q.2.all (okE q.1) = true := List.forall_mem_cons.mpr ⟨okm160, List.forall_mem_cons.mpr ⟨okm161, List.forall_mem_cons.mpr ⟨okm162, List.forall_mem_cons.mpr ⟨okm163, List.forall_mem_cons.mpr ⟨okm164, List.forall_mem_cons.mpr ⟨okm165, List.forall_mem_cons.mpr ⟨okm166, List.forall_mem_cons.mpr ⟨okm167, List.forall_mem_cons.mpr ⟨okm168, List.forall_mem_cons.mpr ⟨okm169, List.forall_mem_cons.mpr ⟨okm170, List.forall_mem_cons.mpr ⟨okm171, List.forall_mem_cons.mpr ⟨okm172, List.forall_mem_cons.mpr ⟨okm173, List.forall_mem_cons.mpr ⟨okm174, List.forall_mem_cons.mpr ⟨okm175, List.forall_mem_cons.mpr ⟨okm176, List.forall_mem_cons.mpr ⟨okm177, List.forall_mem_cons.mpr ⟨okm178, List.forall_mem_cons.mpr ⟨okm179, fun _ h => absurd h List.not_mem_nil⟩⟩⟩⟩⟩⟩⟩⟩⟩⟩⟩⟩⟩⟩⟩⟩⟩⟩⟩⟩
theorem KT9_ok : ∀ q ∈ KT9, q.2.all (okE q.1) = true := List.forall_mem_cons.mpr ⟨okm180, List.forall_mem_cons.mpr ⟨okm181, List.forall_mem_cons.mpr ⟨okm182, List.forall_mem_cons.mpr ⟨okm183, List.forall_mem_cons.mpr ⟨okm184, List.forall_mem_cons.mpr ⟨okm185, List.forall_mem_cons.mpr ⟨okm186, List.forall_mem_cons.mpr ⟨okm187, List.forall_mem_cons.mpr ⟨okm188, List.forall_mem_cons.mpr ⟨okm189, List.forall_mem_cons.mpr ⟨okm190, List.forall_mem_cons.mpr ⟨okm191, List.forall_mem_cons.mpr ⟨okm192, List.forall_mem_cons.mpr ⟨okm193, List.forall_mem_cons.mpr ⟨okm194, List.forall_mem_cons.mpr ⟨okm195, List.forall_mem_cons.mpr ⟨okm196, List.forall_mem_cons.mpr ⟨okm197, List.forall_mem_cons.mpr ⟨okm198, List.forall_mem_cons.mpr ⟨okm199, fun _ h => absurd h List.not_mem_nil⟩⟩⟩⟩⟩⟩⟩⟩⟩⟩⟩⟩⟩⟩⟩⟩⟩⟩⟩⟩
theorem KT10_ok : ∀ q ∈ KT10, q.2.all (okE q.1) = true := List.forall_mem_cons.mpr ⟨okm200, List.forall_mem_cons.mpr ⟨okm201, List.forall_mem_cons.mpr ⟨okm202, List.forall_mem_cons.mpr ⟨okm203, List.forall_mem_cons.mpr ⟨okm204, List.forall_mem_cons.mpr ⟨okm205, List.forall_mem_cons.mpr ⟨okm206, List.forall_mem_cons.mpr ⟨okm207, List.forall_mem_cons.mpr ⟨okm208, List.forall_mem_cons.mpr ⟨okm209, List.forall_mem_cons.mpr ⟨okm210, List.forall_mem_cons.mpr ⟨okm211, List.forall_mem_cons.mpr ⟨okm212, List.forall_mem_cons.mpr ⟨okm213, List.forall_mem_cons.mpr ⟨okm214, List.forall_mem_cons.mpr ⟨okm215, List.forall_mem_cons.mpr ⟨okm216, List.forall_mem_cons.mpr ⟨okm217, List.forall_mem_cons.mpr ⟨okm218, List.forall_mem_cons.mpr ⟨okm219, fun _ h => absurd h List.not_mem_nil⟩⟩⟩⟩⟩⟩⟩⟩⟩⟩⟩⟩⟩⟩⟩⟩⟩⟩⟩⟩
theorem KT11_ok : ∀ q ∈ KT11, q.2.all (okE q.1) = true := List.forall_mem_cons.mpr ⟨okm220, List.forall_mem_cons.mpr ⟨okm221, List.forall_mem_cons.mpr ⟨okm222, List.forall_mem_cons.mpr ⟨okm223, List.forall_mem_cons.mpr ⟨okm224, List.forall_mem_cons.mpr ⟨okm225, List.forall_mem_cons.mpr ⟨okm226, List.forall_mem_cons.mpr ⟨okm227, List.forall_mem_cons.mpr ⟨okm228, List.forall_mem_cons.mpr ⟨okm229, List.forall_mem_cons.mpr ⟨okm230, List.forall_mem_cons.mpr ⟨okm231, List.forall_mem_cons.mpr ⟨okm232, List.forall_mem_cons.mpr ⟨okm233, List.forall_mem_cons.mpr ⟨okm234, List.forall_mem_cons.mpr ⟨okm235, List.forall_mem_cons.mpr ⟨okm236, List.forall_mem_cons.mpr ⟨okm237, List.forall_mem_cons.mpr ⟨okm238, List.forall_mem_cons.mpr ⟨okm239, fun _ h => absurd h List.not_mem_nil⟩⟩⟩⟩⟩⟩⟩⟩⟩⟩⟩⟩⟩⟩⟩⟩⟩⟩⟩⟩
theorem KT12_ok : ∀ q ∈ KT12, q.2.all (okE q.1) = true := List.forall_mem_cons.mpr ⟨okm240, List.forall_mem_cons.mpr ⟨okm241, List.forall_mem_cons.mpr ⟨okm242, List.forall_mem_cons.mpr ⟨okm243, List.forall_mem_cons.mpr ⟨okm244, List.forall_mem_cons.mpr ⟨okm245, List.forall_mem_cons.mpr ⟨okm246, List.forall_mem_cons.mpr ⟨okm247, List.forall_mem_cons.mpr ⟨okm248, List.forall_mem_cons.mpr ⟨okm249, List.forall_mem_cons.mpr ⟨okm250, List.forall_mem_cons.mpr ⟨okm251, List.forall_mem_cons.mpr ⟨okm252, List.forall_mem_cons.mpr ⟨okm253, List.forall_mem_cons.mpr ⟨okm254, List.forall_mem_cons.mpr ⟨okm255, List.forall_mem_cons.mpr ⟨okm256, List.forall_mem_cons.mpr ⟨okm257, List.forall_mem_cons.mpr ⟨okm258, List.forall_mem_cons.mpr ⟨okm259, fun _ h => absurd h List.not_mem_nil⟩⟩⟩⟩⟩⟩⟩⟩⟩⟩⟩⟩⟩⟩⟩⟩⟩⟩⟩⟩
theorem KT13_ok : ∀ q ∈ KT13, q.2.all (okE q.1) = true := List.forall_mem_cons.mpr ⟨okm260, List.forall_mem_cons.mpr ⟨okm261, List.forall_mem_cons.mpr ⟨okm262, List.forall_mem_cons.mpr ⟨okm263, List.forall_mem_cons.mpr ⟨okm264, List.forall_mem_cons.mpr ⟨okm265, List.forall_mem_cons.mpr ⟨okm266, List.forall_mem_cons.mpr ⟨okm267, List.forall_mem_cons.mpr ⟨okm268, List.forall_mem_cons.mpr ⟨okm269, List.forall_mem_cons.mpr ⟨okm270, List.forall_mem_cons.mpr ⟨okm271, List.forall_mem_cons.mpr ⟨okm272, List.forall_mem_cons.mpr ⟨okm273, List.forall_mem_cons.mpr ⟨okm274, List.forall_mem_cons.mpr ⟨okm275, List.forall_mem_cons.mpr ⟨okm276, List.forall_mem_cons.mpr ⟨okm277, List.forall_mem_cons.mpr ⟨okm278, List.forall_mem_cons.mpr ⟨okm279, fun _ h => absurd h List.not_mem_nil⟩⟩⟩⟩⟩⟩⟩⟩⟩⟩⟩⟩⟩⟩⟩⟩⟩⟩⟩⟩
theorem KT14_ok : ∀ q ∈ KT14, q.2.all (okE q.1) = true := List.forall_mem_cons.mpr ⟨okm280, List.forall_mem_cons.mpr ⟨okm281, List.forall_mem_cons.mpr ⟨okm282, List.forall_mem_cons.mpr ⟨okm283, List.forall_mem_cons.mpr ⟨okm284, List.forall_mem_cons.mpr ⟨okm285, List.forall_mem_cons.mpr ⟨okm286, List.forall_mem_cons.mpr ⟨okm287, List.forall_mem_cons.mpr ⟨okm288, List.forall_mem_cons.mpr ⟨okm289, List.forall_mem_cons.mpr ⟨okm290, List.forall_mem_cons.mpr ⟨okm291, List.forall_mem_cons.mpr ⟨okm292, List.forall_mem_cons.mpr ⟨okm293, List.forall_mem_cons.mpr ⟨okm294, List.forall_mem_cons.mpr ⟨okm295, List.forall_mem_cons.mpr ⟨okm296, List.forall_mem_cons.mpr ⟨okm297, List.forall_mem_cons.mpr ⟨okm298, List.forall_mem_cons.mpr ⟨okm299, fun _ h => absurd h List.not_mem_nil⟩⟩⟩⟩⟩⟩⟩⟩⟩⟩⟩⟩⟩⟩⟩⟩⟩⟩⟩⟩
theorem KT15_ok : ∀ q ∈ KT15, q.2.all (okE q.1) = true := List.forall_mem_cons.mpr ⟨okm300, List.forall_mem_cons.mpr ⟨okm301, List.forall_mem_cons.mpr ⟨okm302, List.forall_mem_cons.mpr ⟨okm303, List.forall_mem_cons.mpr ⟨okm304, List.forall_mem_cons.mpr ⟨okm305, List.forall_mem_cons.mpr ⟨okm306, List.forall_mem_cons.mpr ⟨okm307, List.forall_mem_cons.mpr ⟨okm308, List.forall_mem_cons.mpr ⟨okm309, List.forall_mem_cons.mpr ⟨okm310, fun _ h => absurd h List.not_mem_nil⟩⟩⟩⟩⟩⟩⟩⟩⟩⟩⟩
theorem KT_ok : ∀ q ∈ KT, q.2.all (okE q.1) = true := by
  intro q hq
  unfold KT at hq
  simp only [List.mem_append] at hq
  rcases hq with h | h | h | h | h | h | h | h | h | h | h | h | h | h | h | h
  · exact KT0_ok q h
  · exact KT1_ok q h
  · exact KT2_ok q h
  · exact KT3_ok q h
  · exact KT4_ok q h
  · exact KT5_ok q h
  · exact KT6_ok q h
  · exact KT7_ok q h
  · exact KT8_ok q h
  · exact KT9_ok q h
  · exact KT10_ok q h
  · exact KT11_ok q h
  · exact KT12_ok q h
  · exact KT13_ok q h
  · exact KT14_ok q h
  · exact KT15_ok q h
theorem KM_ok {m pc : Nat} {e : EN} (h : KM m pc = some e) : okE m (pc, e) = true := by
  unfold KM at h
  cases hq : KT.find? (fun q => q.1 == m) with
  | none => rw [hq] at h; cases h
  | some q =>
    rw [hq] at h
    simp only [Option.bind_some] at h
    have h1 := KT_ok q (List.mem_of_find?_eq_some hq)
    have h2 : q.1 = m := by
      have := List.find?_some hq
      simpa using this
    cases hr : q.2.find? (fun e => e.1 == pc) with
    | none => rw [hr] at h; cases h
    | some x =>
      rw [hr] at h
      cases h
      have h3 := List.all_eq_true.mp h1 x (List.mem_of_find?_eq_some hr)
      have h4 : x.1 = pc := by
        have := List.find?_some hr
        simpa using this
      rw [← h2, ← h4]
      exact h3
