theorem pz_ok0 : pz_chk 0 = true := pz_ok0_0
theorem pz_ok1 : pz_chk 1 = true := pz_ok1_0
theorem pz_ok2 : pz_chk 2 = true := pz_ok2_0
theorem pz_ok3 : pz_chk 3 = true := pz_ok3_0
theorem pz_ok4 : pz_chk 4 = true := pz_ok4_0
theorem pz_ok5 : pz_chk 5 = true := pz_ok5_0
theorem pz_ok6 : pz_chk 6 = true := (Eq.trans List.all_append (Bool.and_eq_true_iff.mpr ⟨pz_ok6_0, pz_ok6_1⟩))
theorem pz_ok7 : pz_chk 7 = true := (Eq.trans List.all_append (Bool.and_eq_true_iff.mpr ⟨pz_ok7_0, pz_ok7_1⟩))
theorem pz_ok8 : pz_chk 8 = true := pz_ok8_0
theorem pz_ok9 : pz_chk 9 = true := pz_ok9_0
theorem pz_ok10 : pz_chk 10 = true := (Eq.trans List.all_append (Bool.and_eq_true_iff.mpr ⟨pz_ok10_0, pz_ok10_1⟩))
theorem pz_ok11 : pz_chk 11 = true := (Eq.trans List.all_append (Bool.and_eq_true_iff.mpr ⟨pz_ok11_0, pz_ok11_1⟩))
theorem pz_ok12 : pz_chk 12 = true := pz_ok12_0
theorem pz_ok13 : pz_chk 13 = true := (Eq.trans List.all_append (Bool.and_eq_true_iff.mpr ⟨pz_ok13_0, pz_ok13_1⟩))
theorem pz_ok14 : pz_chk 14 = true := pz_ok14_0
theorem pz_ok15 : pz_chk 15 = true := pz_ok15_0
theorem pz_ok16 : pz_chk 16 = true := pz_ok16_0
theorem pz_ok17 : pz_chk 17 = true := (Eq.trans List.all_append (Bool.and_eq_true_iff.mpr ⟨pz_ok17_0, pz_ok17_1⟩))
theorem pz_ok18 : pz_chk 18 = true := pz_ok18_0
theorem pz_ok19 : pz_chk 19 = true := (Eq.trans List.all_append (Bool.and_eq_true_iff.mpr ⟨pz_ok19_0, (Eq.trans List.all_append (Bool.and_eq_true_iff.mpr ⟨pz_ok19_1, pz_ok19_2⟩))⟩))
theorem pz_ok20 : pz_chk 20 = true := (Eq.trans List.all_append (Bool.and_eq_true_iff.mpr ⟨pz_ok20_0, pz_ok20_1⟩))
theorem pz_ok21 : pz_chk 21 = true := (Eq.trans List.all_append (Bool.and_eq_true_iff.mpr ⟨pz_ok21_0, (Eq.trans List.all_append (Bool.and_eq_true_iff.mpr ⟨pz_ok21_1, (Eq.trans List.all_append (Bool.and_eq_true_iff.mpr ⟨pz_ok21_2, pz_ok21_3⟩))⟩))⟩))
theorem pz_ok22 : pz_chk 22 = true := (Eq.trans List.all_append (Bool.and_eq_true_iff.mpr ⟨pz_ok22_0, pz_ok22_1⟩))
theorem pz_ok23 : pz_chk 23 = true := (Eq.trans List.all_append (Bool.and_eq_true_iff.mpr ⟨pz_ok23_0, (Eq.trans List.all_append (Bool.and_eq_true_iff.mpr ⟨pz_ok23_1, (Eq.trans List.all_append (Bool.and_eq_true_iff.mpr ⟨pz_ok23_2, pz_ok23_3⟩))⟩))⟩))
theorem pz_ok24 : pz_chk 24 = true := pz_ok24_0
theorem pz_ok25 : pz_chk 25 = true := (Eq.trans List.all_append (Bool.and_eq_true_iff.mpr ⟨pz_ok25_0, (Eq.trans List.all_append (Bool.and_eq_true_iff.mpr ⟨pz_ok25_1, pz_ok25_2⟩))⟩))
theorem pz_ok26 : pz_chk 26 = true := (Eq.trans List.all_append (Bool.and_eq_true_iff.mpr ⟨pz_ok26_0, pz_ok26_1⟩))
theorem pz_ok27 : pz_chk 27 = true := (Eq.trans List.all_append (Bool.and_eq_true_iff.mpr ⟨pz_ok27_0, pz_ok27_1⟩))
theorem pz_ok28 : pz_chk 28 = true := pz_ok28_0
theorem pz_ok29 : pz_chk 29 = true := pz_ok29_0
theorem pz_ok30 : pz_chk 30 = true := (Eq.trans List.all_append (Bool.and_eq_true_iff.mpr ⟨pz_ok30_0, pz_ok30_1⟩))
theorem pz_ok31 : pz_chk 31 = true := pz_ok31_0
theorem pz_ok32 : pz_chk 32 = true := (Eq.trans List.all_append (Bool.and_eq_true_iff.mpr ⟨pz_ok32_0, pz_ok32_1⟩))
theorem pz_ok33 : pz_chk 33 = true := (Eq.trans List.all_append (Bool.and_eq_true_iff.mpr ⟨pz_ok33_0, pz_ok33_1⟩))
theorem pz_ok34 : pz_chk 34 = true := (Eq.trans List.all_append (Bool.and_eq_true_iff.mpr ⟨pz_ok34_0, (Eq.trans List.all_append (Bool.and_eq_true_iff.mpr ⟨pz_ok34_1, pz_ok34_2⟩))⟩))
theorem pz_ok35 : pz_chk 35 = true := (Eq.trans List.all_append (Bool.and_eq_true_iff.mpr ⟨pz_ok35_0, pz_ok35_1⟩))
theorem pz_ok36 : pz_chk 36 = true := (Eq.trans List.all_append (Bool.and_eq_true_iff.mpr ⟨pz_ok36_0, pz_ok36_1⟩))
theorem pz_ok37 : pz_chk 37 = true := (Eq.trans List.all_append (Bool.and_eq_true_iff.mpr ⟨pz_ok37_0, (Eq.trans List.all_append (Bool.and_eq_true_iff.mpr ⟨pz_ok37_1, pz_ok37_2⟩))⟩))
theorem pz_ok38 : pz_chk 38 = true := (Eq.trans List.all_append (Bool.and_eq_true_iff.mpr ⟨pz_ok38_0, pz_ok38_1⟩))
theorem pz_ok39 : pz_chk 39 = true := pz_ok39_0
theorem pz_ok40 : pz_chk 40 = true := pz_ok40_0
theorem pz_ok41 : pz_chk 41 = true := pz_ok41_0
theorem pz_ok42 : pz_chk 42 = true := (Eq.trans List.all_append (Bool.and_eq_true_iff.mpr ⟨pz_ok42_0, (Eq.trans List.all_append (Bool.and_eq_true_iff.mpr ⟨pz_ok42_1, (Eq.trans List.all_append (Bool.and_eq_true_iff.mpr ⟨pz_ok42_2, pz_ok42_3⟩))⟩))⟩))
theorem pz_ok43 : pz_chk 43 = true := (Eq.trans List.all_append (Bool.and_eq_true_iff.mpr ⟨pz_ok43_0, (Eq.trans List.all_append (Bool.and_eq_true_iff.mpr ⟨pz_ok43_1, pz_ok43_2⟩))⟩))
theorem pz_ok44 : pz_chk 44 = true := (Eq.trans List.all_append (Bool.and_eq_true_iff.mpr ⟨pz_ok44_0, (Eq.trans List.all_append (Bool.and_eq_true_iff.mpr ⟨pz_ok44_1, pz_ok44_2⟩))⟩))
theorem pz_ok45 : pz_chk 45 = true := (Eq.trans List.all_append (Bool.and_eq_true_iff.mpr ⟨pz_ok45_0, (Eq.trans List.all_append (Bool.and_eq_true_iff.mpr ⟨pz_ok45_1, pz_ok45_2⟩))⟩))
theorem pz_ok46 : pz_chk 46 = true := (Eq.trans List.all_append (Bool.and_eq_true_iff.mpr ⟨pz_ok46_0, (Eq.trans List.all_append (Bool.and_eq_true_iff.mpr ⟨pz_ok46_1, pz_ok46_2⟩))⟩))
theorem pz_ok47 : pz_chk 47 = true := (Eq.trans List.all_append (Bool.and_eq_true_iff.mpr ⟨pz_ok47_0, (Eq.trans List.all_append (Bool.and_eq_true_iff.mpr ⟨pz_ok47_1, pz_ok47_2⟩))⟩))
theorem pz_ok48 : pz_chk 48 = true := (Eq.trans List.all_append (Bool.and_eq_true_iff.mpr ⟨pz_ok48_0, pz_ok48_1⟩))
theorem pz_ok49 : pz_chk 49 = true := (Eq.trans List.all_append (Bool.and_eq_true_iff.mpr ⟨pz_ok49_0, (Eq.trans List.all_append (Bool.and_eq_true_iff.mpr ⟨pz_ok49_1, pz_ok49_2⟩))⟩))
theorem pz_ok50 : pz_chk 50 = true := pz_ok50_0
theorem pz_ok51 : pz_chk 51 = true := (Eq.trans List.all_append (Bool.and_eq_true_iff.mpr ⟨pz_ok51_0, (Eq.trans List.all_append (Bool.and_eq_true_iff.mpr ⟨pz_ok51_1, pz_ok51_2⟩))⟩))
theorem pz_ok52 : pz_chk 52 = true := (Eq.trans List.all_append (Bool.and_eq_true_iff.mpr ⟨pz_ok52_0, (Eq.trans List.all_append (Bool.and_eq_true_iff.mpr ⟨pz_ok52_1, pz_ok52_2⟩))⟩))
theorem pz_ok53 : pz_chk 53 = true := (Eq.trans List.all_append (Bool.and_eq_true_iff.mpr ⟨pz_ok53_0, pz_ok53_1⟩))
theorem pz_ok54 : pz_chk 54 = true := (Eq.trans List.all_append (Bool.and_eq_true_iff.mpr ⟨pz_ok54_0, pz_ok54_1⟩))
theorem pz_ok55 : pz_chk 55 = true := pz_ok55_0
theorem pz_ok56 : pz_chk 56 = true := pz_ok56_0
theorem pz_ok57 : pz_chk 57 = true := pz_ok57_0
theorem pz_ok58 : pz_chk 58 = true := pz_ok58_0
theorem pz_ok59 : pz_chk 59 = true := (Eq.trans List.all_append (Bool.and_eq_true_iff.mpr ⟨pz_ok59_0, pz_ok59_1⟩))
theorem pz_ok60 : pz_chk 60 = true := pz_ok60_0
theorem pz_ok61 : pz_chk 61 = true := pz_ok61_0
theorem pz_ok62 : pz_chk 62 = true := pz_ok62_0
theorem pz_ok63 : pz_chk 63 = true := pz_ok63_0
theorem pz_ok64 : pz_chk 64 = true := (Eq.trans List.all_append (Bool.and_eq_true_iff.mpr ⟨pz_ok64_0, pz_ok64_1⟩))
theorem pz_ok65 : pz_chk 65 = true := (Eq.trans List.all_append (Bool.and_eq_true_iff.mpr ⟨pz_ok65_0, pz_ok65_1⟩))
theorem pz_ok66 : pz_chk 66 = true := (Eq.trans List.all_append (Bool.and_eq_true_iff.mpr ⟨pz_ok66_0, pz_ok66_1⟩))
theorem pz_ok67 : pz_chk 67 = true := (Eq.trans List.all_append (Bool.and_eq_true_iff.mpr ⟨pz_ok67_0, (Eq.trans List.all_append (Bool.and_eq_true_iff.mpr ⟨pz_ok67_1, pz_ok67_2⟩))⟩))
theorem pz_ok68 : pz_chk 68 = true := pz_ok68_0
theorem pz_ok69 : pz_chk 69 = true := pz_ok69_0
theorem pz_ok70 : pz_chk 70 = true := (Eq.trans List.all_append (Bool.and_eq_true_iff.mpr ⟨pz_ok70_0, pz_ok70_1⟩))
theorem pz_ok71 : pz_chk 71 = true := pz_ok71_0
theorem pz_ok72 : pz_chk 72 = true := pz_ok72_0
theorem pz_ok73 : pz_chk 73 = true := pz_ok73_0
theorem pz_ok74 : pz_chk 74 = true := pz_ok74_0
theorem pz_ok75 : pz_chk 75 = true := pz_ok75_0
theorem pz_ok76 : pz_chk 76 = true := pz_ok76_0
theorem pz_ok77 : pz_chk 77 = true := pz_ok77_0
theorem pz_ok78 : pz_chk 78 = true := pz_ok78_0
theorem pz_ok79 : pz_chk 79 = true := pz_ok79_0
theorem pz_ok80 : pz_chk 80 = true := (Eq.trans List.all_append (Bool.and_eq_true_iff.mpr ⟨pz_ok80_0, pz_ok80_1⟩))
theorem pz_ok81 : pz_chk 81 = true := pz_ok81_0
theorem pz_ok82 : pz_chk 82 = true := pz_ok82_0
theorem pz_ok83 : pz_chk 83 = true := pz_ok83_0
theorem pz_ok84 : pz_chk 84 = true := pz_ok84_0
theorem pz_ok85 : pz_chk 85 = true := pz_ok85_0
theorem pz_ok86 : pz_chk 86 = true := pz_ok86_0
theorem pz_ok87 : pz_chk 87 = true := (Eq.trans List.all_append (Bool.and_eq_true_iff.mpr ⟨pz_ok87_0, pz_ok87_1⟩))
theorem pz_ok88 : pz_chk 88 = true := pz_ok88_0
theorem pz_ok89 : pz_chk 89 = true := pz_ok89_0
theorem pz_ok90 : pz_chk 90 = true := pz_ok90_0
theorem pz_ok91 : pz_chk 91 = true := pz_ok91_0
theorem pz_ok92 : pz_chk 92 = true := pz_ok92_0
theorem pz_ok93 : pz_chk 93 = true := pz_ok93_0
theorem pz_ok94 : pz_chk 94 = true := pz_ok94_0
theorem pz_ok95 : pz_chk 95 = true := (Eq.trans List.all_append (Bool.and_eq_true_iff.mpr ⟨pz_ok95_0, pz_ok95_1⟩))
theorem pz_ok96 : pz_chk 96 = true := pz_ok96_0
theorem pz_ok97 : pz_chk 97 = true := pz_ok97_0
theorem pz_ok98 : pz_chk 98 = true := pz_ok98_0
theorem pz_ok99 : pz_chk 99 = true := pz_ok99_0
theorem pz_ok100 : pz_chk 100 = true := pz_ok100_0
theorem pz_ok101 : pz_chk 101 = true := pz_ok101_0
theorem pz_ok102 : pz_chk 102 = true := (Eq.trans List.all_append (Bool.and_eq_true_iff.mpr ⟨pz_ok102_0, pz_ok102_1⟩))
theorem pz_ok103 : pz_chk 103 = true := pz_ok103_0
theorem pz_ok104 : pz_chk 104 = true := pz_ok104_0
theorem pz_ok105 : pz_chk 105 = true := (Eq.trans List.all_append (Bool.and_eq_true_iff.mpr ⟨pz_ok105_0, (Eq.trans List.all_append (Bool.and_eq_true_iff.mpr ⟨pz_ok105_1, pz_ok105_2⟩))⟩))
theorem pz_ok106 : pz_chk 106 = true := pz_ok106_0
theorem pz_ok107 : pz_chk 107 = true := pz_ok107_0
theorem pz_ok108 : pz_chk 108 = true := pz_ok108_0
theorem pz_ok109 : pz_chk 109 = true := pz_ok109_0
theorem pz_ok110 : pz_chk 110 = true := (Eq.trans List.all_append (Bool.and_eq_true_iff.mpr ⟨pz_ok110_0, pz_ok110_1⟩))
theorem pz_ok111 : pz_chk 111 = true := pz_ok111_0
theorem pz_ok112 : pz_chk 112 = true := (Eq.trans List.all_append (Bool.and_eq_true_iff.mpr ⟨pz_ok112_0, pz_ok112_1⟩))
theorem pz_ok113 : pz_chk 113 = true := pz_ok113_0
theorem pz_ok114 : pz_chk 114 = true := (Eq.trans List.all_append (Bool.and_eq_true_iff.mpr ⟨pz_ok114_0, pz_ok114_1⟩))
theorem pz_ok115 : pz_chk 115 = true := pz_ok115_0
theorem pz_ok116 : pz_chk 116 = true := pz_ok116_0
theorem pz_ok117 : pz_chk 117 = true := pz_ok117_0
theorem pz_ok118 : pz_chk 118 = true := (Eq.trans List.all_append (Bool.and_eq_true_iff.mpr ⟨pz_ok118_0, (Eq.trans List.all_append (Bool.and_eq_true_iff.mpr ⟨pz_ok118_1, (Eq.trans List.all_append (Bool.and_eq_true_iff.mpr ⟨pz_ok118_2, (Eq.trans List.all_append (Bool.and_eq_true_iff.mpr ⟨pz_ok118_3, (Eq.trans List.all_append (Bool.and_eq_true_iff.mpr ⟨pz_ok118_4, (Eq.trans List.all_append (Bool.and_eq_true_iff.mpr ⟨pz_ok118_5, pz_ok118_6⟩))⟩))⟩))⟩))⟩))⟩))
theorem pz_ok119 : pz_chk 119 = true := (Eq.trans List.all_append (Bool.and_eq_true_iff.mpr ⟨pz_ok119_0, (Eq.trans List.all_append (Bool.and_eq_true_iff.mpr ⟨pz_ok119_1, pz_ok119_2⟩))⟩))
theorem pz_ok120 : pz_chk 120 = true := (Eq.trans List.all_append (Bool.and_eq_true_iff.mpr ⟨pz_ok120_0, (Eq.trans List.all_append (Bool.and_eq_true_iff.mpr ⟨pz_ok120_1, pz_ok120_2⟩))⟩))
theorem pz_ok121 : pz_chk 121 = true := (Eq.trans List.all_append (Bool.and_eq_true_iff.mpr ⟨pz_ok121_0, pz_ok121_1⟩))
theorem pz_ok122 : pz_chk 122 = true := pz_ok122_0
theorem pz_ok123 : pz_chk 123 = true := (Eq.trans List.all_append (Bool.and_eq_true_iff.mpr ⟨pz_ok123_0, pz_ok123_1⟩))
theorem pz_ok124 : pz_chk 124 = true := (Eq.trans List.all_append (Bool.and_eq_true_iff.mpr ⟨pz_ok124_0, pz_ok124_1⟩))
theorem pz_ok125 : pz_chk 125 = true := pz_ok125_0
theorem pz_ok126 : pz_chk 126 = true := (Eq.trans List.all_append (Bool.and_eq_true_iff.mpr ⟨pz_ok126_0, pz_ok126_1⟩))
theorem pz_ok127 : pz_chk 127 = true := pz_ok127_0
theorem pz_ok128 : pz_chk 128 = true := pz_ok128_0
theorem pz_ok129 : pz_chk 129 = true := pz_ok129_0
theorem pz_ok130 : pz_chk 130 = true := pz_ok130_0
theorem pz_ok131 : pz_chk 131 = true := pz_ok131_0
theorem pz_ok132 : pz_chk 132 = true := (Eq.trans List.all_append (Bool.and_eq_true_iff.mpr ⟨pz_ok132_0, pz_ok132_1⟩))
theorem pz_ok133 : pz_chk 133 = true := (Eq.trans List.all_append (Bool.and_eq_true_iff.mpr ⟨pz_ok133_0, pz_ok133_1⟩))
theorem pz_ok134 : pz_chk 134 = true := pz_ok134_0
theorem pz_ok135 : pz_chk 135 = true := (Eq.trans List.all_append (Bool.and_eq_true_iff.mpr ⟨pz_ok135_0, pz_ok135_1⟩))
theorem pz_ok136 : pz_chk 136 = true := pz_ok136_0
theorem pz_ok137 : pz_chk 137 = true := pz_ok137_0
theorem pz_ok138 : pz_chk 138 = true := pz_ok138_0
theorem pz_ok139 : pz_chk 139 = true := (Eq.trans List.all_append (Bool.and_eq_true_iff.mpr ⟨pz_ok139_0, (Eq.trans List.all_append (Bool.and_eq_true_iff.mpr ⟨pz_ok139_1, pz_ok139_2⟩))⟩))
theorem pz_ok140 : pz_chk 140 = true := (Eq.trans List.all_append (Bool.and_eq_true_iff.mpr ⟨pz_ok140_0, (Eq.trans List.all_append (Bool.and_eq_true_iff.mpr ⟨pz_ok140_1, (Eq.trans List.all_append (Bool.and_eq_true_iff.mpr ⟨pz_ok140_2, (Eq.trans List.all_append (Bool.and_eq_true_iff.mpr ⟨pz_ok140_3, (Eq.trans List.all_append (Bool.and_eq_true_iff.mpr ⟨pz_ok140_4, (Eq.trans List.all_append (Bool.and_eq_true_iff.mpr ⟨pz_ok140_5, (Eq.trans List.all_append (Bool.and_eq_true_iff.mpr ⟨pz_ok140_6, (Eq.trans List.all_append (Bool.and_eq_true_iff.mpr ⟨pz_ok140_7, pz_ok140_8⟩))⟩))⟩))⟩))⟩))⟩))⟩))⟩))
theorem pz_ok141 : pz_chk 141 = true := (Eq.trans List.all_append (Bool.and_eq_true_iff.mpr ⟨pz_ok141_0, pz_ok141_1⟩))
theorem pz_ok142 : pz_chk 142 = true := (Eq.trans List.all_append (Bool.and_eq_true_iff.mpr ⟨pz_ok142_0, (Eq.trans List.all_append (Bool.and_eq_true_iff.mpr ⟨pz_ok142_1, (Eq.trans List.all_append (Bool.and_eq_true_iff.mpr ⟨pz_ok142_2, (Eq.trans List.all_append (Bool.and_eq_true_iff.mpr ⟨pz_ok142_3, pz_ok142_4⟩))⟩))⟩))⟩))
theorem pz_ok143 : pz_chk 143 = true := pz_ok143_0
theorem pz_ok144 : pz_chk 144 = true := pz_ok144_0
theorem pz_ok145 : pz_chk 145 = true := pz_ok145_0
theorem pz_ok146 : pz_chk 146 = true := (Eq.trans List.all_append (Bool.and_eq_true_iff.mpr ⟨pz_ok146_0, (Eq.trans List.all_append (Bool.and_eq_true_iff.mpr ⟨pz_ok146_1, pz_ok146_2⟩))⟩))
theorem pz_ok147 : pz_chk 147 = true := pz_ok147_0
theorem pz_ok148 : pz_chk 148 = true := pz_ok148_0
theorem pz_ok149 : pz_chk 149 = true := (Eq.trans List.all_append (Bool.and_eq_true_iff.mpr ⟨pz_ok149_0, pz_ok149_1⟩))
theorem pz_ok150 : pz_chk 150 = true := (Eq.trans List.all_append (Bool.and_eq_true_iff.mpr ⟨pz_ok150_0, pz_ok150_1⟩))
theorem pz_ok151 : pz_chk 151 = true := (Eq.trans List.all_append (Bool.and_eq_true_iff.mpr ⟨pz_ok151_0, (Eq.trans List.all_append (Bool.and_eq_true_iff.mpr ⟨pz_ok151_1, pz_ok151_2⟩))⟩))
theorem pz_ok152 : pz_chk 152 = true := (Eq.trans List.all_append (Bool.and_eq_true_iff.mpr ⟨pz_ok152_0, pz_ok152_1⟩))
theorem pz_ok153 : pz_chk 153 = true := pz_ok153_0
theorem pz_ok154 : pz_chk 154 = true := pz_ok154_0
theorem pz_ok155 : pz_chk 155 = true := pz_ok155_0
theorem pz_ok156 : pz_chk 156 = true := (Eq.trans List.all_append (Bool.and_eq_true_iff.mpr ⟨pz_ok156_0, pz_ok156_1⟩))
theorem pz_ok157 : pz_chk 157 = true := (Eq.trans List.all_append (Bool.and_eq_true_iff.mpr ⟨pz_ok157_0, (Eq.trans List.all_append (Bool.and_eq_true_iff.mpr ⟨pz_ok157_1, pz_ok157_2⟩))⟩))
theorem pz_ok158 : pz_chk 158 = true := (Eq.trans List.all_append (Bool.and_eq_true_iff.mpr ⟨pz_ok158_0, (Eq.trans List.all_append (Bool.and_eq_true_iff.mpr ⟨pz_ok158_1, (Eq.trans List.all_append (Bool.and_eq_true_iff.mpr ⟨pz_ok158_2, (Eq.trans List.all_append (Bool.and_eq_true_iff.mpr ⟨pz_ok158_3, (Eq.trans List.all_append (Bool.and_eq_true_iff.mpr ⟨pz_ok158_4, pz_ok158_5⟩))⟩))⟩))⟩))⟩))
theorem pz_ok159 : pz_chk 159 = true := pz_ok159_0
theorem pz_ok160 : pz_chk 160 = true := (Eq.trans List.all_append (Bool.and_eq_true_iff.mpr ⟨pz_ok160_0, (Eq.trans List.all_append (Bool.and_eq_true_iff.mpr ⟨pz_ok160_1, (Eq.trans List.all_append (Bool.and_eq_true_iff.mpr ⟨pz_ok160_2, (Eq.trans List.all_append (Bool.and_eq_true_iff.mpr ⟨pz_ok160_3, (Eq.trans List.all_append (Bool.and_eq_true_iff.mpr ⟨pz_ok160_4, pz_ok160_5⟩))⟩))⟩))⟩))⟩))
theorem pz_ok161 : pz_chk 161 = true := pz_ok161_0
theorem pz_ok162 : pz_chk 162 = true := pz_ok162_0
theorem pz_ok163 : pz_chk 163 = true := (Eq.trans List.all_append (Bool.and_eq_true_iff.mpr ⟨pz_ok163_0, pz_ok163_1⟩))
theorem pz_ok164 : pz_chk 164 = true := pz_ok164_0
theorem pz_ok165 : pz_chk 165 = true := (Eq.trans List.all_append (Bool.and_eq_true_iff.mpr ⟨pz_ok165_0, (Eq.trans List.all_append (Bool.and_eq_true_iff.mpr ⟨pz_ok165_1, (Eq.trans List.all_append (Bool.and_eq_true_iff.mpr ⟨pz_ok165_2, (Eq.trans List.all_append (Bool.and_eq_true_iff.mpr ⟨pz_ok165_3, pz_ok165_4⟩))⟩))⟩))⟩))
theorem pz_ok166 : pz_chk 166 = true := (Eq.trans List.all_append (Bool.and_eq_true_iff.mpr ⟨pz_ok166_0, (Eq.trans List.all_append (Bool.and_eq_true_iff.mpr ⟨pz_ok166_1, (Eq.trans List.all_append (Bool.and_eq_true_iff.mpr ⟨pz_ok166_2, pz_ok166_3⟩))⟩))⟩))
theorem pz_ok167 : pz_chk 167 = true := (Eq.trans List.all_append (Bool.and_eq_true_iff.mpr ⟨pz_ok167_0, (Eq.trans List.all_append (Bool.and_eq_true_iff.mpr ⟨pz_ok167_1, pz_ok167_2⟩))⟩))
theorem pz_ok168 : pz_chk 168 = true := (Eq.trans List.all_append (Bool.and_eq_true_iff.mpr ⟨pz_ok168_0, (Eq.trans List.all_append (Bool.and_eq_true_iff.mpr ⟨pz_ok168_1, pz_ok168_2⟩))⟩))
theorem pz_ok169 : pz_chk 169 = true := (Eq.trans List.all_append (Bool.and_eq_true_iff.mpr ⟨pz_ok169_0, (Eq.trans List.all_append (Bool.and_eq_true_iff.mpr ⟨pz_ok169_1, (Eq.trans List.all_append (Bool.and_eq_true_iff.mpr ⟨pz_ok169_2, (Eq.trans List.all_append (Bool.and_eq_true_iff.mpr ⟨pz_ok169_3, pz_ok169_4⟩))⟩))⟩))⟩))
theorem pz_ok170 : pz_chk 170 = true := (Eq.trans List.all_append (Bool.and_eq_true_iff.mpr ⟨pz_ok170_0, (Eq.trans List.all_append (Bool.and_eq_true_iff.mpr ⟨pz_ok170_1, pz_ok170_2⟩))⟩))
theorem pz_ok171 : pz_chk 171 = true := pz_ok171_0
theorem pz_ok172 : pz_chk 172 = true := pz_ok172_0
theorem pz_ok173 : pz_chk 173 = true := (Eq.trans List.all_append (Bool.and_eq_true_iff.mpr ⟨pz_ok173_0, pz_ok173_1⟩))
theorem pz_ok174 : pz_chk 174 = true := (Eq.trans List.all_append (Bool.and_eq_true_iff.mpr ⟨pz_ok174_0, (Eq.trans List.all_append (Bool.and_eq_true_iff.mpr ⟨pz_ok174_1, pz_ok174_2⟩))⟩))
theorem pz_ok175 : pz_chk 175 = true := (Eq.trans List.all_append (Bool.and_eq_true_iff.mpr ⟨pz_ok175_0, (Eq.trans List.all_append (Bool.and_eq_true_iff.mpr ⟨pz_ok175_1, (Eq.trans List.all_append (Bool.and_eq_true_iff.mpr ⟨pz_ok175_2, (Eq.trans List.all_append (Bool.and_eq_true_iff.mpr ⟨pz_ok175_3, (Eq.trans List.all_append (Bool.and_eq_true_iff.mpr ⟨pz_ok175_4, pz_ok175_5⟩))⟩))⟩))⟩))⟩))
theorem pz_ok176 : pz_chk 176 = true := pz_ok176_0
theorem pz_ok177 : pz_chk 177 = true := (Eq.trans List.all_append (Bool.and_eq_true_iff.mpr ⟨pz_ok177_0, (Eq.trans List.all_append (Bool.and_eq_true_iff.mpr ⟨pz_ok177_1, pz_ok177_2⟩))⟩))
theorem pz_ok178 : pz_chk 178 = true := pz_ok178_0
theorem pz_ok179 : pz_chk 179 = true := pz_ok179_0
theorem pz_ok180 : pz_chk 180 = true := (Eq.trans List.all_append (Bool.and_eq_true_iff.mpr ⟨pz_ok180_0, (Eq.trans List.all_append (Bool.and_eq_true_iff.mpr ⟨pz_ok180_1, (Eq.trans List.all_append (Bool.and_eq_true_iff.mpr ⟨pz_ok180_2, (Eq.trans List.all_append (Bool.and_eq_true_iff.mpr ⟨pz_ok180_3, (Eq.trans List.all_append (Bool.and_eq_true_iff.mpr ⟨pz_ok180_4, (Eq.trans List.all_append (Bool.and_eq_true_iff.mpr ⟨pz_ok180_5, (Eq.trans List.all_append (Bool.and_eq_true_iff.mpr ⟨pz_ok180_6, (Eq.trans List.all_append (Bool.and_eq_true_iff.mpr ⟨pz_ok180_7, (Eq.trans List.all_append (Bool.and_eq_true_iff.mpr ⟨pz_ok180_8, (Eq.trans List.all_append (Bool.and_eq_true_iff.mpr ⟨pz_ok180_9, (Eq.trans List.all_append (Bool.and_eq_true_iff.mpr ⟨pz_ok180_10, (Eq.trans List.all_append (Bool.and_eq_true_iff.mpr ⟨pz_ok180_11, (Eq.trans List.all_append (Bool.and_eq_true_iff.mpr ⟨pz_ok180_12, (Eq.trans List.all_append (Bool.and_eq_true_iff.mpr ⟨pz_ok180_13, (Eq.trans List.all_append (Bool.and_eq_true_iff.mpr ⟨pz_ok180_14, (Eq.trans List.all_append (Bool.and_eq_true_iff.mpr ⟨pz_ok180_15, (Eq.trans List.all_append (Bool.and_eq_true_iff.mpr ⟨pz_ok180_16, pz_ok180_17⟩))⟩))⟩))⟩))⟩))⟩))⟩))⟩))⟩))⟩))⟩))⟩))⟩))⟩))⟩))⟩))⟩))
theorem pz_ok (k : Nat) : pz_chk k = true := by
  match k with
  | 0 => exact pz_ok0
  | 1 => exact pz_ok1
  | 2 => exact pz_ok2
  | 3 => exact pz_ok3
  | 4 => exact pz_ok4
  | 5 => exact pz_ok5
  | 6 => exact pz_ok6
  | 7 => exact pz_ok7
  | 8 => exact pz_ok8
  | 9 => exact pz_ok9
  | 10 => exact pz_ok10
  | 11 => exact pz_ok11
  | 12 => exact pz_ok12
  | 13 => exact pz_ok13
  | 14 => exact pz_ok14
  | 15 => exact pz_ok15
  | 16 => exact pz_ok16
  | 17 => exact pz_ok17
  | 18 => exact pz_ok18
  | 19 => exact pz_ok19
  | 20 => exact pz_ok20
  | 21 => exact pz_ok21
  | 22 => exact pz_ok22
  | 23 => exact pz_ok23
  | 24 => exact pz_ok24
  | 25 => exact pz_ok25
  | 26 => exact pz_ok26
  | 27 => exact pz_ok27
  | 28 => exact pz_ok28
  | 29 => exact pz_ok29
  | 30 => exact pz_ok30
  | 31 => exact pz_ok31
  | 32 => exact pz_ok32
  | 33 => exact pz_ok33
  | 34 => exact pz_ok34
  | 35 => exact pz_ok35
  | 36 => exact pz_ok36
  | 37 => exact pz_ok37
  | 38 => exact pz_ok38
  | 39 => exact pz_ok39
  | 40 => exact pz_ok40
  | 41 => exact pz_ok41
  | 42 => exact pz_ok42
  | 43 => exact pz_ok43
  | 44 => exact pz_ok44
  | 45 => exact pz_ok45
  | 46 => exact pz_ok46
  | 47 => exact pz_ok47
  | 48 => exact pz_ok48
  | 49 => exact pz_ok49
  | 50 => exact pz_ok50
  | 51 => exact pz_ok51
  | 52 => exact pz_ok52
  | 53 => exact pz_ok53
  | 54 => exact pz_ok54
  | 55 => exact pz_ok55
  | 56 => exact pz_ok56
  | 57 => exact pz_ok57
  | 58 => exact pz_ok58
  | 59 => exact pz_ok59
  | 60 => exact pz_ok60
  | 61 => exact pz_ok61
  | 62 => exact pz_ok62
  | 63 => exact pz_ok63
  | 64 => exact pz_ok64
  | 65 => exact pz_ok65
  | 66 => exact pz_ok66
  | 67 => exact pz_ok67
  | 68 => exact pz_ok68
  | 69 => exact pz_ok69
  | 70 => exact pz_ok70
  | 71 => exact pz_ok71
  | 72 => exact pz_ok72
  | 73 => exact pz_ok73
  | 74 => exact pz_ok74
  | 75 => exact pz_ok75
  | 76 => exact pz_ok76
  | 77 => exact pz_ok77
  | 78 => exact pz_ok78
  | 79 => exact pz_ok79
  | 80 => exact pz_ok80
  | 81 => exact pz_ok81
  | 82 => exact pz_ok82
  | 83 => exact pz_ok83
  | 84 => exact pz_ok84
  | 85 => exact pz_ok85
  | 86 => exact pz_ok86
  | 87 => exact pz_ok87
  | 88 => exact pz_ok88
  | 89 => exact pz_ok89
  | 90 => exact pz_ok90
  | 91 => exact pz_ok91
  | 92 => exact pz_ok92
  | 93 => exact pz_ok93
  | 94 => exact pz_ok94
  | 95 => exact pz_ok95
  | 96 => exact pz_ok96
  | 97 => exact pz_ok97
  | 98 => exact pz_ok98
  | 99 => exact pz_ok99
  | 100 => exact pz_ok100
  | 101 => exact pz_ok101
  | 102 => exact pz_ok102
  | 103 => exact pz_ok103
  | 104 => exact pz_ok104
  | 105 => exact pz_ok105
  | 106 => exact pz_ok106
  | 107 => exact pz_ok107
  | 108 => exact pz_ok108
  | 109 => exact pz_ok109
  | 110 => exact pz_ok110
  | 111 => exact pz_ok111
  | 112 => exact pz_ok112
  | 113 => exact pz_ok113
  | 114 => exact pz_ok114
  | 115 => exact pz_ok115
  | 116 => exact pz_ok116
  | 117 => exact pz_ok117
  | 118 => exact pz_ok118
  | 119 => exact pz_ok119
  | 120 => exact pz_ok120
  | 121 => exact pz_ok121
  | 122 => exact pz_ok122
  | 123 => exact pz_ok123
  | 124 => exact pz_ok124
  | 125 => exact pz_ok125
  | 126 => exact pz_ok126
  | 127 => exact pz_ok127
  | 128 => exact pz_ok128
  | 129 => exact pz_ok129
  | 130 => exact pz_ok130
  | 131 => exact pz_ok131
  | 132 => exact pz_ok132
  | 133 => exact pz_ok133
  | 134 => exact pz_ok134
  | 135 => exact pz_ok135
  | 136 => exact pz_ok136
  | 137 => exact pz_ok137
  | 138 => exact pz_ok138
  | 139 => exact pz_ok139
  | 140 => exact pz_ok140
  | 141 => exact pz_ok141
  | 142 => exact pz_ok142
  | 143 => exact pz_ok143
  | 144 => exact pz_ok144
  | 145 => exact pz_ok145
  | 146 => exact pz_ok146
  | 147 => exact pz_ok147
  | 148 => exact pz_ok148
  | 149 => exact pz_ok149
  | 150 => exact pz_ok150
  | 151 => exact pz_ok151
  | 152 => exact pz_ok152
  | 153 => exact pz_ok153
  | 154 => exact pz_ok154
  | 155 => exact pz_ok155
  | 156 => exact pz_ok156
  | 157 => exact pz_ok157
  | 158 => exact pz_ok158
  | 159 => exact pz_ok159
  | 160 => exact pz_ok160
  | 161 => exact pz_ok161
  | 162 => exact pz_ok162
  | 163 => exact pz_ok163
  | 164 => exact pz_ok164
  | 165 => exact pz_ok165
  | 166 => exact pz_ok166
  | 167 => exact pz_ok167
  | 168 => exact pz_ok168
  | 169 => exact pz_ok169
  | 170 => exact pz_ok170
  | 171 => exact pz_ok171
  | 172 => exact pz_ok172
  | 173 => exact pz_ok173
  | 174 => exact pz_ok174
  | 175 => exact pz_ok175
  | 176 => exact pz_ok176
  | 177 => exact pz_ok177
  | 178 => exact pz_ok178
  | 179 => exact pz_ok179
  | n + 180 => exact pz_ok180
theorem pz_cl0 : ∀ k, k < 12 → pz_cal (k + 0) = true := by decide +kernel
theorem pz_cl1 : ∀ k, k < 12 → pz_cal (k + 12) = true := by decide +kernel
theorem pz_cl2 : ∀ k, k < 12 → pz_cal (k + 24) = true := by decide +kernel
theorem pz_cl3 : ∀ k, k < 12 → pz_cal (k + 36) = true := by decide +kernel
theorem pz_cl4 : ∀ k, k < 12 → pz_cal (k + 48) = true := by decide +kernel
theorem pz_cl5 : ∀ k, k < 12 → pz_cal (k + 60) = true := by decide +kernel
theorem pz_cl6 : ∀ k, k < 12 → pz_cal (k + 72) = true := by decide +kernel
theorem pz_cl7 : ∀ k, k < 12 → pz_cal (k + 84) = true := by decide +kernel
theorem pz_cl8 : ∀ k, k < 12 → pz_cal (k + 96) = true := by decide +kernel
theorem pz_cl9 : ∀ k, k < 12 → pz_cal (k + 108) = true := by decide +kernel
theorem pz_cl10 : ∀ k, k < 12 → pz_cal (k + 120) = true := by decide +kernel
theorem pz_cl11 : ∀ k, k < 12 → pz_cal (k + 132) = true := by decide +kernel
theorem pz_cl12 : ∀ k, k < 12 → pz_cal (k + 144) = true := by decide +kernel
theorem pz_cl13 : ∀ k, k < 12 → pz_cal (k + 156) = true := by decide +kernel
theorem pz_cl14 : ∀ k, k < 12 → pz_cal (k + 168) = true := by decide +kernel
theorem pz_cl (k : Nat) (h : k < 180) : pz_cal k = true := by
  by_cases h0 : k < 12
  · have q := pz_cl0 (k - 0) (by omega)
    rwa [Nat.sub_add_cancel (by omega)] at q
  by_cases h1 : k < 24
  · have q := pz_cl1 (k - 12) (by omega)
    rwa [Nat.sub_add_cancel (by omega)] at q
  by_cases h2 : k < 36
  · have q := pz_cl2 (k - 24) (by omega)
    rwa [Nat.sub_add_cancel (by omega)] at q
  by_cases h3 : k < 48
  · have q := pz_cl3 (k - 36) (by omega)
    rwa [Nat.sub_add_cancel (by omega)] at q
  by_cases h4 : k < 60
  · have q := pz_cl4 (k - 48) (by omega)
    rwa [Nat.sub_add_cancel (by omega)] at q
  by_cases h5 : k < 72
  · have q := pz_cl5 (k - 60) (by omega)
    rwa [Nat.sub_add_cancel (by omega)] at q
  by_cases h6 : k < 84
  · have q := pz_cl6 (k - 72) (by omega)
    rwa [Nat.sub_add_cancel (by omega)] at q
  by_cases h7 : k < 96
  · have q := pz_cl7 (k - 84) (by omega)
    rwa [Nat.sub_add_cancel (by omega)] at q
  by_cases h8 : k < 108
  · have q := pz_cl8 (k - 96) (by omega)
    rwa [Nat.sub_add_cancel (by omega)] at q
  by_cases h9 : k < 120
  · have q := pz_cl9 (k - 108) (by omega)
    rwa [Nat.sub_add_cancel (by omega)] at q
  by_cases h10 : k < 132
  · have q := pz_cl10 (k - 120) (by omega)
    rwa [Nat.sub_add_cancel (by omega)] at q
  by_cases h11 : k < 144
  · have q := pz_cl11 (k - 132) (by omega)
    rwa [Nat.sub_add_cancel (by omega)] at q
  by_cases h12 : k < 156
  · have q := pz_cl12 (k - 144) (by omega)
    rwa [Nat.sub_add_cancel (by omega)] at q
  by_cases h13 : k < 168
  · have q := pz_cl13 (k - 156) (by omega)
    rwa [Nat.sub_add_cancel (by omega)] at q
  by_cases h14 : k < 180
  · have q := pz_cl14 (k - 168) (by omega)
    rwa [Nat.sub_add_cancel (by omega)] at q
  omega
