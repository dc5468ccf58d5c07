theorem wd_0 : (Cond.selects RX3 yX3_ruled yX3_ruled) ∈ T0 := T0_of (i := 0) (by decide +kernel) rfl
theorem wd_1 : (Cond.selects RX3 yX3_byKind yX3_byKind) ∈ T0 := T0_of (i := 1) (by decide +kernel) rfl
theorem wd_2 : (Cond.selects RX5 yX5_settle yX5_settle) ∈ T0 := T0_of (i := 2) (by decide +kernel) rfl
theorem wd_3 : (Cond.selects RX1 yX1_advance yX1_advance) ∈ T0 := T0_of (i := 3) (by decide +kernel) rfl
theorem wd_4 : (Cond.selects RX1 yX1_wordFrom yX1_wordFrom) ∈ T0 := T0_of (i := 4) (by decide +kernel) rfl
theorem wd_5 : (Cond.selects RX1 yX1_isAlike yX1_isAlike) ∈ T0 := T0_of (i := 5) (by decide +kernel) rfl
theorem wd_6 : (Cond.selects RX1 yX1_readNumber yX1_readNumber) ∈ T0 := T0_of (i := 6) (by decide +kernel) rfl
theorem wd_7 : (Cond.selects RX1 yX1_expect yX1_expect) ∈ T0 := T0_of (i := 7) (by decide +kernel) rfl
theorem wd_8 : (Cond.selects RX1 yX1_fail yX1_fail) ∈ T0 := T0_of (i := 8) (by decide +kernel) rfl
theorem wd_9 : (Cond.selects RX1 yX1_readRank yX1_readRank) ∈ T0 := T0_of (i := 9) (by decide +kernel) rfl
theorem wd_10 : (Cond.selects RX1 yX1_readOne yX1_readOne) ∈ T0 := T0_of (i := 10) (by decide +kernel) rfl
theorem wd_11 : (Cond.selects RX1 yX1_put yX1_put) ∈ T0 := T0_of (i := 11) (by decide +kernel) rfl
theorem wd_12 : (Cond.selects RX1 yX1_readBehind yX1_readBehind) ∈ T0 := T0_of (i := 12) (by decide +kernel) rfl
theorem wd_13 : (Cond.selects RX1 yX1_readJoined yX1_readJoined) ∈ T0 := T0_of (i := 13) (by decide +kernel) rfl
theorem wd_14 : (Cond.selects RX3 yX3_putReadyIn yX3_putReadyIn) ∈ T0 := T0_of (i := 14) (by decide +kernel) rfl
theorem wd_15 : (Cond.selects RX5 yX5_tryCovers yX5_tryCovers) ∈ T0 := T0_of (i := 15) (by decide +kernel) rfl
theorem wd_16 : (Cond.selects RX0 yX0_isLess yX0_isLess) ∈ T0 := T0_of (i := 16) (by decide +kernel) rfl
theorem wd_17 : (Cond.selects RX5 yX5_tryPacks yX5_tryPacks) ∈ T0 := T0_of (i := 17) (by decide +kernel) rfl
theorem wd_18 : (Cond.selects RX5 yX5_tryDelays yX5_tryDelays) ∈ T0 := T0_of (i := 18) (by decide +kernel) rfl
theorem wd_19 : (Cond.selects RX5 yX5_tryThrowers yX5_tryThrowers) ∈ T0 := T0_of (i := 19) (by decide +kernel) rfl
theorem wd_20 : (Cond.selects RX5 yX5_sheetAt yX5_sheetAt) ∈ T0 := T0_of (i := 20) (by decide +kernel) rfl
theorem wd_21 : (Cond.selects RX5 yX5_firstOtherwise yX5_firstOtherwise) ∈ T0 := T0_of (i := 21) (by decide +kernel) rfl
theorem wd_22 : (Cond.selects RX5 yX5_fittingBits yX5_fittingBits) ∈ T0 := T0_of (i := 22) (by decide +kernel) rfl
theorem wd_23 : (Cond.selects RX5 yX5_fits yX5_fits) ∈ T0 := T0_of (i := 23) (by decide +kernel) rfl
theorem wd_24 : (Cond.selects RX5 yX5_fittingMines yX5_fittingMines) ∈ T0 := T0_of (i := 24) (by decide +kernel) rfl
theorem wd_25 : (Cond.selects RX5 yX5_leastFittingMine yX5_leastFittingMine) ∈ T0 := T0_of (i := 25) (by decide +kernel) rfl
theorem wd_26 : (Cond.selects RX5 yX5_leftDrawn yX5_leftDrawn) ∈ T0 := T0_of (i := 26) (by decide +kernel) rfl
theorem wd_27 : (Cond.selects RX6 yX6_spell yX6_spell) ∈ T0 := T0_of (i := 27) (by decide +kernel) rfl
theorem wd_28 : (Cond.selects RX6 yX6_isOf yX6_isOf) ∈ T0 := T0_of (i := 28) (by decide +kernel) rfl
theorem wd_29 : (Cond.selects RX6 yX6_isThing yX6_isThing) ∈ T0 := T0_of (i := 29) (by decide +kernel) rfl
theorem wd_30 : (Cond.selects RX6 yX6_isOne yX6_isOne) ∈ T0 := T0_of (i := 30) (by decide +kernel) rfl
theorem wd_31 : (Cond.selects RX6 yX6_isComing yX6_isComing) ∈ T0 := T0_of (i := 31) (by decide +kernel) rfl
theorem wd_32 : (Cond.selects RX6 yX6_fullNow yX6_fullNow) ∈ T0 := T0_of (i := 32) (by decide +kernel) rfl
theorem wd_33 : (Cond.selects RX6 yX6_says yX6_says) ∈ T0 := T0_of (i := 33) (by decide +kernel) rfl
theorem wd_34 : (Cond.selects RX6 yX6_read yX6_read) ∈ T0 := T0_of (i := 34) (by decide +kernel) rfl
theorem wd_35 : (Cond.selects RX6 yX6_next yX6_next) ∈ T0 := T0_of (i := 35) (by decide +kernel) rfl
theorem wd_36 : (Cond.selects RX6 yX6_byteAt yX6_byteAt) ∈ T0 := T0_of (i := 36) (by decide +kernel) rfl
theorem wd_37 : (Cond.selects RX6 yX6_isWord yX6_isWord) ∈ T0 := T0_of (i := 37) (by decide +kernel) rfl
theorem wd_38 : (Cond.selects RX6 yX6_isLetter yX6_isLetter) ∈ T0 := T0_of (i := 38) (by decide +kernel) rfl
theorem wd_39 : (Cond.selects RX6 yX6_part yX6_part) ∈ T0 := T0_of (i := 39) (by decide +kernel) rfl
theorem wd_40 : (Cond.selects RX6 yX6_fail yX6_fail) ∈ T0 := T0_of (i := 40) (by decide +kernel) rfl
theorem wd_41 : (Cond.selects RX6 yX6_either0 yX6_either0) ∈ T0 := T0_of (i := 41) (by decide +kernel) rfl
theorem wd_42 : (Cond.selects RX6 yX6_both0 yX6_both0) ∈ T0 := T0_of (i := 42) (by decide +kernel) rfl
theorem wd_43 : (Cond.selects RX6 yX6_not0 yX6_not0) ∈ T0 := T0_of (i := 43) (by decide +kernel) rfl
theorem wd_44 : (Cond.selects RX6 yX6_opens yX6_opens) ∈ T0 := T0_of (i := 44) (by decide +kernel) rfl
theorem wd_45 : (Cond.selects RX6 yX6_not1 yX6_not1) ∈ T0 := T0_of (i := 45) (by decide +kernel) rfl
theorem wd_46 : (Cond.selects RX6 yX6_not2 yX6_not2) ∈ T0 := T0_of (i := 46) (by decide +kernel) rfl
theorem wd_47 : (Cond.selects RX6 yX6_not3 yX6_not3) ∈ T0 := T0_of (i := 47) (by decide +kernel) rfl
theorem wd_48 : (Cond.selects RX6 yX6_not4 yX6_not4) ∈ T0 := T0_of (i := 48) (by decide +kernel) rfl
theorem wd_49 : (Cond.selects RX6 yX6_not5 yX6_not5) ∈ T0 := T0_of (i := 49) (by decide +kernel) rfl
theorem wd_50 : (Cond.selects RX6 yX6_added5 yX6_added5) ∈ T0 := T0_of (i := 50) (by decide +kernel) rfl
theorem wd_51 : (Cond.selects RX6 yX6_term5 yX6_term5) ∈ T0 := T0_of (i := 51) (by decide +kernel) rfl
theorem wd_52 : (Cond.selects RX6 yX6_atom5 yX6_atom5) ∈ T0 := T0_of (i := 52) (by decide +kernel) rfl
theorem wd_53 : (Cond.selects RX6 yX6_isSign yX6_isSign) ∈ T0 := T0_of (i := 53) (by decide +kernel) rfl
theorem wd_54 : (Cond.selects RX6 yX6_name yX6_name) ∈ T0 := T0_of (i := 54) (by decide +kernel) rfl
theorem wd_55 : (Cond.selects RX6 yX6_added4 yX6_added4) ∈ T0 := T0_of (i := 55) (by decide +kernel) rfl
theorem wd_56 : (Cond.selects RX6 yX6_term4 yX6_term4) ∈ T0 := T0_of (i := 56) (by decide +kernel) rfl
theorem wd_57 : (Cond.selects RX6 yX6_atom4 yX6_atom4) ∈ T0 := T0_of (i := 57) (by decide +kernel) rfl
theorem wd_58 : (Cond.selects RX6 yX6_either5 yX6_either5) ∈ T0 := T0_of (i := 58) (by decide +kernel) rfl
theorem wd_59 : (Cond.selects RX6 yX6_both5 yX6_both5) ∈ T0 := T0_of (i := 59) (by decide +kernel) rfl
theorem wd_60 : (Cond.selects RX6 yX6_added3 yX6_added3) ∈ T0 := T0_of (i := 60) (by decide +kernel) rfl
theorem wd_61 : (Cond.selects RX6 yX6_term3 yX6_term3) ∈ T0 := T0_of (i := 61) (by decide +kernel) rfl
theorem wd_62 : (Cond.selects RX6 yX6_atom3 yX6_atom3) ∈ T0 := T0_of (i := 62) (by decide +kernel) rfl
theorem wd_63 : (Cond.selects RX6 yX6_either4 yX6_either4) ∈ T0 := T0_of (i := 63) (by decide +kernel) rfl
theorem wd_64 : (Cond.selects RX6 yX6_both4 yX6_both4) ∈ T0 := T0_of (i := 64) (by decide +kernel) rfl
theorem wd_65 : (Cond.selects RX6 yX6_added2 yX6_added2) ∈ T0 := T0_of (i := 65) (by decide +kernel) rfl
theorem wd_66 : (Cond.selects RX6 yX6_term2 yX6_term2) ∈ T0 := T0_of (i := 66) (by decide +kernel) rfl
theorem wd_67 : (Cond.selects RX6 yX6_atom2 yX6_atom2) ∈ T0 := T0_of (i := 67) (by decide +kernel) rfl
theorem wd_68 : (Cond.selects RX6 yX6_either3 yX6_either3) ∈ T0 := T0_of (i := 68) (by decide +kernel) rfl
theorem wd_69 : (Cond.selects RX6 yX6_both3 yX6_both3) ∈ T0 := T0_of (i := 69) (by decide +kernel) rfl
theorem wd_70 : (Cond.selects RX6 yX6_added1 yX6_added1) ∈ T0 := T0_of (i := 70) (by decide +kernel) rfl
theorem wd_71 : (Cond.selects RX6 yX6_term1 yX6_term1) ∈ T0 := T0_of (i := 71) (by decide +kernel) rfl
theorem wd_72 : (Cond.selects RX6 yX6_atom1 yX6_atom1) ∈ T0 := T0_of (i := 72) (by decide +kernel) rfl
theorem wd_73 : (Cond.selects RX6 yX6_either2 yX6_either2) ∈ T0 := T0_of (i := 73) (by decide +kernel) rfl
theorem wd_74 : (Cond.selects RX6 yX6_both2 yX6_both2) ∈ T0 := T0_of (i := 74) (by decide +kernel) rfl
theorem wd_75 : (Cond.selects RX6 yX6_added0 yX6_added0) ∈ T0 := T0_of (i := 75) (by decide +kernel) rfl
theorem wd_76 : (Cond.selects RX6 yX6_term0 yX6_term0) ∈ T0 := T0_of (i := 76) (by decide +kernel) rfl
theorem wd_77 : (Cond.selects RX6 yX6_atom0 yX6_atom0) ∈ T0 := T0_of (i := 77) (by decide +kernel) rfl
theorem wd_78 : (Cond.selects RX6 yX6_either1 yX6_either1) ∈ T0 := T0_of (i := 78) (by decide +kernel) rfl
theorem wd_79 : (Cond.selects RX6 yX6_both1 yX6_both1) ∈ T0 := T0_of (i := 79) (by decide +kernel) rfl
theorem wd_80 : (Cond.selects RX6 yX6_isAsked yX6_isAsked) ∈ T0 := T0_of (i := 80) (by decide +kernel) rfl
theorem wd_81 : (Cond.selects RX6 yX6_throwsOf yX6_throwsOf) ∈ T0 := T0_of (i := 81) (by decide +kernel) rfl
theorem wd_82 : (Cond.selects RX6 yX6_roomNow yX6_roomNow) ∈ T0 := T0_of (i := 82) (by decide +kernel) rfl
theorem wd_83 : (Cond.selects RX6 yX6_leftNow yX6_leftNow) ∈ T0 := T0_of (i := 83) (by decide +kernel) rfl
theorem wd_84 : (Cond.selects RX6 yX6_lays yX6_lays) ∈ T0 := T0_of (i := 84) (by decide +kernel) rfl
theorem wd_85 : (Cond.selects RX6 yX6_paysOf yX6_paysOf) ∈ T0 := T0_of (i := 85) (by decide +kernel) rfl
theorem wd_86 : (Cond.selects RX6 yX6_passes yX6_passes) ∈ T0 := T0_of (i := 86) (by decide +kernel) rfl
theorem wd_87 : (Cond.selects RX6 yX6_loads yX6_loads) ∈ T0 := T0_of (i := 87) (by decide +kernel) rfl
theorem wd_88 : (Cond.selects RX6 yX6_laysAside yX6_laysAside) ∈ T0 := T0_of (i := 88) (by decide +kernel) rfl
theorem wd_89 : (Cond.selects RX6 yX6_go yX6_go) ∈ T0 := T0_of (i := 89) (by decide +kernel) rfl
theorem wd_90 : (Cond.selects RX6 yX6_inSet yX6_inSet) ∈ T0 := T0_of (i := 90) (by decide +kernel) rfl
theorem wd_91 : (Cond.selects RX6 yX6_laysBack yX6_laysBack) ∈ T0 := T0_of (i := 91) (by decide +kernel) rfl
theorem wd_92 : (Cond.selects RX6 yX6_askedSet yX6_askedSet) ∈ T0 := T0_of (i := 92) (by decide +kernel) rfl
theorem wd_93 : (Cond.selects RX6 yX6_askJust yX6_askJust) ∈ T0 := T0_of (i := 93) (by decide +kernel) rfl
theorem wd_94 : (Cond.selects RX6 yX6_packed yX6_packed) ∈ T0 := T0_of (i := 94) (by decide +kernel) rfl
theorem wd_95 : (Cond.selects RX6 yX6_bulkOf yX6_bulkOf) ∈ T0 := T0_of (i := 95) (by decide +kernel) rfl
theorem wd_96 : (Cond.selects RX6 yX6_lateBy yX6_lateBy) ∈ T0 := T0_of (i := 96) (by decide +kernel) rfl
theorem wd_97 : (Cond.selects RX6 yX6_mostBy yX6_mostBy) ∈ T0 := T0_of (i := 97) (by decide +kernel) rfl
theorem wd_98 : (Cond.selects RX6 yX6_firstOther yX6_firstOther) ∈ T0 := T0_of (i := 98) (by decide +kernel) rfl
theorem wd_99 : (Cond.selects RX6 yX6_likeSet yX6_likeSet) ∈ T0 := T0_of (i := 99) (by decide +kernel) rfl
theorem wd_100 : (Cond.selects RX6 yX6_leftDrawn yX6_leftDrawn) ∈ T0 := T0_of (i := 100) (by decide +kernel) rfl
theorem wd_101 : (Cond.initialized RL) ∈ T0 := T0_of (i := 101) (by decide +kernel) rfl
theorem wd_102 : (Cond.initialized RX5) ∈ T0 := T0_of (i := 102) (by decide +kernel) rfl
theorem wd_103 : (Cond.initialized RX4) ∈ T0 := T0_of (i := 103) (by decide +kernel) rfl
theorem wd_104 : (Cond.initialized RX1) ∈ T0 := T0_of (i := 104) (by decide +kernel) rfl
theorem wd_105 : (Cond.initialized RX3) ∈ T0 := T0_of (i := 105) (by decide +kernel) rfl
theorem wd_106 : (Cond.initialized RX0) ∈ T0 := T0_of (i := 106) (by decide +kernel) rfl
theorem wd_107 : (Cond.initialized RX2) ∈ T0 := T0_of (i := 107) (by decide +kernel) rfl
theorem wd_108 : (Cond.initialized RX6) ∈ T0 := T0_of (i := 108) (by decide +kernel) rfl
theorem wd_109 : (Cond.initialized RJ9) ∈ T0 := T0_of (i := 109) (by decide +kernel) rfl
theorem wd_110 : (Cond.initialized RJ0) ∈ T0 := T0_of (i := 110) (by decide +kernel) rfl
theorem wd_111 : (Cond.initialized RJ1) ∈ T0 := T0_of (i := 111) (by decide +kernel) rfl
theorem wd_112 : (Cond.initialized RJ3) ∈ T0 := T0_of (i := 112) (by decide +kernel) rfl
theorem wd_113 : (Cond.initialized RJ2) ∈ T0 := T0_of (i := 113) (by decide +kernel) rfl
theorem wd_114 : (Cond.initialized RJ10) ∈ T0 := T0_of (i := 114) (by decide +kernel) rfl
theorem wd_115 : (Cond.initialized RJ6) ∈ T0 := T0_of (i := 115) (by decide +kernel) rfl
theorem wd_118 : (Cond.methodLink RL 9 yX5_init) ∈ T0 := T0_of (i := 118) (by decide +kernel) rfl
theorem wd_119 : (Cond.instanceMethod yX5_init) ∈ T0 := T0_of (i := 119) (by decide +kernel) rfl
theorem wc_yX5_init : Cond.code yX5_init cX5_init 2 none ∈ T0 := T0_of (i := 120) (by decide +kernel) rfl
theorem wd_121 : (Cond.methodLink RX5 1 ⟨"java/lang/Object", "<init>", "()V"⟩) ∈ T0 := T0_of (i := 121) (by decide +kernel) rfl
theorem wd_122 : (Cond.instanceMethod ⟨"java/lang/Object", "<init>", "()V"⟩) ∈ T0 := T0_of (i := 122) (by decide +kernel) rfl
theorem wd_126 : (Cond.methodLink RX5 9 yX4_init) ∈ T0 := T0_of (i := 126) (by decide +kernel) rfl
theorem wd_127 : (Cond.instanceMethod yX4_init) ∈ T0 := T0_of (i := 127) (by decide +kernel) rfl
theorem wc_yX4_init : Cond.code yX4_init cX4_init 2 none ∈ T0 := T0_of (i := 128) (by decide +kernel) rfl
theorem wd_129 : (Cond.methodLink RX4 3 ⟨"java/lang/Object", "<init>", "()V"⟩) ∈ T0 := T0_of (i := 129) (by decide +kernel) rfl
theorem wd_132 : (Cond.fieldLink RX4 11 "SkipOfEightYards$Texts" "steps" "[[I") ∈ T0 := T0_of (i := 132) (by decide +kernel) rfl
theorem wd_134 : (Cond.fieldLink RX4 16 "SkipOfEightYards$Texts" "ends" "[[I") ∈ T0 := T0_of (i := 134) (by decide +kernel) rfl
theorem wd_136 : (Cond.fieldLink RX4 19 "SkipOfEightYards$Texts" "names" "[I") ∈ T0 := T0_of (i := 136) (by decide +kernel) rfl
theorem wd_138 : (Cond.fieldLink RX4 23 "SkipOfEightYards$Texts" "stack" "[I") ∈ T0 := T0_of (i := 138) (by decide +kernel) rfl
theorem wd_139 : (Cond.fieldLink RX4 26 "SkipOfEightYards$Texts" "size" "I") ∈ T0 := T0_of (i := 139) (by decide +kernel) rfl
theorem wd_152 : (Cond.arrayClass .int) ∈ T0 := T0_of (i := 152) (by decide +kernel) rfl
theorem wd_156 : (Cond.instanceMethod yX1_init) ∈ T0 := T0_of (i := 156) (by decide +kernel) rfl
theorem wc_yX1_init : Cond.code yX1_init cX1_init 1 none ∈ T0 := T0_of (i := 157) (by decide +kernel) rfl
theorem wd_158 : (Cond.methodLink RX1 3 ⟨"java/lang/Object", "<init>", "()V"⟩) ∈ T0 := T0_of (i := 158) (by decide +kernel) rfl
theorem wd_159 : (Cond.fieldLink RX1 9 "SkipOfEightYards$Reader" "tape" "[I") ∈ T0 := T0_of (i := 159) (by decide +kernel) rfl
theorem wd_160 : (Cond.fieldLink RX1 15 "SkipOfEightYards$Reader" "size" "I") ∈ T0 := T0_of (i := 160) (by decide +kernel) rfl
theorem wd_162 : (Cond.fieldLink RX1 19 "SkipOfEightYards$Reader" "at" "I") ∈ T0 := T0_of (i := 162) (by decide +kernel) rfl
theorem wd_163 : (Cond.fieldLink RX1 39 "SkipOfEightYards$Reader" "token" "I") ∈ T0 := T0_of (i := 163) (by decide +kernel) rfl
theorem wd_164 : (Cond.fieldLink RX1 45 "SkipOfEightYards$Reader" "place" "I") ∈ T0 := T0_of (i := 164) (by decide +kernel) rfl
theorem wd_165 : (Cond.fieldLink RX1 66 "SkipOfEightYards$Reader" "number" "I") ∈ T0 := T0_of (i := 165) (by decide +kernel) rfl
theorem wd_166 : (Cond.fieldLink RX1 25 "SkipOfEightYards$Reader" "fault" "I") ∈ T0 := T0_of (i := 166) (by decide +kernel) rfl
theorem wd_167 : (Cond.fieldLink RX1 22 "SkipOfEightYards$Reader" "made" "I") ∈ T0 := T0_of (i := 167) (by decide +kernel) rfl
theorem wd_187 : (Cond.methodLink RX5 25 yX3_init) ∈ T0 := T0_of (i := 187) (by decide +kernel) rfl
theorem wd_188 : (Cond.instanceMethod yX3_init) ∈ T0 := T0_of (i := 188) (by decide +kernel) rfl
theorem wc_yX3_init : Cond.code yX3_init cX3_init 2 none ∈ T0 := T0_of (i := 189) (by decide +kernel) rfl
theorem wd_190 : (Cond.methodLink RX3 3 ⟨"java/lang/Object", "<init>", "()V"⟩) ∈ T0 := T0_of (i := 190) (by decide +kernel) rfl
theorem wd_191 : (Cond.fieldLink RX3 28 "SkipOfEightYards$Skip" "texts" "LSkipOfEightYards$Texts;") ∈ T0 := T0_of (i := 191) (by decide +kernel) rfl
theorem wd_192 : (Cond.fieldLink RX3 9 "SkipOfEightYards$Skip" "bulk" "[I") ∈ T0 := T0_of (i := 192) (by decide +kernel) rfl
theorem wd_193 : (Cond.fieldLink RX3 15 "SkipOfEightYards$Skip" "ready" "[I") ∈ T0 := T0_of (i := 193) (by decide +kernel) rfl
theorem wd_194 : (Cond.fieldLink RX3 18 "SkipOfEightYards$Skip" "kind" "[I") ∈ T0 := T0_of (i := 194) (by decide +kernel) rfl
theorem wd_196 : (Cond.fieldLink RX3 21 "SkipOfEightYards$Skip" "number" "[I") ∈ T0 := T0_of (i := 196) (by decide +kernel) rfl
theorem wd_198 : (Cond.fieldLink RX3 38 "SkipOfEightYards$Skip" "night" "I") ∈ T0 := T0_of (i := 198) (by decide +kernel) rfl
theorem wd_200 : (Cond.fieldLink RX3 24 "SkipOfEightYards$Skip" "size" "I") ∈ T0 := T0_of (i := 200) (by decide +kernel) rfl
theorem wd_201 : (Cond.fieldLink RX3 41 "SkipOfEightYards$Skip" "lamp" "I") ∈ T0 := T0_of (i := 201) (by decide +kernel) rfl
theorem wd_202 : (Cond.fieldLink RX3 44 "SkipOfEightYards$Skip" "mine" "I") ∈ T0 := T0_of (i := 202) (by decide +kernel) rfl
theorem wd_204 : (Cond.fieldLink RX3 47 "SkipOfEightYards$Skip" "theirs" "I") ∈ T0 := T0_of (i := 204) (by decide +kernel) rfl
theorem wd_206 : (Cond.fieldLink RX3 50 "SkipOfEightYards$Skip" "rule" "I") ∈ T0 := T0_of (i := 206) (by decide +kernel) rfl
theorem wd_208 : (Cond.fieldLink RX3 53 "SkipOfEightYards$Skip" "things" "I") ∈ T0 := T0_of (i := 208) (by decide +kernel) rfl
theorem wd_210 : (Cond.fieldLink RX3 56 "SkipOfEightYards$Skip" "in" "I") ∈ T0 := T0_of (i := 210) (by decide +kernel) rfl
theorem wd_212 : (Cond.fieldLink RX3 59 "SkipOfEightYards$Skip" "neighbours" "I") ∈ T0 := T0_of (i := 212) (by decide +kernel) rfl
theorem wd_214 : (Cond.fieldLink RX3 62 "SkipOfEightYards$Skip" "asked" "I") ∈ T0 := T0_of (i := 214) (by decide +kernel) rfl
theorem wd_251 : (Cond.instanceMethod yX0_init) ∈ T0 := T0_of (i := 251) (by decide +kernel) rfl
theorem wc_yX0_init : Cond.code yX0_init cX0_init 1 none ∈ T0 := T0_of (i := 252) (by decide +kernel) rfl
theorem wd_253 : (Cond.methodLink RX0 3 ⟨"java/lang/Object", "<init>", "()V"⟩) ∈ T0 := T0_of (i := 253) (by decide +kernel) rfl
theorem wd_254 : (Cond.fieldLink RX0 9 "SkipOfEightYards$Choice" "first" "I") ∈ T0 := T0_of (i := 254) (by decide +kernel) rfl
theorem wd_256 : (Cond.fieldLink RX0 15 "SkipOfEightYards$Choice" "second" "I") ∈ T0 := T0_of (i := 256) (by decide +kernel) rfl
theorem wd_258 : (Cond.fieldLink RX0 18 "SkipOfEightYards$Choice" "which" "I") ∈ T0 := T0_of (i := 258) (by decide +kernel) rfl
theorem wd_271 : (Cond.instanceMethod yX2_init) ∈ T0 := T0_of (i := 271) (by decide +kernel) rfl
theorem wc_yX2_init : Cond.code yX2_init cX2_init 1 none ∈ T0 := T0_of (i := 272) (by decide +kernel) rfl
theorem wd_273 : (Cond.methodLink RX2 3 ⟨"java/lang/Object", "<init>", "()V"⟩) ∈ T0 := T0_of (i := 273) (by decide +kernel) rfl
theorem wd_274 : (Cond.fieldLink RX2 9 "SkipOfEightYards$Sheet" "cells" "[I") ∈ T0 := T0_of (i := 274) (by decide +kernel) rfl
theorem wd_276 : (Cond.fieldLink RX2 15 "SkipOfEightYards$Sheet" "sort" "I") ∈ T0 := T0_of (i := 276) (by decide +kernel) rfl
theorem wd_278 : (Cond.fieldLink RX2 25 "SkipOfEightYards$Sheet" "size" "I") ∈ T0 := T0_of (i := 278) (by decide +kernel) rfl
theorem wd_287 : (Cond.fieldLink RX5 10 "SkipOfEightYards" "texts" "LSkipOfEightYards$Texts;") ∈ T0 := T0_of (i := 287) (by decide +kernel) rfl
theorem wd_288 : (Cond.fieldLink RX5 19 "SkipOfEightYards" "reader" "LSkipOfEightYards$Reader;") ∈ T0 := T0_of (i := 288) (by decide +kernel) rfl
theorem wd_289 : (Cond.fieldLink RX5 28 "SkipOfEightYards" "now" "LSkipOfEightYards$Skip;") ∈ T0 := T0_of (i := 289) (by decide +kernel) rfl
theorem wd_290 : (Cond.fieldLink RX5 32 "SkipOfEightYards" "image" "LSkipOfEightYards$Skip;") ∈ T0 := T0_of (i := 290) (by decide +kernel) rfl
theorem wd_291 : (Cond.fieldLink RX5 35 "SkipOfEightYards" "thoughts" "[LSkipOfEightYards$Skip;") ∈ T0 := T0_of (i := 291) (by decide +kernel) rfl
theorem wd_292 : (Cond.fieldLink RX5 42 "SkipOfEightYards" "choice" "LSkipOfEightYards$Choice;") ∈ T0 := T0_of (i := 292) (by decide +kernel) rfl
theorem wd_293 : (Cond.fieldLink RX5 48 "SkipOfEightYards" "sheets" "[LSkipOfEightYards$Sheet;") ∈ T0 := T0_of (i := 293) (by decide +kernel) rfl
theorem wd_294 : (Cond.fieldLink RX5 262 "SkipOfEightYards" "imageKept" "Z") ∈ T0 := T0_of (i := 294) (by decide +kernel) rfl
theorem wd_312 : (Cond.methodLink RL 13 yX5_set) ∈ T0 := T0_of (i := 312) (by decide +kernel) rfl
theorem wd_313 : (Cond.instanceMethod yX5_set) ∈ T0 := T0_of (i := 313) (by decide +kernel) rfl
theorem wd_314 : (Cond.selects RX5 yX5_set yX5_set) ∈ T0 := T0_of (i := 314) (by decide +kernel) rfl
theorem wc_yX5_set : Cond.code yX5_set cX5_set 5 (some .int) ∈ T0 := T0_of (i := 315) (by decide +kernel) rfl
theorem wd_316 : (Cond.methodLink RX5 53 yX3_knows) ∈ T0 := T0_of (i := 316) (by decide +kernel) rfl
theorem wd_317 : (Cond.instanceMethod yX3_knows) ∈ T0 := T0_of (i := 317) (by decide +kernel) rfl
theorem wd_318 : (Cond.selects RX3 yX3_knows yX3_knows) ∈ T0 := T0_of (i := 318) (by decide +kernel) rfl
theorem wc_yX3_knows : Cond.code yX3_knows cX3_knows 3 (some .boolean) ∈ T0 := T0_of (i := 319) (by decide +kernel) rfl
theorem wd_320 : (Cond.methodLink RX3 69 yX3_hasThing) ∈ T0 := T0_of (i := 320) (by decide +kernel) rfl
theorem wd_321 : (Cond.instanceMethod yX3_hasThing) ∈ T0 := T0_of (i := 321) (by decide +kernel) rfl
theorem wd_322 : (Cond.selects RX3 yX3_hasThing yX3_hasThing) ∈ T0 := T0_of (i := 322) (by decide +kernel) rfl
theorem wc_yX3_hasThing : Cond.code yX3_hasThing cX3_hasThing 2 (some .boolean) ∈ T0 := T0_of (i := 323) (by decide +kernel) rfl
theorem wd_324 : (Cond.methodLink RX3 73 yX3_hasNeighbour) ∈ T0 := T0_of (i := 324) (by decide +kernel) rfl
theorem wd_325 : (Cond.instanceMethod yX3_hasNeighbour) ∈ T0 := T0_of (i := 325) (by decide +kernel) rfl
theorem wd_326 : (Cond.selects RX3 yX3_hasNeighbour yX3_hasNeighbour) ∈ T0 := T0_of (i := 326) (by decide +kernel) rfl
theorem wc_yX3_hasNeighbour : Cond.code yX3_hasNeighbour cX3_hasNeighbour 2 (some .boolean) ∈ T0 := T0_of (i := 327) (by decide +kernel) rfl
theorem wd_328 : (Cond.methodLink RX5 57 yX5_mostOf) ∈ T0 := T0_of (i := 328) (by decide +kernel) rfl
theorem wd_329 : (Cond.static yX5_mostOf) ∈ T0 := T0_of (i := 329) (by decide +kernel) rfl
theorem wc_yX5_mostOf : Cond.code yX5_mostOf cX5_mostOf 1 (some .int) ∈ T0 := T0_of (i := 330) (by decide +kernel) rfl
theorem wd_331 : (Cond.methodLink RX5 61 yX5_within) ∈ T0 := T0_of (i := 331) (by decide +kernel) rfl
theorem wd_332 : (Cond.static yX5_within) ∈ T0 := T0_of (i := 332) (by decide +kernel) rfl
theorem wc_yX5_within : Cond.code yX5_within cX5_within 3 (some .boolean) ∈ T0 := T0_of (i := 333) (by decide +kernel) rfl
theorem wd_334 : (Cond.methodLink RX5 65 yX3_amount) ∈ T0 := T0_of (i := 334) (by decide +kernel) rfl
theorem wd_335 : (Cond.instanceMethod yX3_amount) ∈ T0 := T0_of (i := 335) (by decide +kernel) rfl
theorem wd_336 : (Cond.selects RX3 yX3_amount yX3_amount) ∈ T0 := T0_of (i := 336) (by decide +kernel) rfl
theorem wc_yX3_amount : Cond.code yX3_amount cX3_amount 3 (some .int) ∈ T0 := T0_of (i := 337) (by decide +kernel) rfl
theorem wd_338 : (Cond.methodLink RX3 76 yX3_isAsked) ∈ T0 := T0_of (i := 338) (by decide +kernel) rfl
theorem wd_339 : (Cond.instanceMethod yX3_isAsked) ∈ T0 := T0_of (i := 339) (by decide +kernel) rfl
theorem wd_340 : (Cond.selects RX3 yX3_isAsked yX3_isAsked) ∈ T0 := T0_of (i := 340) (by decide +kernel) rfl
theorem wc_yX3_isAsked : Cond.code yX3_isAsked cX3_isAsked 2 (some .boolean) ∈ T0 := T0_of (i := 341) (by decide +kernel) rfl
theorem wd_342 : (Cond.methodLink RX3 79 yX3_isIn) ∈ T0 := T0_of (i := 342) (by decide +kernel) rfl
theorem wd_343 : (Cond.instanceMethod yX3_isIn) ∈ T0 := T0_of (i := 343) (by decide +kernel) rfl
theorem wd_344 : (Cond.selects RX3 yX3_isIn yX3_isIn) ∈ T0 := T0_of (i := 344) (by decide +kernel) rfl
theorem wc_yX3_isIn : Cond.code yX3_isIn cX3_isIn 2 (some .boolean) ∈ T0 := T0_of (i := 345) (by decide +kernel) rfl
theorem wd_346 : (Cond.methodLink RX3 82 yX3_throwing) ∈ T0 := T0_of (i := 346) (by decide +kernel) rfl
theorem wd_347 : (Cond.instanceMethod yX3_throwing) ∈ T0 := T0_of (i := 347) (by decide +kernel) rfl
theorem wd_348 : (Cond.selects RX3 yX3_throwing yX3_throwing) ∈ T0 := T0_of (i := 348) (by decide +kernel) rfl
theorem wc_yX3_throwing : Cond.code yX3_throwing cX3_throwing 6 (some .int) ∈ T0 := T0_of (i := 349) (by decide +kernel) rfl
theorem wd_350 : (Cond.methodLink RX3 129 yX3_ruled) ∈ T0 := T0_of (i := 350) (by decide +kernel) rfl
theorem wd_352 : (Cond.instanceMethod yX3_ruled) ∈ T0 := T0_of (i := 352) (by decide +kernel) rfl
theorem wc_yX3_ruled : Cond.code yX3_ruled cX3_ruled 5 (some .int) ∈ T0 := T0_of (i := 353) (by decide +kernel) rfl
theorem wd_354 : (Cond.methodLink RX3 89 yX3_full) ∈ T0 := T0_of (i := 354) (by decide +kernel) rfl
theorem wd_355 : (Cond.instanceMethod yX3_full) ∈ T0 := T0_of (i := 355) (by decide +kernel) rfl
theorem wd_356 : (Cond.selects RX3 yX3_full yX3_full) ∈ T0 := T0_of (i := 356) (by decide +kernel) rfl
theorem wc_yX3_full : Cond.code yX3_full cX3_full 1 (some .int) ∈ T0 := T0_of (i := 357) (by decide +kernel) rfl
theorem wd_358 : (Cond.methodLink RX3 145 yX4_value) ∈ T0 := T0_of (i := 358) (by decide +kernel) rfl
theorem wd_359 : (Cond.instanceMethod yX4_value) ∈ T0 := T0_of (i := 359) (by decide +kernel) rfl
theorem wd_360 : (Cond.selects RX4 yX4_value yX4_value) ∈ T0 := T0_of (i := 360) (by decide +kernel) rfl
theorem wc_yX4_value : Cond.code yX4_value cX4_value 8 (some .int) ∈ T0 := T0_of (i := 361) (by decide +kernel) rfl
theorem wd_362 : (Cond.methodLink RX4 32 yX4_joined) ∈ T0 := T0_of (i := 362) (by decide +kernel) rfl
theorem wd_363 : (Cond.static yX4_joined) ∈ T0 := T0_of (i := 363) (by decide +kernel) rfl
theorem wc_yX4_joined : Cond.code yX4_joined cX4_joined 3 (some .int) ∈ T0 := T0_of (i := 364) (by decide +kernel) rfl
theorem wd_365 : (Cond.methodLink RX3 136 yX3_bounded) ∈ T0 := T0_of (i := 365) (by decide +kernel) rfl
theorem wd_366 : (Cond.static yX3_bounded) ∈ T0 := T0_of (i := 366) (by decide +kernel) rfl
theorem wc_yX3_bounded : Cond.code yX3_bounded cX3_bounded 3 (some .int) ∈ T0 := T0_of (i := 367) (by decide +kernel) rfl
theorem wd_368 : (Cond.methodLink RX3 116 yJ9_min_7cf53) ∈ T0 := T0_of (i := 368) (by decide +kernel) rfl
theorem wd_369 : (Cond.static yJ9_min_7cf53) ∈ T0 := T0_of (i := 369) (by decide +kernel) rfl
theorem wc_yJ9_min_7cf53 : Cond.code yJ9_min_7cf53 cJ9_min_7cf53 2 (some .int) ∈ T0 := T0_of (i := 370) (by decide +kernel) rfl
theorem wd_371 : (Cond.methodLink RX3 99 yJ9_max_7cf53) ∈ T0 := T0_of (i := 371) (by decide +kernel) rfl
theorem wd_372 : (Cond.static yJ9_max_7cf53) ∈ T0 := T0_of (i := 372) (by decide +kernel) rfl
theorem wc_yJ9_max_7cf53 : Cond.code yJ9_max_7cf53 cJ9_max_7cf53 2 (some .int) ∈ T0 := T0_of (i := 373) (by decide +kernel) rfl
theorem wd_374 : (Cond.methodLink RX3 132 yX3_byKind) ∈ T0 := T0_of (i := 374) (by decide +kernel) rfl
theorem wd_376 : (Cond.instanceMethod yX3_byKind) ∈ T0 := T0_of (i := 376) (by decide +kernel) rfl
theorem wc_yX3_byKind : Cond.code yX3_byKind cX3_byKind 5 (some .int) ∈ T0 := T0_of (i := 377) (by decide +kernel) rfl
theorem wd_378 : (Cond.methodLink RX3 86 yX3_comes) ∈ T0 := T0_of (i := 378) (by decide +kernel) rfl
theorem wd_379 : (Cond.instanceMethod yX3_comes) ∈ T0 := T0_of (i := 379) (by decide +kernel) rfl
theorem wd_380 : (Cond.selects RX3 yX3_comes yX3_comes) ∈ T0 := T0_of (i := 380) (by decide +kernel) rfl
theorem wc_yX3_comes : Cond.code yX3_comes cX3_comes 2 (some .boolean) ∈ T0 := T0_of (i := 381) (by decide +kernel) rfl
theorem wd_382 : (Cond.methodLink RX3 93 yX3_room) ∈ T0 := T0_of (i := 382) (by decide +kernel) rfl
theorem wd_383 : (Cond.instanceMethod yX3_room) ∈ T0 := T0_of (i := 383) (by decide +kernel) rfl
theorem wd_384 : (Cond.selects RX3 yX3_room yX3_room) ∈ T0 := T0_of (i := 384) (by decide +kernel) rfl
theorem wc_yX3_room : Cond.code yX3_room cX3_room 1 (some .int) ∈ T0 := T0_of (i := 385) (by decide +kernel) rfl
theorem wd_386 : (Cond.methodLink RX3 96 yX3_left) ∈ T0 := T0_of (i := 386) (by decide +kernel) rfl
theorem wd_387 : (Cond.instanceMethod yX3_left) ∈ T0 := T0_of (i := 387) (by decide +kernel) rfl
theorem wd_388 : (Cond.selects RX3 yX3_left yX3_left) ∈ T0 := T0_of (i := 388) (by decide +kernel) rfl
theorem wc_yX3_left : Cond.code yX3_left cX3_left 1 (some .int) ∈ T0 := T0_of (i := 389) (by decide +kernel) rfl
theorem wd_390 : (Cond.methodLink RX3 105 yX3_bulkOf) ∈ T0 := T0_of (i := 390) (by decide +kernel) rfl
theorem wd_391 : (Cond.instanceMethod yX3_bulkOf) ∈ T0 := T0_of (i := 391) (by decide +kernel) rfl
theorem wd_392 : (Cond.selects RX3 yX3_bulkOf yX3_bulkOf) ∈ T0 := T0_of (i := 392) (by decide +kernel) rfl
theorem wc_yX3_bulkOf : Cond.code yX3_bulkOf cX3_bulkOf 4 (some .int) ∈ T0 := T0_of (i := 393) (by decide +kernel) rfl
theorem wd_394 : (Cond.methodLink RX5 69 yX3_become) ∈ T0 := T0_of (i := 394) (by decide +kernel) rfl
theorem wd_395 : (Cond.instanceMethod yX3_become) ∈ T0 := T0_of (i := 395) (by decide +kernel) rfl
theorem wd_396 : (Cond.selects RX3 yX3_become yX3_become) ∈ T0 := T0_of (i := 396) (by decide +kernel) rfl
theorem wc_yX3_become : Cond.code yX3_become cX3_become 4 none ∈ T0 := T0_of (i := 397) (by decide +kernel) rfl
theorem wd_398 : (Cond.methodLink RX3 65 yX3_becomeAsked) ∈ T0 := T0_of (i := 398) (by decide +kernel) rfl
theorem wd_399 : (Cond.instanceMethod yX3_becomeAsked) ∈ T0 := T0_of (i := 399) (by decide +kernel) rfl
theorem wd_400 : (Cond.selects RX3 yX3_becomeAsked yX3_becomeAsked) ∈ T0 := T0_of (i := 400) (by decide +kernel) rfl
theorem wc_yX3_becomeAsked : Cond.code yX3_becomeAsked cX3_becomeAsked 3 none ∈ T0 := T0_of (i := 401) (by decide +kernel) rfl
theorem wd_402 : (Cond.methodLink RL 18 yX5_thing) ∈ T0 := T0_of (i := 402) (by decide +kernel) rfl
theorem wd_403 : (Cond.instanceMethod yX5_thing) ∈ T0 := T0_of (i := 403) (by decide +kernel) rfl
theorem wd_404 : (Cond.selects RX5 yX5_thing yX5_thing) ∈ T0 := T0_of (i := 404) (by decide +kernel) rfl
theorem wc_yX5_thing : Cond.code yX5_thing cX5_thing 3 (some .int) ∈ T0 := T0_of (i := 405) (by decide +kernel) rfl
theorem wd_406 : (Cond.methodLink RX5 73 yX3_addThing) ∈ T0 := T0_of (i := 406) (by decide +kernel) rfl
theorem wd_407 : (Cond.instanceMethod yX3_addThing) ∈ T0 := T0_of (i := 407) (by decide +kernel) rfl
theorem wd_408 : (Cond.selects RX3 yX3_addThing yX3_addThing) ∈ T0 := T0_of (i := 408) (by decide +kernel) rfl
theorem wc_yX3_addThing : Cond.code yX3_addThing cX3_addThing 3 (some .int) ∈ T0 := T0_of (i := 409) (by decide +kernel) rfl
theorem wd_410 : (Cond.methodLink RL 23 yX5_neighbour) ∈ T0 := T0_of (i := 410) (by decide +kernel) rfl
theorem wd_411 : (Cond.instanceMethod yX5_neighbour) ∈ T0 := T0_of (i := 411) (by decide +kernel) rfl
theorem wd_412 : (Cond.selects RX5 yX5_neighbour yX5_neighbour) ∈ T0 := T0_of (i := 412) (by decide +kernel) rfl
theorem wc_yX5_neighbour : Cond.code yX5_neighbour cX5_neighbour 3 (some .int) ∈ T0 := T0_of (i := 413) (by decide +kernel) rfl
theorem wd_414 : (Cond.methodLink RX5 76 yX5_settle) ∈ T0 := T0_of (i := 414) (by decide +kernel) rfl
theorem wd_416 : (Cond.instanceMethod yX5_settle) ∈ T0 := T0_of (i := 416) (by decide +kernel) rfl
theorem wc_yX5_settle : Cond.code yX5_settle cX5_settle 3 (some .int) ∈ T0 := T0_of (i := 417) (by decide +kernel) rfl
theorem wd_418 : (Cond.methodLink RX5 79 yX3_addNeighbour) ∈ T0 := T0_of (i := 418) (by decide +kernel) rfl
theorem wd_419 : (Cond.instanceMethod yX3_addNeighbour) ∈ T0 := T0_of (i := 419) (by decide +kernel) rfl
theorem wd_420 : (Cond.selects RX3 yX3_addNeighbour yX3_addNeighbour) ∈ T0 := T0_of (i := 420) (by decide +kernel) rfl
theorem wc_yX3_addNeighbour : Cond.code yX3_addNeighbour cX3_addNeighbour 3 (some .int) ∈ T0 := T0_of (i := 421) (by decide +kernel) rfl
theorem wd_422 : (Cond.methodLink RL 27 yX5_told) ∈ T0 := T0_of (i := 422) (by decide +kernel) rfl
theorem wd_423 : (Cond.instanceMethod yX5_told) ∈ T0 := T0_of (i := 423) (by decide +kernel) rfl
theorem wd_424 : (Cond.selects RX5 yX5_told yX5_told) ∈ T0 := T0_of (i := 424) (by decide +kernel) rfl
theorem wc_yX5_told : Cond.code yX5_told cX5_told 3 (some .int) ∈ T0 := T0_of (i := 425) (by decide +kernel) rfl
theorem wd_426 : (Cond.methodLink RL 31 yX5_pays) ∈ T0 := T0_of (i := 426) (by decide +kernel) rfl
theorem wd_427 : (Cond.instanceMethod yX5_pays) ∈ T0 := T0_of (i := 427) (by decide +kernel) rfl
theorem wd_428 : (Cond.selects RX5 yX5_pays yX5_pays) ∈ T0 := T0_of (i := 428) (by decide +kernel) rfl
theorem wc_yX5_pays : Cond.code yX5_pays cX5_pays 3 (some .int) ∈ T0 := T0_of (i := 429) (by decide +kernel) rfl
theorem wd_430 : (Cond.methodLink RX5 82 yX3_hasNeighbour) ∈ T0 := T0_of (i := 430) (by decide +kernel) rfl
theorem wd_431 : (Cond.methodLink RX5 86 yX3_paying) ∈ T0 := T0_of (i := 431) (by decide +kernel) rfl
theorem wd_432 : (Cond.instanceMethod yX3_paying) ∈ T0 := T0_of (i := 432) (by decide +kernel) rfl
theorem wd_433 : (Cond.selects RX3 yX3_paying yX3_paying) ∈ T0 := T0_of (i := 433) (by decide +kernel) rfl
theorem wc_yX3_paying : Cond.code yX3_paying cX3_paying 4 (some .int) ∈ T0 := T0_of (i := 434) (by decide +kernel) rfl
theorem wd_435 : (Cond.methodLink RL 35 yX5_feed) ∈ T0 := T0_of (i := 435) (by decide +kernel) rfl
theorem wd_436 : (Cond.instanceMethod yX5_feed) ∈ T0 := T0_of (i := 436) (by decide +kernel) rfl
theorem wd_437 : (Cond.selects RX5 yX5_feed yX5_feed) ∈ T0 := T0_of (i := 437) (by decide +kernel) rfl
theorem wc_yX5_feed : Cond.code yX5_feed cX5_feed 2 (some .int) ∈ T0 := T0_of (i := 438) (by decide +kernel) rfl
theorem wd_439 : (Cond.methodLink RX5 89 yX1_append) ∈ T0 := T0_of (i := 439) (by decide +kernel) rfl
theorem wd_440 : (Cond.instanceMethod yX1_append) ∈ T0 := T0_of (i := 440) (by decide +kernel) rfl
theorem wd_441 : (Cond.selects RX1 yX1_append yX1_append) ∈ T0 := T0_of (i := 441) (by decide +kernel) rfl
theorem wc_yX1_append : Cond.code yX1_append cX1_append 2 (some .int) ∈ T0 := T0_of (i := 442) (by decide +kernel) rfl
theorem wd_443 : (Cond.methodLink RL 40 yX5_text) ∈ T0 := T0_of (i := 443) (by decide +kernel) rfl
theorem wd_444 : (Cond.instanceMethod yX5_text) ∈ T0 := T0_of (i := 444) (by decide +kernel) rfl
theorem wd_445 : (Cond.selects RX5 yX5_text yX5_text) ∈ T0 := T0_of (i := 445) (by decide +kernel) rfl
theorem wc_yX5_text : Cond.code yX5_text cX5_text 2 (some .int) ∈ T0 := T0_of (i := 446) (by decide +kernel) rfl
theorem wd_447 : (Cond.methodLink RX5 103 yX1_read) ∈ T0 := T0_of (i := 447) (by decide +kernel) rfl
theorem wd_448 : (Cond.instanceMethod yX1_read) ∈ T0 := T0_of (i := 448) (by decide +kernel) rfl
theorem wd_449 : (Cond.selects RX1 yX1_read yX1_read) ∈ T0 := T0_of (i := 449) (by decide +kernel) rfl
theorem wc_yX1_read : Cond.code yX1_read cX1_read 4 (some .int) ∈ T0 := T0_of (i := 450) (by decide +kernel) rfl
theorem wd_451 : (Cond.methodLink RX1 28 yX1_advance) ∈ T0 := T0_of (i := 451) (by decide +kernel) rfl
theorem wd_453 : (Cond.instanceMethod yX1_advance) ∈ T0 := T0_of (i := 453) (by decide +kernel) rfl
theorem wc_yX1_advance : Cond.code yX1_advance cX1_advance 1 none ∈ T0 := T0_of (i := 454) (by decide +kernel) rfl
theorem wd_455 : (Cond.methodLink RX1 71 yX1_isLetter) ∈ T0 := T0_of (i := 455) (by decide +kernel) rfl
theorem wd_456 : (Cond.static yX1_isLetter) ∈ T0 := T0_of (i := 456) (by decide +kernel) rfl
theorem wc_yX1_isLetter : Cond.code yX1_isLetter cX1_isLetter 1 (some .boolean) ∈ T0 := T0_of (i := 457) (by decide +kernel) rfl
theorem wd_458 : (Cond.methodLink RX1 75 yX1_wordFrom) ∈ T0 := T0_of (i := 458) (by decide +kernel) rfl
theorem wd_460 : (Cond.instanceMethod yX1_wordFrom) ∈ T0 := T0_of (i := 460) (by decide +kernel) rfl
theorem wc_yX1_wordFrom : Cond.code yX1_wordFrom cX1_wordFrom 6 (some .int) ∈ T0 := T0_of (i := 461) (by decide +kernel) rfl
theorem wd_463 : (Cond.methodLink RX1 90 yJ0_length_8abf5) ∈ T0 := T0_of (i := 463) (by decide +kernel) rfl
theorem wd_464 : (Cond.instanceMethod yJ0_length_8abf5) ∈ T0 := T0_of (i := 464) (by decide +kernel) rfl
theorem wd_465 : (Cond.selects RJ0 yJ0_length_8abf5 yJ0_length_8abf5) ∈ T0 := T0_of (i := 465) (by decide +kernel) rfl
theorem wc_yJ0_length_8abf5 : Cond.code yJ0_length_8abf5 cJ0_length_8abf5 1 (some .int) ∈ T0 := T0_of (i := 466) (by decide +kernel) rfl
theorem wd_467 : (Cond.methodLink RJ0 335 yJ0_coder_7d493) ∈ T0 := T0_of (i := 467) (by decide +kernel) rfl
theorem wd_468 : (Cond.instanceMethod yJ0_coder_7d493) ∈ T0 := T0_of (i := 468) (by decide +kernel) rfl
theorem wd_469 : (Cond.selects RJ0 yJ0_coder_7d493 yJ0_coder_7d493) ∈ T0 := T0_of (i := 469) (by decide +kernel) rfl
theorem wc_yJ0_coder_7d493 : Cond.code yJ0_coder_7d493 cJ0_coder_7d493 1 (some .byte) ∈ T0 := T0_of (i := 470) (by decide +kernel) rfl
theorem wd_471 : (Cond.fieldLink RJ0 38 "java/lang/String" "COMPACT_STRINGS" "Z") ∈ T0 := T0_of (i := 471) (by decide +kernel) rfl
theorem wd_473 : (Cond.methodLink RX1 96 yJ0_charAt_5068e) ∈ T0 := T0_of (i := 473) (by decide +kernel) rfl
theorem wd_474 : (Cond.instanceMethod yJ0_charAt_5068e) ∈ T0 := T0_of (i := 474) (by decide +kernel) rfl
theorem wd_475 : (Cond.selects RJ0 yJ0_charAt_5068e yJ0_charAt_5068e) ∈ T0 := T0_of (i := 475) (by decide +kernel) rfl
theorem wc_yJ0_charAt_5068e : Cond.code yJ0_charAt_5068e cJ0_charAt_5068e 2 (some .char) ∈ T0 := T0_of (i := 476) (by decide +kernel) rfl
theorem wd_477 : (Cond.methodLink RJ0 492 yJ0_isLatin1_aae02) ∈ T0 := T0_of (i := 477) (by decide +kernel) rfl
theorem wd_478 : (Cond.instanceMethod yJ0_isLatin1_aae02) ∈ T0 := T0_of (i := 478) (by decide +kernel) rfl
theorem wd_479 : (Cond.selects RJ0 yJ0_isLatin1_aae02 yJ0_isLatin1_aae02) ∈ T0 := T0_of (i := 479) (by decide +kernel) rfl
theorem wc_yJ0_isLatin1_aae02 : Cond.code yJ0_isLatin1_aae02 cJ0_isLatin1_aae02 1 (some .boolean) ∈ T0 := T0_of (i := 480) (by decide +kernel) rfl
theorem wd_481 : (Cond.methodLink RJ0 495 yJ1_charAt_3b067) ∈ T0 := T0_of (i := 481) (by decide +kernel) rfl
theorem wd_482 : (Cond.static yJ1_charAt_3b067) ∈ T0 := T0_of (i := 482) (by decide +kernel) rfl
theorem wc_yJ1_charAt_3b067 : Cond.code yJ1_charAt_3b067 cJ1_charAt_3b067 2 (some .char) ∈ T0 := T0_of (i := 483) (by decide +kernel) rfl
theorem wd_484 : (Cond.methodLink RJ1 9 yJ0_checkIndex_df160) ∈ T0 := T0_of (i := 484) (by decide +kernel) rfl
theorem wd_485 : (Cond.static yJ0_checkIndex_df160) ∈ T0 := T0_of (i := 485) (by decide +kernel) rfl
theorem wc_yJ0_checkIndex_df160 : Cond.code yJ0_checkIndex_df160 cJ0_checkIndex_df160 2 none ∈ T0 := T0_of (i := 486) (by decide +kernel) rfl
theorem wd_487 : (Cond.fieldLink RJ0 1053 "jdk/internal/util/Preconditions" "SIOOBE_FORMATTER" "Ljava/util/function/BiFunction;") ∈ T0 := T0_of (i := 487) (by decide +kernel) rfl
theorem wd_489 : (Cond.methodLink RJ0 1059 yJ3_checkIndex_8e157) ∈ T0 := T0_of (i := 489) (by decide +kernel) rfl
theorem wd_490 : (Cond.static yJ3_checkIndex_8e157) ∈ T0 := T0_of (i := 490) (by decide +kernel) rfl
theorem wc_yJ3_checkIndex_8e157 : Cond.code yJ3_checkIndex_8e157 cJ3_checkIndex_8e157 3 (some .int) ∈ T0 := T0_of (i := 491) (by decide +kernel) rfl
theorem wd_492 : (Cond.methodLink RJ0 498 yJ2_charAt_3b067) ∈ T0 := T0_of (i := 492) (by decide +kernel) rfl
theorem wd_493 : (Cond.static yJ2_charAt_3b067) ∈ T0 := T0_of (i := 493) (by decide +kernel) rfl
theorem wc_yJ2_charAt_3b067 : Cond.code yJ2_charAt_3b067 cJ2_charAt_3b067 2 (some .char) ∈ T0 := T0_of (i := 494) (by decide +kernel) rfl
theorem wd_495 : (Cond.methodLink RJ2 67 yJ2_checkIndex_2214a) ∈ T0 := T0_of (i := 495) (by decide +kernel) rfl
theorem wd_496 : (Cond.static yJ2_checkIndex_2214a) ∈ T0 := T0_of (i := 496) (by decide +kernel) rfl
theorem wc_yJ2_checkIndex_2214a : Cond.code yJ2_checkIndex_2214a cJ2_checkIndex_2214a 2 none ∈ T0 := T0_of (i := 497) (by decide +kernel) rfl
theorem wd_498 : (Cond.methodLink RJ2 48 yJ2_length_9d52b) ∈ T0 := T0_of (i := 498) (by decide +kernel) rfl
theorem wd_499 : (Cond.static yJ2_length_9d52b) ∈ T0 := T0_of (i := 499) (by decide +kernel) rfl
theorem wc_yJ2_length_9d52b : Cond.code yJ2_length_9d52b cJ2_length_9d52b 1 (some .int) ∈ T0 := T0_of (i := 500) (by decide +kernel) rfl
theorem wd_501 : (Cond.methodLink RJ2 414 yJ0_checkIndex_df160) ∈ T0 := T0_of (i := 501) (by decide +kernel) rfl
theorem wd_502 : (Cond.methodLink RJ2 71 yJ2_getChar_3b067) ∈ T0 := T0_of (i := 502) (by decide +kernel) rfl
theorem wd_503 : (Cond.static yJ2_getChar_3b067) ∈ T0 := T0_of (i := 503) (by decide +kernel) rfl
theorem wc_yJ2_getChar_3b067 : Cond.code yJ2_getChar_3b067 cJ2_getChar_3b067 2 (some .char) ∈ T0 := T0_of (i := 504) (by decide +kernel) rfl
theorem wd_505 : (Cond.fieldLink RJ2 44 "java/lang/StringUTF16" "$assertionsDisabled" "Z") ∈ T0 := T0_of (i := 505) (by decide +kernel) rfl
theorem wd_507 : (Cond.fieldLink RJ2 59 "java/lang/StringUTF16" "HI_BYTE_SHIFT" "I") ∈ T0 := T0_of (i := 507) (by decide +kernel) rfl
theorem wd_509 : (Cond.fieldLink RJ2 63 "java/lang/StringUTF16" "LO_BYTE_SHIFT" "I") ∈ T0 := T0_of (i := 509) (by decide +kernel) rfl
theorem wd_511 : (Cond.methodLink RX1 100 yX1_isAlike) ∈ T0 := T0_of (i := 511) (by decide +kernel) rfl
theorem wd_513 : (Cond.instanceMethod yX1_isAlike) ∈ T0 := T0_of (i := 513) (by decide +kernel) rfl
theorem wc_yX1_isAlike : Cond.code yX1_isAlike cX1_isAlike 5 (some .boolean) ∈ T0 := T0_of (i := 514) (by decide +kernel) rfl
theorem wd_515 : (Cond.methodLink RX1 79 yX1_isDigit) ∈ T0 := T0_of (i := 515) (by decide +kernel) rfl
theorem wd_516 : (Cond.static yX1_isDigit) ∈ T0 := T0_of (i := 516) (by decide +kernel) rfl
theorem wc_yX1_isDigit : Cond.code yX1_isDigit cX1_isDigit 1 (some .boolean) ∈ T0 := T0_of (i := 517) (by decide +kernel) rfl
theorem wd_518 : (Cond.methodLink RX1 82 yX1_readNumber) ∈ T0 := T0_of (i := 518) (by decide +kernel) rfl
theorem wd_520 : (Cond.instanceMethod yX1_readNumber) ∈ T0 := T0_of (i := 520) (by decide +kernel) rfl
theorem wc_yX1_readNumber : Cond.code yX1_readNumber cX1_readNumber 1 none ∈ T0 := T0_of (i := 521) (by decide +kernel) rfl
theorem wd_522 : (Cond.methodLink RX1 85 yX1_isSign) ∈ T0 := T0_of (i := 522) (by decide +kernel) rfl
theorem wd_523 : (Cond.static yX1_isSign) ∈ T0 := T0_of (i := 523) (by decide +kernel) rfl
theorem wc_yX1_isSign : Cond.code yX1_isSign cX1_isSign 1 (some .boolean) ∈ T0 := T0_of (i := 524) (by decide +kernel) rfl
theorem wd_525 : (Cond.methodLink RX1 31 yX1_expect) ∈ T0 := T0_of (i := 525) (by decide +kernel) rfl
theorem wd_527 : (Cond.instanceMethod yX1_expect) ∈ T0 := T0_of (i := 527) (by decide +kernel) rfl
theorem wc_yX1_expect : Cond.code yX1_expect cX1_expect 2 none ∈ T0 := T0_of (i := 528) (by decide +kernel) rfl
theorem wd_529 : (Cond.methodLink RX1 42 yX1_fail) ∈ T0 := T0_of (i := 529) (by decide +kernel) rfl
theorem wd_531 : (Cond.instanceMethod yX1_fail) ∈ T0 := T0_of (i := 531) (by decide +kernel) rfl
theorem wc_yX1_fail : Cond.code yX1_fail cX1_fail 1 none ∈ T0 := T0_of (i := 532) (by decide +kernel) rfl
theorem wd_533 : (Cond.methodLink RX1 35 yX1_readRank) ∈ T0 := T0_of (i := 533) (by decide +kernel) rfl
theorem wd_535 : (Cond.instanceMethod yX1_readRank) ∈ T0 := T0_of (i := 535) (by decide +kernel) rfl
theorem wc_yX1_readRank : Cond.code yX1_readRank cX1_readRank 4 none ∈ T0 := T0_of (i := 536) (by decide +kernel) rfl
theorem wd_537 : (Cond.methodLink RX1 48 yX1_readOne) ∈ T0 := T0_of (i := 537) (by decide +kernel) rfl
theorem wd_539 : (Cond.instanceMethod yX1_readOne) ∈ T0 := T0_of (i := 539) (by decide +kernel) rfl
theorem wc_yX1_readOne : Cond.code yX1_readOne cX1_readOne 3 none ∈ T0 := T0_of (i := 540) (by decide +kernel) rfl
theorem wd_541 : (Cond.methodLink RX1 63 yX1_put) ∈ T0 := T0_of (i := 541) (by decide +kernel) rfl
theorem wd_543 : (Cond.instanceMethod yX1_put) ∈ T0 := T0_of (i := 543) (by decide +kernel) rfl
theorem wc_yX1_put : Cond.code yX1_put cX1_put 3 none ∈ T0 := T0_of (i := 544) (by decide +kernel) rfl
theorem wd_545 : (Cond.methodLink RX1 52 yX1_readBehind) ∈ T0 := T0_of (i := 545) (by decide +kernel) rfl
theorem wd_547 : (Cond.instanceMethod yX1_readBehind) ∈ T0 := T0_of (i := 547) (by decide +kernel) rfl
theorem wc_yX1_readBehind : Cond.code yX1_readBehind cX1_readBehind 5 none ∈ T0 := T0_of (i := 548) (by decide +kernel) rfl
theorem wd_549 : (Cond.methodLink RX1 56 yX1_readJoined) ∈ T0 := T0_of (i := 549) (by decide +kernel) rfl
theorem wd_551 : (Cond.instanceMethod yX1_readJoined) ∈ T0 := T0_of (i := 551) (by decide +kernel) rfl
theorem wc_yX1_readJoined : Cond.code yX1_readJoined cX1_readJoined 7 none ∈ T0 := T0_of (i := 552) (by decide +kernel) rfl
theorem wd_553 : (Cond.methodLink RX1 59 yX1_rankOf) ∈ T0 := T0_of (i := 553) (by decide +kernel) rfl
theorem wd_554 : (Cond.static yX1_rankOf) ∈ T0 := T0_of (i := 554) (by decide +kernel) rfl
theorem wc_yX1_rankOf : Cond.code yX1_rankOf cX1_rankOf 1 (some .int) ∈ T0 := T0_of (i := 555) (by decide +kernel) rfl
theorem wd_556 : (Cond.arrayClass .byte) ∈ T0 := T0_of (i := 556) (by decide +kernel) rfl
theorem wd_557 : (Cond.methodLink RL 45 yX5_force) ∈ T0 := T0_of (i := 557) (by decide +kernel) rfl
theorem wd_558 : (Cond.instanceMethod yX5_force) ∈ T0 := T0_of (i := 558) (by decide +kernel) rfl
theorem wd_559 : (Cond.selects RX5 yX5_force yX5_force) ∈ T0 := T0_of (i := 559) (by decide +kernel) rfl
theorem wc_yX5_force : Cond.code yX5_force cX5_force 3 (some .int) ∈ T0 := T0_of (i := 560) (by decide +kernel) rfl
theorem wd_561 : (Cond.methodLink RL 49 yX5_night) ∈ T0 := T0_of (i := 561) (by decide +kernel) rfl
theorem wd_562 : (Cond.instanceMethod yX5_night) ∈ T0 := T0_of (i := 562) (by decide +kernel) rfl
theorem wd_563 : (Cond.selects RX5 yX5_night yX5_night) ∈ T0 := T0_of (i := 563) (by decide +kernel) rfl
theorem wc_yX5_night : Cond.code yX5_night cX5_night 2 (some .int) ∈ T0 := T0_of (i := 564) (by decide +kernel) rfl
theorem wd_565 : (Cond.methodLink RX5 114 yX3_pass) ∈ T0 := T0_of (i := 565) (by decide +kernel) rfl
theorem wd_566 : (Cond.instanceMethod yX3_pass) ∈ T0 := T0_of (i := 566) (by decide +kernel) rfl
theorem wd_567 : (Cond.selects RX3 yX3_pass yX3_pass) ∈ T0 := T0_of (i := 567) (by decide +kernel) rfl
theorem wc_yX3_pass : Cond.code yX3_pass cX3_pass 7 (some .int) ∈ T0 := T0_of (i := 568) (by decide +kernel) rfl
theorem wd_569 : (Cond.methodLink RX3 113 yX3_putReadyIn) ∈ T0 := T0_of (i := 569) (by decide +kernel) rfl
theorem wd_571 : (Cond.instanceMethod yX3_putReadyIn) ∈ T0 := T0_of (i := 571) (by decide +kernel) rfl
theorem wc_yX3_putReadyIn : Cond.code yX3_putReadyIn cX3_putReadyIn 2 none ∈ T0 := T0_of (i := 572) (by decide +kernel) rfl
theorem wd_573 : (Cond.methodLink RX3 122 yX3_takes) ∈ T0 := T0_of (i := 573) (by decide +kernel) rfl
theorem wd_574 : (Cond.instanceMethod yX3_takes) ∈ T0 := T0_of (i := 574) (by decide +kernel) rfl
theorem wd_575 : (Cond.selects RX3 yX3_takes yX3_takes) ∈ T0 := T0_of (i := 575) (by decide +kernel) rfl
theorem wc_yX3_takes : Cond.code yX3_takes cX3_takes 2 (some .boolean) ∈ T0 := T0_of (i := 576) (by decide +kernel) rfl
theorem wd_577 : (Cond.methodLink RX3 125 yX3_putIn) ∈ T0 := T0_of (i := 577) (by decide +kernel) rfl
theorem wd_578 : (Cond.instanceMethod yX3_putIn) ∈ T0 := T0_of (i := 578) (by decide +kernel) rfl
theorem wd_579 : (Cond.selects RX3 yX3_putIn yX3_putIn) ∈ T0 := T0_of (i := 579) (by decide +kernel) rfl
theorem wc_yX3_putIn : Cond.code yX3_putIn cX3_putIn 2 none ∈ T0 := T0_of (i := 580) (by decide +kernel) rfl
theorem wd_581 : (Cond.methodLink RX3 119 yX3_paying) ∈ T0 := T0_of (i := 581) (by decide +kernel) rfl
theorem wd_582 : (Cond.methodLink RL 53 yX5_load) ∈ T0 := T0_of (i := 582) (by decide +kernel) rfl
theorem wd_583 : (Cond.instanceMethod yX5_load) ∈ T0 := T0_of (i := 583) (by decide +kernel) rfl
theorem wd_584 : (Cond.selects RX5 yX5_load yX5_load) ∈ T0 := T0_of (i := 584) (by decide +kernel) rfl
theorem wc_yX5_load : Cond.code yX5_load cX5_load 2 (some .int) ∈ T0 := T0_of (i := 585) (by decide +kernel) rfl
theorem wd_586 : (Cond.methodLink RX5 118 yX3_hasThing) ∈ T0 := T0_of (i := 586) (by decide +kernel) rfl
theorem wd_587 : (Cond.methodLink RX5 121 yX3_takes) ∈ T0 := T0_of (i := 587) (by decide +kernel) rfl
theorem wd_588 : (Cond.methodLink RX5 124 yX3_putIn) ∈ T0 := T0_of (i := 588) (by decide +kernel) rfl
theorem wd_589 : (Cond.methodLink RX5 128 yX3_room) ∈ T0 := T0_of (i := 589) (by decide +kernel) rfl
theorem wd_590 : (Cond.methodLink RL 57 yX5_run) ∈ T0 := T0_of (i := 590) (by decide +kernel) rfl
theorem wd_591 : (Cond.instanceMethod yX5_run) ∈ T0 := T0_of (i := 591) (by decide +kernel) rfl
theorem wd_592 : (Cond.selects RX5 yX5_run yX5_run) ∈ T0 := T0_of (i := 592) (by decide +kernel) rfl
theorem wc_yX5_run : Cond.code yX5_run cX5_run 6 (some .int) ∈ T0 := T0_of (i := 593) (by decide +kernel) rfl
theorem wd_594 : (Cond.constant RX5 132 (1073741823)) ∈ T0 := T0_of (i := 594) (by decide +kernel) rfl
theorem wd_595 : (Cond.methodLink RX5 133 yX3_becomeAs) ∈ T0 := T0_of (i := 595) (by decide +kernel) rfl
theorem wd_596 : (Cond.instanceMethod yX3_becomeAs) ∈ T0 := T0_of (i := 596) (by decide +kernel) rfl
theorem wd_597 : (Cond.selects RX3 yX3_becomeAs yX3_becomeAs) ∈ T0 := T0_of (i := 597) (by decide +kernel) rfl
theorem wc_yX3_becomeAs : Cond.code yX3_becomeAs cX3_becomeAs 2 none ∈ T0 := T0_of (i := 598) (by decide +kernel) rfl
theorem wd_599 : (Cond.methodLink RX3 32 ⟨"java/lang/System", "arraycopy", "(Ljava/lang/Object;ILjava/lang/Object;II)V"⟩) ∈ T0 := T0_of (i := 599) (by decide +kernel) rfl
theorem wd_600 : (Cond.static ⟨"java/lang/System", "arraycopy", "(Ljava/lang/Object;ILjava/lang/Object;II)V"⟩) ∈ T0 := T0_of (i := 600) (by decide +kernel) rfl
theorem wd_601 : (Cond.native ⟨"java/lang/System", "arraycopy", "(Ljava/lang/Object;ILjava/lang/Object;II)V"⟩) ∈ T0 := T0_of (i := 601) (by decide +kernel) rfl
theorem wd_602 : (Cond.methodLink RX5 137 yX3_passAll) ∈ T0 := T0_of (i := 602) (by decide +kernel) rfl
theorem wd_603 : (Cond.instanceMethod yX3_passAll) ∈ T0 := T0_of (i := 603) (by decide +kernel) rfl
theorem wd_604 : (Cond.selects RX3 yX3_passAll yX3_passAll) ∈ T0 := T0_of (i := 604) (by decide +kernel) rfl
theorem wc_yX3_passAll : Cond.code yX3_passAll cX3_passAll 5 (some .int) ∈ T0 := T0_of (i := 605) (by decide +kernel) rfl
theorem wd_606 : (Cond.methodLink RX3 109 yX3_pass) ∈ T0 := T0_of (i := 606) (by decide +kernel) rfl
theorem wd_607 : (Cond.methodLink RX5 140 yX3_full) ∈ T0 := T0_of (i := 607) (by decide +kernel) rfl
theorem wd_608 : (Cond.methodLink RX5 149 yX3_left) ∈ T0 := T0_of (i := 608) (by decide +kernel) rfl
theorem wd_609 : (Cond.methodLink RL 61 yX5_cover) ∈ T0 := T0_of (i := 609) (by decide +kernel) rfl
theorem wd_610 : (Cond.instanceMethod yX5_cover) ∈ T0 := T0_of (i := 610) (by decide +kernel) rfl
theorem wd_611 : (Cond.selects RX5 yX5_cover yX5_cover) ∈ T0 := T0_of (i := 611) (by decide +kernel) rfl
theorem wc_yX5_cover : Cond.code yX5_cover cX5_cover 3 (some .int) ∈ T0 := T0_of (i := 612) (by decide +kernel) rfl
theorem wd_613 : (Cond.methodLink RX5 155 yX0_begin) ∈ T0 := T0_of (i := 613) (by decide +kernel) rfl
theorem wd_614 : (Cond.instanceMethod yX0_begin) ∈ T0 := T0_of (i := 614) (by decide +kernel) rfl
theorem wd_615 : (Cond.selects RX0 yX0_begin yX0_begin) ∈ T0 := T0_of (i := 615) (by decide +kernel) rfl
theorem wc_yX0_begin : Cond.code yX0_begin cX0_begin 1 none ∈ T0 := T0_of (i := 616) (by decide +kernel) rfl
theorem wd_617 : (Cond.methodLink RX5 158 yX5_tryCovers) ∈ T0 := T0_of (i := 617) (by decide +kernel) rfl
theorem wd_619 : (Cond.instanceMethod yX5_tryCovers) ∈ T0 := T0_of (i := 619) (by decide +kernel) rfl
theorem wc_yX5_tryCovers : Cond.code yX5_tryCovers cX5_tryCovers 6 none ∈ T0 := T0_of (i := 620) (by decide +kernel) rfl
theorem wd_621 : (Cond.methodLink RX5 167 yJ6_bitCount_0f7a4) ∈ T0 := T0_of (i := 621) (by decide +kernel) rfl
theorem wd_622 : (Cond.static yJ6_bitCount_0f7a4) ∈ T0 := T0_of (i := 622) (by decide +kernel) rfl
theorem wc_yJ6_bitCount_0f7a4 : Cond.code yJ6_bitCount_0f7a4 cJ6_bitCount_0f7a4 1 (some .int) ∈ T0 := T0_of (i := 623) (by decide +kernel) rfl
theorem wd_624 : (Cond.constant RJ6 265 (1431655765)) ∈ T0 := T0_of (i := 624) (by decide +kernel) rfl
theorem wd_625 : (Cond.constant RJ6 266 (858993459)) ∈ T0 := T0_of (i := 625) (by decide +kernel) rfl
theorem wd_626 : (Cond.constant RJ6 267 (252645135)) ∈ T0 := T0_of (i := 626) (by decide +kernel) rfl
theorem wd_627 : (Cond.methodLink RX5 172 yX0_offer) ∈ T0 := T0_of (i := 627) (by decide +kernel) rfl
theorem wd_628 : (Cond.instanceMethod yX0_offer) ∈ T0 := T0_of (i := 628) (by decide +kernel) rfl
theorem wd_629 : (Cond.selects RX0 yX0_offer yX0_offer) ∈ T0 := T0_of (i := 629) (by decide +kernel) rfl
theorem wc_yX0_offer : Cond.code yX0_offer cX0_offer 4 none ∈ T0 := T0_of (i := 630) (by decide +kernel) rfl
theorem wd_631 : (Cond.methodLink RX0 21 yX0_isLess) ∈ T0 := T0_of (i := 631) (by decide +kernel) rfl
theorem wd_633 : (Cond.instanceMethod yX0_isLess) ∈ T0 := T0_of (i := 633) (by decide +kernel) rfl
theorem wc_yX0_isLess : Cond.code yX0_isLess cX0_isLess 4 (some .boolean) ∈ T0 := T0_of (i := 634) (by decide +kernel) rfl
theorem wd_635 : (Cond.methodLink RL 65 yX5_ask) ∈ T0 := T0_of (i := 635) (by decide +kernel) rfl
theorem wd_636 : (Cond.instanceMethod yX5_ask) ∈ T0 := T0_of (i := 636) (by decide +kernel) rfl
theorem wd_637 : (Cond.selects RX5 yX5_ask yX5_ask) ∈ T0 := T0_of (i := 637) (by decide +kernel) rfl
theorem wc_yX5_ask : Cond.code yX5_ask cX5_ask 6 (some .int) ∈ T0 := T0_of (i := 638) (by decide +kernel) rfl
theorem wd_639 : (Cond.methodLink RL 69 yX5_best) ∈ T0 := T0_of (i := 639) (by decide +kernel) rfl
theorem wd_640 : (Cond.instanceMethod yX5_best) ∈ T0 := T0_of (i := 640) (by decide +kernel) rfl
theorem wd_641 : (Cond.selects RX5 yX5_best yX5_best) ∈ T0 := T0_of (i := 641) (by decide +kernel) rfl
theorem wc_yX5_best : Cond.code yX5_best cX5_best 2 (some .int) ∈ T0 := T0_of (i := 642) (by decide +kernel) rfl
theorem wd_643 : (Cond.methodLink RX5 184 yX5_tryPacks) ∈ T0 := T0_of (i := 643) (by decide +kernel) rfl
theorem wd_645 : (Cond.instanceMethod yX5_tryPacks) ∈ T0 := T0_of (i := 645) (by decide +kernel) rfl
theorem wc_yX5_tryPacks : Cond.code yX5_tryPacks cX5_tryPacks 4 none ∈ T0 := T0_of (i := 646) (by decide +kernel) rfl
theorem wd_647 : (Cond.methodLink RX5 196 yX3_bulkOf) ∈ T0 := T0_of (i := 647) (by decide +kernel) rfl
theorem wd_648 : (Cond.methodLink RX5 187 yX5_tryDelays) ∈ T0 := T0_of (i := 648) (by decide +kernel) rfl
theorem wd_650 : (Cond.instanceMethod yX5_tryDelays) ∈ T0 := T0_of (i := 650) (by decide +kernel) rfl
theorem wc_yX5_tryDelays : Cond.code yX5_tryDelays cX5_tryDelays 3 none ∈ T0 := T0_of (i := 651) (by decide +kernel) rfl
theorem wd_652 : (Cond.methodLink RX5 190 yX5_tryThrowers) ∈ T0 := T0_of (i := 652) (by decide +kernel) rfl
theorem wd_654 : (Cond.instanceMethod yX5_tryThrowers) ∈ T0 := T0_of (i := 654) (by decide +kernel) rfl
theorem wc_yX5_tryThrowers : Cond.code yX5_tryThrowers cX5_tryThrowers 2 none ∈ T0 := T0_of (i := 655) (by decide +kernel) rfl
theorem wd_656 : (Cond.methodLink RX5 199 yX3_throwing) ∈ T0 := T0_of (i := 656) (by decide +kernel) rfl
theorem wd_657 : (Cond.methodLink RL 73 yX5_share) ∈ T0 := T0_of (i := 657) (by decide +kernel) rfl
theorem wd_658 : (Cond.instanceMethod yX5_share) ∈ T0 := T0_of (i := 658) (by decide +kernel) rfl
theorem wd_659 : (Cond.selects RX5 yX5_share yX5_share) ∈ T0 := T0_of (i := 659) (by decide +kernel) rfl
theorem wc_yX5_share : Cond.code yX5_share cX5_share 2 (some .long) ∈ T0 := T0_of (i := 660) (by decide +kernel) rfl
theorem wd_661 : (Cond.constantLong RX5 203 (-4611686018427387904)) ∈ T0 := T0_of (i := 661) (by decide +kernel) rfl
theorem wd_662 : (Cond.methodLink RX5 205 yX5_lowest) ∈ T0 := T0_of (i := 662) (by decide +kernel) rfl
theorem wd_663 : (Cond.static yX5_lowest) ∈ T0 := T0_of (i := 663) (by decide +kernel) rfl
theorem wc_yX5_lowest : Cond.code yX5_lowest cX5_lowest 4 (some .long) ∈ T0 := T0_of (i := 664) (by decide +kernel) rfl
theorem wd_665 : (Cond.methodLink RX5 209 yX5_commonDivisor) ∈ T0 := T0_of (i := 665) (by decide +kernel) rfl
theorem wd_666 : (Cond.static yX5_commonDivisor) ∈ T0 := T0_of (i := 666) (by decide +kernel) rfl
theorem wc_yX5_commonDivisor : Cond.code yX5_commonDivisor cX5_commonDivisor 4 (some .int) ∈ T0 := T0_of (i := 667) (by decide +kernel) rfl
theorem wd_668 : (Cond.methodLink RL 78 yX5_tells) ∈ T0 := T0_of (i := 668) (by decide +kernel) rfl
theorem wd_669 : (Cond.instanceMethod yX5_tells) ∈ T0 := T0_of (i := 669) (by decide +kernel) rfl
theorem wd_670 : (Cond.selects RX5 yX5_tells yX5_tells) ∈ T0 := T0_of (i := 670) (by decide +kernel) rfl
theorem wc_yX5_tells : Cond.code yX5_tells cX5_tells 5 (some .int) ∈ T0 := T0_of (i := 671) (by decide +kernel) rfl
theorem wd_672 : (Cond.methodLink RX5 212 yX5_sheetAt) ∈ T0 := T0_of (i := 672) (by decide +kernel) rfl
theorem wd_674 : (Cond.instanceMethod yX5_sheetAt) ∈ T0 := T0_of (i := 674) (by decide +kernel) rfl
theorem wc_yX5_sheetAt : Cond.code yX5_sheetAt cX5_sheetAt 2 (some (.object "SkipOfEightYards$Sheet")) ∈ T0 := T0_of (i := 675) (by decide +kernel) rfl
theorem wd_676 : (Cond.methodLink RX5 216 yX2_isMissing) ∈ T0 := T0_of (i := 676) (by decide +kernel) rfl
theorem wd_677 : (Cond.instanceMethod yX2_isMissing) ∈ T0 := T0_of (i := 677) (by decide +kernel) rfl
theorem wd_678 : (Cond.selects RX2 yX2_isMissing yX2_isMissing) ∈ T0 := T0_of (i := 678) (by decide +kernel) rfl
theorem wc_yX2_isMissing : Cond.code yX2_isMissing cX2_isMissing 1 (some .boolean) ∈ T0 := T0_of (i := 679) (by decide +kernel) rfl
theorem wd_680 : (Cond.methodLink RX5 221 yX5_firstOtherwise) ∈ T0 := T0_of (i := 680) (by decide +kernel) rfl
theorem wd_682 : (Cond.instanceMethod yX5_firstOtherwise) ∈ T0 := T0_of (i := 682) (by decide +kernel) rfl
theorem wc_yX5_firstOtherwise : Cond.code yX5_firstOtherwise cX5_firstOtherwise 5 (some .int) ∈ T0 := T0_of (i := 683) (by decide +kernel) rfl
theorem wd_684 : (Cond.methodLink RX5 225 yX5_fittingBits) ∈ T0 := T0_of (i := 684) (by decide +kernel) rfl
theorem wd_686 : (Cond.instanceMethod yX5_fittingBits) ∈ T0 := T0_of (i := 686) (by decide +kernel) rfl
theorem wc_yX5_fittingBits : Cond.code yX5_fittingBits cX5_fittingBits 7 (some .int) ∈ T0 := T0_of (i := 687) (by decide +kernel) rfl
theorem wd_688 : (Cond.methodLink RX5 249 yX5_fits) ∈ T0 := T0_of (i := 688) (by decide +kernel) rfl
theorem wd_690 : (Cond.instanceMethod yX5_fits) ∈ T0 := T0_of (i := 690) (by decide +kernel) rfl
theorem wc_yX5_fits : Cond.code yX5_fits cX5_fits 7 (some .boolean) ∈ T0 := T0_of (i := 691) (by decide +kernel) rfl
theorem wd_692 : (Cond.methodLink RX5 245 yX3_becomeAsked) ∈ T0 := T0_of (i := 692) (by decide +kernel) rfl
theorem wd_693 : (Cond.methodLink RX5 229 yX5_fittingMines) ∈ T0 := T0_of (i := 693) (by decide +kernel) rfl
theorem wd_695 : (Cond.instanceMethod yX5_fittingMines) ∈ T0 := T0_of (i := 695) (by decide +kernel) rfl
theorem wc_yX5_fittingMines : Cond.code yX5_fittingMines cX5_fittingMines 5 (some .int) ∈ T0 := T0_of (i := 696) (by decide +kernel) rfl
theorem wd_697 : (Cond.methodLink RX5 232 yX5_leastFittingMine) ∈ T0 := T0_of (i := 697) (by decide +kernel) rfl
theorem wd_699 : (Cond.instanceMethod yX5_leastFittingMine) ∈ T0 := T0_of (i := 699) (by decide +kernel) rfl
theorem wc_yX5_leastFittingMine : Cond.code yX5_leastFittingMine cX5_leastFittingMine 4 (some .int) ∈ T0 := T0_of (i := 700) (by decide +kernel) rfl
theorem wd_701 : (Cond.methodLink RL 82 yX5_film) ∈ T0 := T0_of (i := 701) (by decide +kernel) rfl
theorem wd_702 : (Cond.instanceMethod yX5_film) ∈ T0 := T0_of (i := 702) (by decide +kernel) rfl
theorem wd_703 : (Cond.selects RX5 yX5_film yX5_film) ∈ T0 := T0_of (i := 703) (by decide +kernel) rfl
theorem wc_yX5_film : Cond.code yX5_film cX5_film 7 (some .int) ∈ T0 := T0_of (i := 704) (by decide +kernel) rfl
theorem wd_705 : (Cond.methodLink RX5 253 yX2_become) ∈ T0 := T0_of (i := 705) (by decide +kernel) rfl
theorem wd_706 : (Cond.instanceMethod yX2_become) ∈ T0 := T0_of (i := 706) (by decide +kernel) rfl
theorem wd_707 : (Cond.selects RX2 yX2_become yX2_become) ∈ T0 := T0_of (i := 707) (by decide +kernel) rfl
theorem wc_yX2_become : Cond.code yX2_become cX2_become 4 none ∈ T0 := T0_of (i := 708) (by decide +kernel) rfl
theorem wd_709 : (Cond.methodLink RX2 19 yJ9_min_7cf53) ∈ T0 := T0_of (i := 709) (by decide +kernel) rfl
theorem wd_710 : (Cond.methodLink RX5 255 yX2_put) ∈ T0 := T0_of (i := 710) (by decide +kernel) rfl
theorem wd_711 : (Cond.instanceMethod yX2_put) ∈ T0 := T0_of (i := 711) (by decide +kernel) rfl
theorem wd_712 : (Cond.selects RX2 yX2_put yX2_put) ∈ T0 := T0_of (i := 712) (by decide +kernel) rfl
theorem wc_yX2_put : Cond.code yX2_put cX2_put 3 none ∈ T0 := T0_of (i := 713) (by decide +kernel) rfl
theorem wd_714 : (Cond.methodLink RX2 28 yX2_has) ∈ T0 := T0_of (i := 714) (by decide +kernel) rfl
theorem wd_715 : (Cond.instanceMethod yX2_has) ∈ T0 := T0_of (i := 715) (by decide +kernel) rfl
theorem wd_716 : (Cond.selects RX2 yX2_has yX2_has) ∈ T0 := T0_of (i := 716) (by decide +kernel) rfl
theorem wc_yX2_has : Cond.code yX2_has cX2_has 2 (some .boolean) ∈ T0 := T0_of (i := 717) (by decide +kernel) rfl
theorem wd_718 : (Cond.methodLink RL 86 yX5_drawn) ∈ T0 := T0_of (i := 718) (by decide +kernel) rfl
theorem wd_719 : (Cond.instanceMethod yX5_drawn) ∈ T0 := T0_of (i := 719) (by decide +kernel) rfl
theorem wd_720 : (Cond.selects RX5 yX5_drawn yX5_drawn) ∈ T0 := T0_of (i := 720) (by decide +kernel) rfl
theorem wc_yX5_drawn : Cond.code yX5_drawn cX5_drawn 3 (some .int) ∈ T0 := T0_of (i := 721) (by decide +kernel) rfl
theorem wd_722 : (Cond.methodLink RX5 258 yX5_leftDrawn) ∈ T0 := T0_of (i := 722) (by decide +kernel) rfl
theorem wd_724 : (Cond.instanceMethod yX5_leftDrawn) ∈ T0 := T0_of (i := 724) (by decide +kernel) rfl
theorem wc_yX5_leftDrawn : Cond.code yX5_leftDrawn cX5_leftDrawn 6 (some .int) ∈ T0 := T0_of (i := 725) (by decide +kernel) rfl
theorem wd_726 : (Cond.constant RX5 261 (1103515245)) ∈ T0 := T0_of (i := 726) (by decide +kernel) rfl
theorem wd_727 : (Cond.methodLink RL 90 yX5_chance) ∈ T0 := T0_of (i := 727) (by decide +kernel) rfl
theorem wd_728 : (Cond.instanceMethod yX5_chance) ∈ T0 := T0_of (i := 728) (by decide +kernel) rfl
theorem wd_729 : (Cond.selects RX5 yX5_chance yX5_chance) ∈ T0 := T0_of (i := 729) (by decide +kernel) rfl
theorem wc_yX5_chance : Cond.code yX5_chance cX5_chance 7 (some .long) ∈ T0 := T0_of (i := 730) (by decide +kernel) rfl
theorem wd_731 : (Cond.methodLink RL 95 yX5_image) ∈ T0 := T0_of (i := 731) (by decide +kernel) rfl
theorem wd_732 : (Cond.instanceMethod yX5_image) ∈ T0 := T0_of (i := 732) (by decide +kernel) rfl
theorem wd_733 : (Cond.selects RX5 yX5_image yX5_image) ∈ T0 := T0_of (i := 733) (by decide +kernel) rfl
theorem wc_yX5_image : Cond.code yX5_image cX5_image 1 (some .int) ∈ T0 := T0_of (i := 734) (by decide +kernel) rfl
theorem wd_735 : (Cond.methodLink RL 99 yX5_back) ∈ T0 := T0_of (i := 735) (by decide +kernel) rfl
theorem wd_736 : (Cond.instanceMethod yX5_back) ∈ T0 := T0_of (i := 736) (by decide +kernel) rfl
theorem wd_737 : (Cond.selects RX5 yX5_back yX5_back) ∈ T0 := T0_of (i := 737) (by decide +kernel) rfl
theorem wc_yX5_back : Cond.code yX5_back cX5_back 1 (some .int) ∈ T0 := T0_of (i := 738) (by decide +kernel) rfl
theorem wd_739 : (Cond.methodLink RL 103 yX5_count) ∈ T0 := T0_of (i := 739) (by decide +kernel) rfl
theorem wd_740 : (Cond.instanceMethod yX5_count) ∈ T0 := T0_of (i := 740) (by decide +kernel) rfl
theorem wd_741 : (Cond.selects RX5 yX5_count yX5_count) ∈ T0 := T0_of (i := 741) (by decide +kernel) rfl
theorem wc_yX5_count : Cond.code yX5_count cX5_count 2 (some .int) ∈ T0 := T0_of (i := 742) (by decide +kernel) rfl
theorem wd_743 : (Cond.methodLink RL 107 yX5_sheet) ∈ T0 := T0_of (i := 743) (by decide +kernel) rfl
theorem wd_744 : (Cond.instanceMethod yX5_sheet) ∈ T0 := T0_of (i := 744) (by decide +kernel) rfl
theorem wd_745 : (Cond.selects RX5 yX5_sheet yX5_sheet) ∈ T0 := T0_of (i := 745) (by decide +kernel) rfl
theorem wc_yX5_sheet : Cond.code yX5_sheet cX5_sheet 5 (some .int) ∈ T0 := T0_of (i := 746) (by decide +kernel) rfl
theorem wd_747 : (Cond.methodLink RL 111 yX5_cell) ∈ T0 := T0_of (i := 747) (by decide +kernel) rfl
theorem wd_748 : (Cond.instanceMethod yX5_cell) ∈ T0 := T0_of (i := 748) (by decide +kernel) rfl
theorem wd_749 : (Cond.selects RX5 yX5_cell yX5_cell) ∈ T0 := T0_of (i := 749) (by decide +kernel) rfl
theorem wc_yX5_cell : Cond.code yX5_cell cX5_cell 5 (some .int) ∈ T0 := T0_of (i := 750) (by decide +kernel) rfl
theorem wd_751 : (Cond.methodLink RX5 266 yX2_has) ∈ T0 := T0_of (i := 751) (by decide +kernel) rfl
theorem wd_752 : (Cond.methodLink RL 115 yX5_copy) ∈ T0 := T0_of (i := 752) (by decide +kernel) rfl
theorem wd_753 : (Cond.instanceMethod yX5_copy) ∈ T0 := T0_of (i := 753) (by decide +kernel) rfl
theorem wd_754 : (Cond.selects RX5 yX5_copy yX5_copy) ∈ T0 := T0_of (i := 754) (by decide +kernel) rfl
theorem wc_yX5_copy : Cond.code yX5_copy cX5_copy 8 (some .int) ∈ T0 := T0_of (i := 755) (by decide +kernel) rfl
theorem wd_756 : (Cond.methodLink RX5 272 yX2_hasRange) ∈ T0 := T0_of (i := 756) (by decide +kernel) rfl
theorem wd_757 : (Cond.instanceMethod yX2_hasRange) ∈ T0 := T0_of (i := 757) (by decide +kernel) rfl
theorem wd_758 : (Cond.selects RX2 yX2_hasRange yX2_hasRange) ∈ T0 := T0_of (i := 758) (by decide +kernel) rfl
theorem wc_yX2_hasRange : Cond.code yX2_hasRange cX2_hasRange 3 (some .boolean) ∈ T0 := T0_of (i := 759) (by decide +kernel) rfl
theorem wd_760 : (Cond.methodLink RX5 275 ⟨"java/lang/System", "arraycopy", "(Ljava/lang/Object;ILjava/lang/Object;II)V"⟩) ∈ T0 := T0_of (i := 760) (by decide +kernel) rfl
theorem wd_761 : (Cond.methodLink RL 120 yX5_street) ∈ T0 := T0_of (i := 761) (by decide +kernel) rfl
theorem wd_762 : (Cond.instanceMethod yX5_street) ∈ T0 := T0_of (i := 762) (by decide +kernel) rfl
theorem wd_763 : (Cond.selects RX5 yX5_street yX5_street) ∈ T0 := T0_of (i := 763) (by decide +kernel) rfl
theorem wc_yX5_street : Cond.code yX5_street cX5_street 9 (some .int) ∈ T0 := T0_of (i := 764) (by decide +kernel) rfl
theorem wd_765 : (Cond.methodLink RL 125 yX5_taken) ∈ T0 := T0_of (i := 765) (by decide +kernel) rfl
theorem wd_766 : (Cond.instanceMethod yX5_taken) ∈ T0 := T0_of (i := 766) (by decide +kernel) rfl
theorem wd_767 : (Cond.selects RX5 yX5_taken yX5_taken) ∈ T0 := T0_of (i := 767) (by decide +kernel) rfl
theorem wc_yX5_taken : Cond.code yX5_taken cX5_taken 3 (some .int) ∈ T0 := T0_of (i := 768) (by decide +kernel) rfl
theorem wd_769 : (Cond.methodLink RX5 281 yX5_isUnder) ∈ T0 := T0_of (i := 769) (by decide +kernel) rfl
theorem wd_770 : (Cond.static yX5_isUnder) ∈ T0 := T0_of (i := 770) (by decide +kernel) rfl
theorem wc_yX5_isUnder : Cond.code yX5_isUnder cX5_isUnder 4 (some .boolean) ∈ T0 := T0_of (i := 771) (by decide +kernel) rfl
theorem wd_772 : (Cond.fieldLink RX5 284 "SkipOfEightYards" "KIND_ABOVE" "[I") ∈ T0 := T0_of (i := 772) (by decide +kernel) rfl
theorem wd_776 : (Cond.methodLink RL 12 yX6_init) ∈ T0 := T0_of (i := 776) (by decide +kernel) rfl
theorem wd_777 : (Cond.instanceMethod yX6_init) ∈ T0 := T0_of (i := 777) (by decide +kernel) rfl
theorem wc_yX6_init : Cond.code yX6_init cX6_init 1 none ∈ T0 := T0_of (i := 778) (by decide +kernel) rfl
theorem wd_779 : (Cond.methodLink RX6 7 ⟨"java/lang/Object", "<init>", "()V"⟩) ∈ T0 := T0_of (i := 779) (by decide +kernel) rfl
theorem wd_780 : (Cond.methodLink RX6 63 yX6_spell) ∈ T0 := T0_of (i := 780) (by decide +kernel) rfl
theorem wd_782 : (Cond.instanceMethod yX6_spell) ∈ T0 := T0_of (i := 782) (by decide +kernel) rfl
theorem wc_yX6_spell : Cond.code yX6_spell cX6_spell 10 none ∈ T0 := T0_of (i := 783) (by decide +kernel) rfl
theorem wd_784 : (Cond.fieldLink RX6 13 "SkipOfEightYardsModel" "texts" "[I") ∈ T0 := T0_of (i := 784) (by decide +kernel) rfl
theorem wd_785 : (Cond.fieldLink RX6 17 "SkipOfEightYardsModel" "textSize" "[I") ∈ T0 := T0_of (i := 785) (by decide +kernel) rfl
theorem wd_786 : (Cond.fieldLink RX6 67 "SkipOfEightYardsModel" "textCount" "I") ∈ T0 := T0_of (i := 786) (by decide +kernel) rfl
theorem wd_787 : (Cond.fieldLink RX6 105 "SkipOfEightYardsModel" "rule" "I") ∈ T0 := T0_of (i := 787) (by decide +kernel) rfl
theorem wd_788 : (Cond.fieldLink RX6 20 "SkipOfEightYardsModel" "tape" "[I") ∈ T0 := T0_of (i := 788) (by decide +kernel) rfl
theorem wd_789 : (Cond.fieldLink RX6 139 "SkipOfEightYardsModel" "taped" "I") ∈ T0 := T0_of (i := 789) (by decide +kernel) rfl
theorem wd_790 : (Cond.fieldLink RX6 23 "SkipOfEightYardsModel" "skip" "[I") ∈ T0 := T0_of (i := 790) (by decide +kernel) rfl
theorem wd_791 : (Cond.fieldLink RX6 26 "SkipOfEightYardsModel" "things" "[I") ∈ T0 := T0_of (i := 791) (by decide +kernel) rfl
theorem wd_792 : (Cond.fieldLink RX6 29 "SkipOfEightYardsModel" "rows" "[I") ∈ T0 := T0_of (i := 792) (by decide +kernel) rfl
theorem wd_793 : (Cond.fieldLink RX6 70 "SkipOfEightYardsModel" "thingMany" "I") ∈ T0 := T0_of (i := 793) (by decide +kernel) rfl
theorem wd_794 : (Cond.fieldLink RX6 77 "SkipOfEightYardsModel" "many" "I") ∈ T0 := T0_of (i := 794) (by decide +kernel) rfl
theorem wd_795 : (Cond.fieldLink RX6 197 "SkipOfEightYardsModel" "ofFull" "I") ∈ T0 := T0_of (i := 795) (by decide +kernel) rfl
theorem wd_796 : (Cond.fieldLink RX6 200 "SkipOfEightYardsModel" "ofNumber" "I") ∈ T0 := T0_of (i := 796) (by decide +kernel) rfl
theorem wd_797 : (Cond.fieldLink RX6 203 "SkipOfEightYardsModel" "ofNight" "I") ∈ T0 := T0_of (i := 797) (by decide +kernel) rfl
theorem wd_798 : (Cond.fieldLink RX6 206 "SkipOfEightYardsModel" "ofLamp" "I") ∈ T0 := T0_of (i := 798) (by decide +kernel) rfl
theorem wd_799 : (Cond.fieldLink RX6 209 "SkipOfEightYardsModel" "ofAsked" "I") ∈ T0 := T0_of (i := 799) (by decide +kernel) rfl
theorem wd_800 : (Cond.fieldLink RX6 212 "SkipOfEightYardsModel" "ofMine" "I") ∈ T0 := T0_of (i := 800) (by decide +kernel) rfl
theorem wd_801 : (Cond.fieldLink RX6 145 "SkipOfEightYardsModel" "from" "I") ∈ T0 := T0_of (i := 801) (by decide +kernel) rfl
theorem wd_802 : (Cond.fieldLink RX6 142 "SkipOfEightYardsModel" "size" "I") ∈ T0 := T0_of (i := 802) (by decide +kernel) rfl
theorem wd_803 : (Cond.fieldLink RX6 148 "SkipOfEightYardsModel" "here" "I") ∈ T0 := T0_of (i := 803) (by decide +kernel) rfl
theorem wd_804 : (Cond.fieldLink RX6 157 "SkipOfEightYardsModel" "token" "I") ∈ T0 := T0_of (i := 804) (by decide +kernel) rfl
theorem wd_805 : (Cond.fieldLink RX6 154 "SkipOfEightYardsModel" "tokenAt" "I") ∈ T0 := T0_of (i := 805) (by decide +kernel) rfl
theorem wd_806 : (Cond.fieldLink RX6 168 "SkipOfEightYardsModel" "tokenWorth" "J") ∈ T0 := T0_of (i := 806) (by decide +kernel) rfl
theorem wd_807 : (Cond.fieldLink RX6 184 "SkipOfEightYardsModel" "open" "I") ∈ T0 := T0_of (i := 807) (by decide +kernel) rfl
theorem wd_808 : (Cond.fieldLink RX6 174 "SkipOfEightYardsModel" "bad" "Z") ∈ T0 := T0_of (i := 808) (by decide +kernel) rfl
theorem wd_809 : (Cond.fieldLink RX6 178 "SkipOfEightYardsModel" "fault" "I") ∈ T0 := T0_of (i := 809) (by decide +kernel) rfl
theorem wd_810 : (Cond.fieldLink RX6 32 "SkipOfEightYardsModel" "skipWas" "[I") ∈ T0 := T0_of (i := 810) (by decide +kernel) rfl
theorem wd_811 : (Cond.fieldLink RX6 35 "SkipOfEightYardsModel" "inWas" "[I") ∈ T0 := T0_of (i := 811) (by decide +kernel) rfl
theorem wd_812 : (Cond.fieldLink RX6 38 "SkipOfEightYardsModel" "skipKept" "[I") ∈ T0 := T0_of (i := 812) (by decide +kernel) rfl
theorem wd_813 : (Cond.fieldLink RX6 41 "SkipOfEightYardsModel" "thingsKept" "[I") ∈ T0 := T0_of (i := 813) (by decide +kernel) rfl
theorem wd_814 : (Cond.fieldLink RX6 44 "SkipOfEightYardsModel" "rowsKept" "[I") ∈ T0 := T0_of (i := 814) (by decide +kernel) rfl
theorem wd_815 : (Cond.fieldLink RX6 47 "SkipOfEightYardsModel" "manyKept" "I") ∈ T0 := T0_of (i := 815) (by decide +kernel) rfl
theorem wd_816 : (Cond.fieldLink RX6 426 "SkipOfEightYardsModel" "thingKept" "I") ∈ T0 := T0_of (i := 816) (by decide +kernel) rfl
theorem wd_817 : (Cond.fieldLink RX6 429 "SkipOfEightYardsModel" "ruleKept" "I") ∈ T0 := T0_of (i := 817) (by decide +kernel) rfl
theorem wd_818 : (Cond.fieldLink RX6 50 "SkipOfEightYardsModel" "isThere" "[Z") ∈ T0 := T0_of (i := 818) (by decide +kernel) rfl
theorem wd_819 : (Cond.fieldLink RX6 54 "SkipOfEightYardsModel" "sorts" "[I") ∈ T0 := T0_of (i := 819) (by decide +kernel) rfl
theorem wd_820 : (Cond.fieldLink RX6 57 "SkipOfEightYardsModel" "sheetSize" "[I") ∈ T0 := T0_of (i := 820) (by decide +kernel) rfl
theorem wd_821 : (Cond.fieldLink RX6 60 "SkipOfEightYardsModel" "items" "[I") ∈ T0 := T0_of (i := 821) (by decide +kernel) rfl
theorem wd_901 : (Cond.arrayClass .boolean) ∈ T0 := T0_of (i := 901) (by decide +kernel) rfl
theorem wd_902 : (Cond.methodLink RL 17 yX6_set) ∈ T0 := T0_of (i := 902) (by decide +kernel) rfl
theorem wd_903 : (Cond.instanceMethod yX6_set) ∈ T0 := T0_of (i := 903) (by decide +kernel) rfl
theorem wd_904 : (Cond.selects RX6 yX6_set yX6_set) ∈ T0 := T0_of (i := 904) (by decide +kernel) rfl
theorem wc_yX6_set : Cond.code yX6_set cX6_set 5 (some .int) ∈ T0 := T0_of (i := 905) (by decide +kernel) rfl
theorem wd_906 : (Cond.constantLong RX6 87 (7)) ∈ T0 := T0_of (i := 906) (by decide +kernel) rfl
theorem wd_907 : (Cond.methodLink RX6 73 yX6_in) ∈ T0 := T0_of (i := 907) (by decide +kernel) rfl
theorem wd_908 : (Cond.static yX6_in) ∈ T0 := T0_of (i := 908) (by decide +kernel) rfl
theorem wc_yX6_in : Cond.code yX6_in cX6_in 6 (some .boolean) ∈ T0 := T0_of (i := 909) (by decide +kernel) rfl
theorem wd_910 : (Cond.methodLink RX6 89 yX6_isOf) ∈ T0 := T0_of (i := 910) (by decide +kernel) rfl
theorem wd_912 : (Cond.instanceMethod yX6_isOf) ∈ T0 := T0_of (i := 912) (by decide +kernel) rfl
theorem wc_yX6_isOf : Cond.code yX6_isOf cX6_isOf 3 (some .boolean) ∈ T0 := T0_of (i := 913) (by decide +kernel) rfl
theorem wd_914 : (Cond.methodLink RX6 80 yX6_isThing) ∈ T0 := T0_of (i := 914) (by decide +kernel) rfl
theorem wd_916 : (Cond.instanceMethod yX6_isThing) ∈ T0 := T0_of (i := 916) (by decide +kernel) rfl
theorem wc_yX6_isThing : Cond.code yX6_isThing cX6_isThing 2 (some .boolean) ∈ T0 := T0_of (i := 917) (by decide +kernel) rfl
theorem wd_918 : (Cond.methodLink RX6 84 yX6_isOne) ∈ T0 := T0_of (i := 918) (by decide +kernel) rfl
theorem wd_920 : (Cond.instanceMethod yX6_isOne) ∈ T0 := T0_of (i := 920) (by decide +kernel) rfl
theorem wc_yX6_isOne : Cond.code yX6_isOne cX6_isOne 2 (some .boolean) ∈ T0 := T0_of (i := 921) (by decide +kernel) rfl
theorem wd_922 : (Cond.methodLink RX6 93 yX6_mostOf) ∈ T0 := T0_of (i := 922) (by decide +kernel) rfl
theorem wd_923 : (Cond.static yX6_mostOf) ∈ T0 := T0_of (i := 923) (by decide +kernel) rfl
theorem wc_yX6_mostOf : Cond.code yX6_mostOf cX6_mostOf 1 (some .int) ∈ T0 := T0_of (i := 924) (by decide +kernel) rfl
theorem wd_925 : (Cond.methodLink RX6 97 yX6_told) ∈ T0 := T0_of (i := 925) (by decide +kernel) rfl
theorem wd_926 : (Cond.instanceMethod yX6_told) ∈ T0 := T0_of (i := 926) (by decide +kernel) rfl
theorem wd_927 : (Cond.selects RX6 yX6_told yX6_told) ∈ T0 := T0_of (i := 927) (by decide +kernel) rfl
theorem wc_yX6_told : Cond.code yX6_told cX6_told 3 (some .int) ∈ T0 := T0_of (i := 928) (by decide +kernel) rfl
theorem wd_929 : (Cond.constantLong RX6 122 (16)) ∈ T0 := T0_of (i := 929) (by decide +kernel) rfl
theorem wd_930 : (Cond.methodLink RX6 124 yX6_isComing) ∈ T0 := T0_of (i := 930) (by decide +kernel) rfl
theorem wd_932 : (Cond.instanceMethod yX6_isComing) ∈ T0 := T0_of (i := 932) (by decide +kernel) rfl
theorem wc_yX6_isComing : Cond.code yX6_isComing cX6_isComing 4 (some .boolean) ∈ T0 := T0_of (i := 933) (by decide +kernel) rfl
theorem wd_934 : (Cond.methodLink RX6 114 yX6_fullNow) ∈ T0 := T0_of (i := 934) (by decide +kernel) rfl
theorem wd_936 : (Cond.instanceMethod yX6_fullNow) ∈ T0 := T0_of (i := 936) (by decide +kernel) rfl
theorem wc_yX6_fullNow : Cond.code yX6_fullNow cX6_fullNow 1 (some .int) ∈ T0 := T0_of (i := 937) (by decide +kernel) rfl
theorem wd_938 : (Cond.methodLink RX6 344 yX6_says) ∈ T0 := T0_of (i := 938) (by decide +kernel) rfl
theorem wd_940 : (Cond.instanceMethod yX6_says) ∈ T0 := T0_of (i := 940) (by decide +kernel) rfl
theorem wc_yX6_says : Cond.code yX6_says cX6_says 4 (some .int) ∈ T0 := T0_of (i := 941) (by decide +kernel) rfl
theorem wd_942 : (Cond.methodLink RX6 341 yX6_read) ∈ T0 := T0_of (i := 942) (by decide +kernel) rfl
theorem wd_944 : (Cond.instanceMethod yX6_read) ∈ T0 := T0_of (i := 944) (by decide +kernel) rfl
theorem wc_yX6_read : Cond.code yX6_read cX6_read 6 (some .int) ∈ T0 := T0_of (i := 945) (by decide +kernel) rfl
theorem wd_946 : (Cond.methodLink RX6 190 yX6_next) ∈ T0 := T0_of (i := 946) (by decide +kernel) rfl
theorem wd_948 : (Cond.instanceMethod yX6_next) ∈ T0 := T0_of (i := 948) (by decide +kernel) rfl
theorem wc_yX6_next : Cond.code yX6_next cX6_next 3 none ∈ T0 := T0_of (i := 949) (by decide +kernel) rfl
theorem wd_950 : (Cond.methodLink RX6 151 yX6_byteAt) ∈ T0 := T0_of (i := 950) (by decide +kernel) rfl
theorem wd_952 : (Cond.instanceMethod yX6_byteAt) ∈ T0 := T0_of (i := 952) (by decide +kernel) rfl
theorem wc_yX6_byteAt : Cond.code yX6_byteAt cX6_byteAt 2 (some .int) ∈ T0 := T0_of (i := 953) (by decide +kernel) rfl
theorem wd_954 : (Cond.constantLong RX6 160 (97)) ∈ T0 := T0_of (i := 954) (by decide +kernel) rfl
theorem wd_955 : (Cond.constantLong RX6 162 (122)) ∈ T0 := T0_of (i := 955) (by decide +kernel) rfl
theorem wd_956 : (Cond.constantLong RX6 164 (48)) ∈ T0 := T0_of (i := 956) (by decide +kernel) rfl
theorem wd_957 : (Cond.constantLong RX6 166 (57)) ∈ T0 := T0_of (i := 957) (by decide +kernel) rfl
theorem wd_958 : (Cond.constantLong RX6 172 (10)) ∈ T0 := T0_of (i := 958) (by decide +kernel) rfl
theorem wd_959 : (Cond.methodLink RX6 193 yX6_isWord) ∈ T0 := T0_of (i := 959) (by decide +kernel) rfl
theorem wd_961 : (Cond.instanceMethod yX6_isWord) ∈ T0 := T0_of (i := 961) (by decide +kernel) rfl
theorem wc_yX6_isWord : Cond.code yX6_isWord cX6_isWord 9 (some .boolean) ∈ T0 := T0_of (i := 962) (by decide +kernel) rfl
theorem wd_963 : (Cond.methodLink RX6 181 yX6_isLetter) ∈ T0 := T0_of (i := 963) (by decide +kernel) rfl
theorem wd_965 : (Cond.instanceMethod yX6_isLetter) ∈ T0 := T0_of (i := 965) (by decide +kernel) rfl
theorem wc_yX6_isLetter : Cond.code yX6_isLetter cX6_isLetter 3 (some .boolean) ∈ T0 := T0_of (i := 966) (by decide +kernel) rfl
theorem wd_967 : (Cond.methodLink RX6 337 yX6_part) ∈ T0 := T0_of (i := 967) (by decide +kernel) rfl
theorem wd_969 : (Cond.instanceMethod yX6_part) ∈ T0 := T0_of (i := 969) (by decide +kernel) rfl
theorem wc_yX6_part : Cond.code yX6_part cX6_part 3 (some .int) ∈ T0 := T0_of (i := 970) (by decide +kernel) rfl
theorem wd_971 : (Cond.methodLink RX6 187 yX6_fail) ∈ T0 := T0_of (i := 971) (by decide +kernel) rfl
theorem wd_973 : (Cond.instanceMethod yX6_fail) ∈ T0 := T0_of (i := 973) (by decide +kernel) rfl
theorem wc_yX6_fail : Cond.code yX6_fail cX6_fail 1 none ∈ T0 := T0_of (i := 974) (by decide +kernel) rfl
theorem wd_975 : (Cond.methodLink RX6 334 yX6_either0) ∈ T0 := T0_of (i := 975) (by decide +kernel) rfl
theorem wd_977 : (Cond.instanceMethod yX6_either0) ∈ T0 := T0_of (i := 977) (by decide +kernel) rfl
theorem wc_yX6_either0 : Cond.code yX6_either0 cX6_either0 3 (some .int) ∈ T0 := T0_of (i := 978) (by decide +kernel) rfl
theorem wd_979 : (Cond.methodLink RX6 331 yX6_both0) ∈ T0 := T0_of (i := 979) (by decide +kernel) rfl
theorem wd_981 : (Cond.instanceMethod yX6_both0) ∈ T0 := T0_of (i := 981) (by decide +kernel) rfl
theorem wc_yX6_both0 : Cond.code yX6_both0 cX6_both0 3 (some .int) ∈ T0 := T0_of (i := 982) (by decide +kernel) rfl
theorem wd_983 : (Cond.methodLink RX6 328 yX6_not0) ∈ T0 := T0_of (i := 983) (by decide +kernel) rfl
theorem wd_985 : (Cond.instanceMethod yX6_not0) ∈ T0 := T0_of (i := 985) (by decide +kernel) rfl
theorem wc_yX6_not0 : Cond.code yX6_not0 cX6_not0 4 (some .int) ∈ T0 := T0_of (i := 986) (by decide +kernel) rfl
theorem wd_987 : (Cond.methodLink RX6 218 yX6_opens) ∈ T0 := T0_of (i := 987) (by decide +kernel) rfl
theorem wd_989 : (Cond.instanceMethod yX6_opens) ∈ T0 := T0_of (i := 989) (by decide +kernel) rfl
theorem wc_yX6_opens : Cond.code yX6_opens cX6_opens 1 (some .boolean) ∈ T0 := T0_of (i := 990) (by decide +kernel) rfl
theorem wd_991 : (Cond.methodLink RX6 310 yX6_not1) ∈ T0 := T0_of (i := 991) (by decide +kernel) rfl
theorem wd_993 : (Cond.instanceMethod yX6_not1) ∈ T0 := T0_of (i := 993) (by decide +kernel) rfl
theorem wc_yX6_not1 : Cond.code yX6_not1 cX6_not1 4 (some .int) ∈ T0 := T0_of (i := 994) (by decide +kernel) rfl
theorem wd_995 : (Cond.methodLink RX6 292 yX6_not2) ∈ T0 := T0_of (i := 995) (by decide +kernel) rfl
theorem wd_997 : (Cond.instanceMethod yX6_not2) ∈ T0 := T0_of (i := 997) (by decide +kernel) rfl
theorem wc_yX6_not2 : Cond.code yX6_not2 cX6_not2 4 (some .int) ∈ T0 := T0_of (i := 998) (by decide +kernel) rfl
theorem wd_999 : (Cond.methodLink RX6 274 yX6_not3) ∈ T0 := T0_of (i := 999) (by decide +kernel) rfl
theorem wd_1001 : (Cond.instanceMethod yX6_not3) ∈ T0 := T0_of (i := 1001) (by decide +kernel) rfl
theorem wc_yX6_not3 : Cond.code yX6_not3 cX6_not3 4 (some .int) ∈ T0 := T0_of (i := 1002) (by decide +kernel) rfl
theorem wd_1003 : (Cond.methodLink RX6 256 yX6_not4) ∈ T0 := T0_of (i := 1003) (by decide +kernel) rfl
theorem wd_1005 : (Cond.instanceMethod yX6_not4) ∈ T0 := T0_of (i := 1005) (by decide +kernel) rfl
theorem wc_yX6_not4 : Cond.code yX6_not4 cX6_not4 4 (some .int) ∈ T0 := T0_of (i := 1006) (by decide +kernel) rfl
theorem wd_1007 : (Cond.methodLink RX6 238 yX6_not5) ∈ T0 := T0_of (i := 1007) (by decide +kernel) rfl
theorem wd_1009 : (Cond.instanceMethod yX6_not5) ∈ T0 := T0_of (i := 1009) (by decide +kernel) rfl
theorem wc_yX6_not5 : Cond.code yX6_not5 cX6_not5 4 (some .int) ∈ T0 := T0_of (i := 1010) (by decide +kernel) rfl
theorem wd_1011 : (Cond.methodLink RX6 233 yX6_added5) ∈ T0 := T0_of (i := 1011) (by decide +kernel) rfl
theorem wd_1013 : (Cond.instanceMethod yX6_added5) ∈ T0 := T0_of (i := 1013) (by decide +kernel) rfl
theorem wc_yX6_added5 : Cond.code yX6_added5 cX6_added5 4 (some .int) ∈ T0 := T0_of (i := 1014) (by decide +kernel) rfl
theorem wd_1015 : (Cond.methodLink RX6 228 yX6_term5) ∈ T0 := T0_of (i := 1015) (by decide +kernel) rfl
theorem wd_1017 : (Cond.instanceMethod yX6_term5) ∈ T0 := T0_of (i := 1017) (by decide +kernel) rfl
theorem wc_yX6_term5 : Cond.code yX6_term5 cX6_term5 2 (some .int) ∈ T0 := T0_of (i := 1018) (by decide +kernel) rfl
theorem wd_1019 : (Cond.methodLink RX6 225 yX6_atom5) ∈ T0 := T0_of (i := 1019) (by decide +kernel) rfl
theorem wd_1021 : (Cond.instanceMethod yX6_atom5) ∈ T0 := T0_of (i := 1021) (by decide +kernel) rfl
theorem wc_yX6_atom5 : Cond.code yX6_atom5 cX6_atom5 2 (some .int) ∈ T0 := T0_of (i := 1022) (by decide +kernel) rfl
theorem wd_1023 : (Cond.methodLink RX6 215 yX6_isSign) ∈ T0 := T0_of (i := 1023) (by decide +kernel) rfl
theorem wd_1025 : (Cond.instanceMethod yX6_isSign) ∈ T0 := T0_of (i := 1025) (by decide +kernel) rfl
theorem wc_yX6_isSign : Cond.code yX6_isSign cX6_isSign 2 (some .boolean) ∈ T0 := T0_of (i := 1026) (by decide +kernel) rfl
theorem wd_1027 : (Cond.methodLink RX6 222 yX6_name) ∈ T0 := T0_of (i := 1027) (by decide +kernel) rfl
theorem wd_1029 : (Cond.instanceMethod yX6_name) ∈ T0 := T0_of (i := 1029) (by decide +kernel) rfl
theorem wc_yX6_name : Cond.code yX6_name cX6_name 1 (some .int) ∈ T0 := T0_of (i := 1030) (by decide +kernel) rfl
theorem wd_1031 : (Cond.constantLong RX6 231 (43)) ∈ T0 := T0_of (i := 1031) (by decide +kernel) rfl
theorem wd_1032 : (Cond.constantLong RX6 236 (60)) ∈ T0 := T0_of (i := 1032) (by decide +kernel) rfl
theorem wd_1033 : (Cond.methodLink RX6 253 yX6_added4) ∈ T0 := T0_of (i := 1033) (by decide +kernel) rfl
theorem wd_1035 : (Cond.instanceMethod yX6_added4) ∈ T0 := T0_of (i := 1035) (by decide +kernel) rfl
theorem wc_yX6_added4 : Cond.code yX6_added4 cX6_added4 4 (some .int) ∈ T0 := T0_of (i := 1036) (by decide +kernel) rfl
theorem wd_1037 : (Cond.methodLink RX6 250 yX6_term4) ∈ T0 := T0_of (i := 1037) (by decide +kernel) rfl
theorem wd_1039 : (Cond.instanceMethod yX6_term4) ∈ T0 := T0_of (i := 1039) (by decide +kernel) rfl
theorem wc_yX6_term4 : Cond.code yX6_term4 cX6_term4 2 (some .int) ∈ T0 := T0_of (i := 1040) (by decide +kernel) rfl
theorem wd_1041 : (Cond.methodLink RX6 247 yX6_atom4) ∈ T0 := T0_of (i := 1041) (by decide +kernel) rfl
theorem wd_1043 : (Cond.instanceMethod yX6_atom4) ∈ T0 := T0_of (i := 1043) (by decide +kernel) rfl
theorem wc_yX6_atom4 : Cond.code yX6_atom4 cX6_atom4 2 (some .int) ∈ T0 := T0_of (i := 1044) (by decide +kernel) rfl
theorem wd_1045 : (Cond.methodLink RX6 244 yX6_either5) ∈ T0 := T0_of (i := 1045) (by decide +kernel) rfl
theorem wd_1047 : (Cond.instanceMethod yX6_either5) ∈ T0 := T0_of (i := 1047) (by decide +kernel) rfl
theorem wc_yX6_either5 : Cond.code yX6_either5 cX6_either5 3 (some .int) ∈ T0 := T0_of (i := 1048) (by decide +kernel) rfl
theorem wd_1049 : (Cond.methodLink RX6 241 yX6_both5) ∈ T0 := T0_of (i := 1049) (by decide +kernel) rfl
theorem wd_1051 : (Cond.instanceMethod yX6_both5) ∈ T0 := T0_of (i := 1051) (by decide +kernel) rfl
theorem wc_yX6_both5 : Cond.code yX6_both5 cX6_both5 3 (some .int) ∈ T0 := T0_of (i := 1052) (by decide +kernel) rfl
theorem wd_1053 : (Cond.methodLink RX6 271 yX6_added3) ∈ T0 := T0_of (i := 1053) (by decide +kernel) rfl
theorem wd_1055 : (Cond.instanceMethod yX6_added3) ∈ T0 := T0_of (i := 1055) (by decide +kernel) rfl
theorem wc_yX6_added3 : Cond.code yX6_added3 cX6_added3 4 (some .int) ∈ T0 := T0_of (i := 1056) (by decide +kernel) rfl
theorem wd_1057 : (Cond.methodLink RX6 268 yX6_term3) ∈ T0 := T0_of (i := 1057) (by decide +kernel) rfl
theorem wd_1059 : (Cond.instanceMethod yX6_term3) ∈ T0 := T0_of (i := 1059) (by decide +kernel) rfl
theorem wc_yX6_term3 : Cond.code yX6_term3 cX6_term3 2 (some .int) ∈ T0 := T0_of (i := 1060) (by decide +kernel) rfl
theorem wd_1061 : (Cond.methodLink RX6 265 yX6_atom3) ∈ T0 := T0_of (i := 1061) (by decide +kernel) rfl
theorem wd_1063 : (Cond.instanceMethod yX6_atom3) ∈ T0 := T0_of (i := 1063) (by decide +kernel) rfl
theorem wc_yX6_atom3 : Cond.code yX6_atom3 cX6_atom3 2 (some .int) ∈ T0 := T0_of (i := 1064) (by decide +kernel) rfl
theorem wd_1065 : (Cond.methodLink RX6 262 yX6_either4) ∈ T0 := T0_of (i := 1065) (by decide +kernel) rfl
theorem wd_1067 : (Cond.instanceMethod yX6_either4) ∈ T0 := T0_of (i := 1067) (by decide +kernel) rfl
theorem wc_yX6_either4 : Cond.code yX6_either4 cX6_either4 3 (some .int) ∈ T0 := T0_of (i := 1068) (by decide +kernel) rfl
theorem wd_1069 : (Cond.methodLink RX6 259 yX6_both4) ∈ T0 := T0_of (i := 1069) (by decide +kernel) rfl
theorem wd_1071 : (Cond.instanceMethod yX6_both4) ∈ T0 := T0_of (i := 1071) (by decide +kernel) rfl
theorem wc_yX6_both4 : Cond.code yX6_both4 cX6_both4 3 (some .int) ∈ T0 := T0_of (i := 1072) (by decide +kernel) rfl
theorem wd_1073 : (Cond.methodLink RX6 289 yX6_added2) ∈ T0 := T0_of (i := 1073) (by decide +kernel) rfl
theorem wd_1075 : (Cond.instanceMethod yX6_added2) ∈ T0 := T0_of (i := 1075) (by decide +kernel) rfl
theorem wc_yX6_added2 : Cond.code yX6_added2 cX6_added2 4 (some .int) ∈ T0 := T0_of (i := 1076) (by decide +kernel) rfl
theorem wd_1077 : (Cond.methodLink RX6 286 yX6_term2) ∈ T0 := T0_of (i := 1077) (by decide +kernel) rfl
theorem wd_1079 : (Cond.instanceMethod yX6_term2) ∈ T0 := T0_of (i := 1079) (by decide +kernel) rfl
theorem wc_yX6_term2 : Cond.code yX6_term2 cX6_term2 2 (some .int) ∈ T0 := T0_of (i := 1080) (by decide +kernel) rfl
theorem wd_1081 : (Cond.methodLink RX6 283 yX6_atom2) ∈ T0 := T0_of (i := 1081) (by decide +kernel) rfl
theorem wd_1083 : (Cond.instanceMethod yX6_atom2) ∈ T0 := T0_of (i := 1083) (by decide +kernel) rfl
theorem wc_yX6_atom2 : Cond.code yX6_atom2 cX6_atom2 2 (some .int) ∈ T0 := T0_of (i := 1084) (by decide +kernel) rfl
theorem wd_1085 : (Cond.methodLink RX6 280 yX6_either3) ∈ T0 := T0_of (i := 1085) (by decide +kernel) rfl
theorem wd_1087 : (Cond.instanceMethod yX6_either3) ∈ T0 := T0_of (i := 1087) (by decide +kernel) rfl
theorem wc_yX6_either3 : Cond.code yX6_either3 cX6_either3 3 (some .int) ∈ T0 := T0_of (i := 1088) (by decide +kernel) rfl
theorem wd_1089 : (Cond.methodLink RX6 277 yX6_both3) ∈ T0 := T0_of (i := 1089) (by decide +kernel) rfl
theorem wd_1091 : (Cond.instanceMethod yX6_both3) ∈ T0 := T0_of (i := 1091) (by decide +kernel) rfl
theorem wc_yX6_both3 : Cond.code yX6_both3 cX6_both3 3 (some .int) ∈ T0 := T0_of (i := 1092) (by decide +kernel) rfl
theorem wd_1093 : (Cond.methodLink RX6 307 yX6_added1) ∈ T0 := T0_of (i := 1093) (by decide +kernel) rfl
theorem wd_1095 : (Cond.instanceMethod yX6_added1) ∈ T0 := T0_of (i := 1095) (by decide +kernel) rfl
theorem wc_yX6_added1 : Cond.code yX6_added1 cX6_added1 4 (some .int) ∈ T0 := T0_of (i := 1096) (by decide +kernel) rfl
theorem wd_1097 : (Cond.methodLink RX6 304 yX6_term1) ∈ T0 := T0_of (i := 1097) (by decide +kernel) rfl
theorem wd_1099 : (Cond.instanceMethod yX6_term1) ∈ T0 := T0_of (i := 1099) (by decide +kernel) rfl
theorem wc_yX6_term1 : Cond.code yX6_term1 cX6_term1 2 (some .int) ∈ T0 := T0_of (i := 1100) (by decide +kernel) rfl
theorem wd_1101 : (Cond.methodLink RX6 301 yX6_atom1) ∈ T0 := T0_of (i := 1101) (by decide +kernel) rfl
theorem wd_1103 : (Cond.instanceMethod yX6_atom1) ∈ T0 := T0_of (i := 1103) (by decide +kernel) rfl
theorem wc_yX6_atom1 : Cond.code yX6_atom1 cX6_atom1 2 (some .int) ∈ T0 := T0_of (i := 1104) (by decide +kernel) rfl
theorem wd_1105 : (Cond.methodLink RX6 298 yX6_either2) ∈ T0 := T0_of (i := 1105) (by decide +kernel) rfl
theorem wd_1107 : (Cond.instanceMethod yX6_either2) ∈ T0 := T0_of (i := 1107) (by decide +kernel) rfl
theorem wc_yX6_either2 : Cond.code yX6_either2 cX6_either2 3 (some .int) ∈ T0 := T0_of (i := 1108) (by decide +kernel) rfl
theorem wd_1109 : (Cond.methodLink RX6 295 yX6_both2) ∈ T0 := T0_of (i := 1109) (by decide +kernel) rfl
theorem wd_1111 : (Cond.instanceMethod yX6_both2) ∈ T0 := T0_of (i := 1111) (by decide +kernel) rfl
theorem wc_yX6_both2 : Cond.code yX6_both2 cX6_both2 3 (some .int) ∈ T0 := T0_of (i := 1112) (by decide +kernel) rfl
theorem wd_1113 : (Cond.methodLink RX6 325 yX6_added0) ∈ T0 := T0_of (i := 1113) (by decide +kernel) rfl
theorem wd_1115 : (Cond.instanceMethod yX6_added0) ∈ T0 := T0_of (i := 1115) (by decide +kernel) rfl
theorem wc_yX6_added0 : Cond.code yX6_added0 cX6_added0 4 (some .int) ∈ T0 := T0_of (i := 1116) (by decide +kernel) rfl
theorem wd_1117 : (Cond.methodLink RX6 322 yX6_term0) ∈ T0 := T0_of (i := 1117) (by decide +kernel) rfl
theorem wd_1119 : (Cond.instanceMethod yX6_term0) ∈ T0 := T0_of (i := 1119) (by decide +kernel) rfl
theorem wc_yX6_term0 : Cond.code yX6_term0 cX6_term0 2 (some .int) ∈ T0 := T0_of (i := 1120) (by decide +kernel) rfl
theorem wd_1121 : (Cond.methodLink RX6 319 yX6_atom0) ∈ T0 := T0_of (i := 1121) (by decide +kernel) rfl
theorem wd_1123 : (Cond.instanceMethod yX6_atom0) ∈ T0 := T0_of (i := 1123) (by decide +kernel) rfl
theorem wc_yX6_atom0 : Cond.code yX6_atom0 cX6_atom0 2 (some .int) ∈ T0 := T0_of (i := 1124) (by decide +kernel) rfl
theorem wd_1125 : (Cond.methodLink RX6 316 yX6_either1) ∈ T0 := T0_of (i := 1125) (by decide +kernel) rfl
theorem wd_1127 : (Cond.instanceMethod yX6_either1) ∈ T0 := T0_of (i := 1127) (by decide +kernel) rfl
theorem wc_yX6_either1 : Cond.code yX6_either1 cX6_either1 3 (some .int) ∈ T0 := T0_of (i := 1128) (by decide +kernel) rfl
theorem wd_1129 : (Cond.methodLink RX6 313 yX6_both1) ∈ T0 := T0_of (i := 1129) (by decide +kernel) rfl
theorem wd_1131 : (Cond.instanceMethod yX6_both1) ∈ T0 := T0_of (i := 1131) (by decide +kernel) rfl
theorem wc_yX6_both1 : Cond.code yX6_both1 cX6_both1 3 (some .int) ∈ T0 := T0_of (i := 1132) (by decide +kernel) rfl
theorem wd_1133 : (Cond.methodLink RX6 118 yX6_within) ∈ T0 := T0_of (i := 1133) (by decide +kernel) rfl
theorem wd_1134 : (Cond.static yX6_within) ∈ T0 := T0_of (i := 1134) (by decide +kernel) rfl
theorem wc_yX6_within : Cond.code yX6_within cX6_within 3 (some .int) ∈ T0 := T0_of (i := 1135) (by decide +kernel) rfl
theorem wd_1136 : (Cond.methodLink RX6 347 yX6_isAsked) ∈ T0 := T0_of (i := 1136) (by decide +kernel) rfl
theorem wd_1138 : (Cond.instanceMethod yX6_isAsked) ∈ T0 := T0_of (i := 1138) (by decide +kernel) rfl
theorem wc_yX6_isAsked : Cond.code yX6_isAsked cX6_isAsked 2 (some .boolean) ∈ T0 := T0_of (i := 1139) (by decide +kernel) rfl
theorem wd_1140 : (Cond.methodLink RX6 127 yX6_throwsOf) ∈ T0 := T0_of (i := 1140) (by decide +kernel) rfl
theorem wd_1142 : (Cond.instanceMethod yX6_throwsOf) ∈ T0 := T0_of (i := 1142) (by decide +kernel) rfl
theorem wc_yX6_throwsOf : Cond.code yX6_throwsOf cX6_throwsOf 9 (some .int) ∈ T0 := T0_of (i := 1143) (by decide +kernel) rfl
theorem wd_1144 : (Cond.methodLink RX6 131 yX6_roomNow) ∈ T0 := T0_of (i := 1144) (by decide +kernel) rfl
theorem wd_1146 : (Cond.instanceMethod yX6_roomNow) ∈ T0 := T0_of (i := 1146) (by decide +kernel) rfl
theorem wc_yX6_roomNow : Cond.code yX6_roomNow cX6_roomNow 1 (some .int) ∈ T0 := T0_of (i := 1147) (by decide +kernel) rfl
theorem wd_1148 : (Cond.methodLink RX6 134 yX6_leftNow) ∈ T0 := T0_of (i := 1148) (by decide +kernel) rfl
theorem wd_1150 : (Cond.instanceMethod yX6_leftNow) ∈ T0 := T0_of (i := 1150) (by decide +kernel) rfl
theorem wc_yX6_leftNow : Cond.code yX6_leftNow cX6_leftNow 3 (some .int) ∈ T0 := T0_of (i := 1151) (by decide +kernel) rfl
theorem wd_1152 : (Cond.methodLink RX6 101 yX6_lays) ∈ T0 := T0_of (i := 1152) (by decide +kernel) rfl
theorem wd_1154 : (Cond.instanceMethod yX6_lays) ∈ T0 := T0_of (i := 1154) (by decide +kernel) rfl
theorem wc_yX6_lays : Cond.code yX6_lays cX6_lays 4 none ∈ T0 := T0_of (i := 1155) (by decide +kernel) rfl
theorem wd_1156 : (Cond.methodLink RL 22 yX6_thing) ∈ T0 := T0_of (i := 1156) (by decide +kernel) rfl
theorem wd_1157 : (Cond.instanceMethod yX6_thing) ∈ T0 := T0_of (i := 1157) (by decide +kernel) rfl
theorem wd_1158 : (Cond.selects RX6 yX6_thing yX6_thing) ∈ T0 := T0_of (i := 1158) (by decide +kernel) rfl
theorem wc_yX6_thing : Cond.code yX6_thing cX6_thing 3 (some .int) ∈ T0 := T0_of (i := 1159) (by decide +kernel) rfl
theorem wd_1160 : (Cond.constantLong RX6 108 (99)) ∈ T0 := T0_of (i := 1160) (by decide +kernel) rfl
theorem wd_1161 : (Cond.methodLink RL 26 yX6_neighbour) ∈ T0 := T0_of (i := 1161) (by decide +kernel) rfl
theorem wd_1162 : (Cond.instanceMethod yX6_neighbour) ∈ T0 := T0_of (i := 1162) (by decide +kernel) rfl
theorem wd_1163 : (Cond.selects RX6 yX6_neighbour yX6_neighbour) ∈ T0 := T0_of (i := 1163) (by decide +kernel) rfl
theorem wc_yX6_neighbour : Cond.code yX6_neighbour cX6_neighbour 3 (some .int) ∈ T0 := T0_of (i := 1164) (by decide +kernel) rfl
theorem wd_1165 : (Cond.constantLong RX6 110 (5)) ∈ T0 := T0_of (i := 1165) (by decide +kernel) rfl
theorem wd_1166 : (Cond.constantLong RX6 112 (9)) ∈ T0 := T0_of (i := 1166) (by decide +kernel) rfl
theorem wd_1167 : (Cond.methodLink RL 30 yX6_told) ∈ T0 := T0_of (i := 1167) (by decide +kernel) rfl
theorem wd_1168 : (Cond.methodLink RL 39 yX6_feed) ∈ T0 := T0_of (i := 1168) (by decide +kernel) rfl
theorem wd_1169 : (Cond.instanceMethod yX6_feed) ∈ T0 := T0_of (i := 1169) (by decide +kernel) rfl
theorem wd_1170 : (Cond.selects RX6 yX6_feed yX6_feed) ∈ T0 := T0_of (i := 1170) (by decide +kernel) rfl
theorem wc_yX6_feed : Cond.code yX6_feed cX6_feed 2 (some .int) ∈ T0 := T0_of (i := 1171) (by decide +kernel) rfl
theorem wd_1172 : (Cond.constantLong RX6 137 (255)) ∈ T0 := T0_of (i := 1172) (by decide +kernel) rfl
theorem wd_1173 : (Cond.methodLink RL 44 yX6_text) ∈ T0 := T0_of (i := 1173) (by decide +kernel) rfl
theorem wd_1174 : (Cond.instanceMethod yX6_text) ∈ T0 := T0_of (i := 1174) (by decide +kernel) rfl
theorem wd_1175 : (Cond.selects RX6 yX6_text yX6_text) ∈ T0 := T0_of (i := 1175) (by decide +kernel) rfl
theorem wc_yX6_text : Cond.code yX6_text cX6_text 2 (some .int) ∈ T0 := T0_of (i := 1176) (by decide +kernel) rfl
theorem wd_1177 : (Cond.methodLink RL 48 yX6_force) ∈ T0 := T0_of (i := 1177) (by decide +kernel) rfl
theorem wd_1178 : (Cond.instanceMethod yX6_force) ∈ T0 := T0_of (i := 1178) (by decide +kernel) rfl
theorem wd_1179 : (Cond.selects RX6 yX6_force yX6_force) ∈ T0 := T0_of (i := 1179) (by decide +kernel) rfl
theorem wc_yX6_force : Cond.code yX6_force cX6_force 3 (some .int) ∈ T0 := T0_of (i := 1180) (by decide +kernel) rfl
theorem wd_1181 : (Cond.methodLink RL 34 yX6_pays) ∈ T0 := T0_of (i := 1181) (by decide +kernel) rfl
theorem wd_1182 : (Cond.instanceMethod yX6_pays) ∈ T0 := T0_of (i := 1182) (by decide +kernel) rfl
theorem wd_1183 : (Cond.selects RX6 yX6_pays yX6_pays) ∈ T0 := T0_of (i := 1183) (by decide +kernel) rfl
theorem wc_yX6_pays : Cond.code yX6_pays cX6_pays 3 (some .int) ∈ T0 := T0_of (i := 1184) (by decide +kernel) rfl
theorem wd_1185 : (Cond.methodLink RX6 350 yX6_paysOf) ∈ T0 := T0_of (i := 1185) (by decide +kernel) rfl
theorem wd_1187 : (Cond.instanceMethod yX6_paysOf) ∈ T0 := T0_of (i := 1187) (by decide +kernel) rfl
theorem wc_yX6_paysOf : Cond.code yX6_paysOf cX6_paysOf 5 (some .int) ∈ T0 := T0_of (i := 1188) (by decide +kernel) rfl
theorem wd_1189 : (Cond.methodLink RL 52 yX6_night) ∈ T0 := T0_of (i := 1189) (by decide +kernel) rfl
theorem wd_1190 : (Cond.instanceMethod yX6_night) ∈ T0 := T0_of (i := 1190) (by decide +kernel) rfl
theorem wd_1191 : (Cond.selects RX6 yX6_night yX6_night) ∈ T0 := T0_of (i := 1191) (by decide +kernel) rfl
theorem wc_yX6_night : Cond.code yX6_night cX6_night 2 (some .int) ∈ T0 := T0_of (i := 1192) (by decide +kernel) rfl
theorem wd_1193 : (Cond.methodLink RX6 356 yX6_passes) ∈ T0 := T0_of (i := 1193) (by decide +kernel) rfl
theorem wd_1195 : (Cond.instanceMethod yX6_passes) ∈ T0 := T0_of (i := 1195) (by decide +kernel) rfl
theorem wc_yX6_passes : Cond.code yX6_passes cX6_passes 6 (some .int) ∈ T0 := T0_of (i := 1196) (by decide +kernel) rfl
theorem wd_1197 : (Cond.methodLink RX6 353 yX6_loads) ∈ T0 := T0_of (i := 1197) (by decide +kernel) rfl
theorem wd_1199 : (Cond.instanceMethod yX6_loads) ∈ T0 := T0_of (i := 1199) (by decide +kernel) rfl
theorem wc_yX6_loads : Cond.code yX6_loads cX6_loads 2 none ∈ T0 := T0_of (i := 1200) (by decide +kernel) rfl
theorem wd_1201 : (Cond.methodLink RL 56 yX6_load) ∈ T0 := T0_of (i := 1201) (by decide +kernel) rfl
theorem wd_1202 : (Cond.instanceMethod yX6_load) ∈ T0 := T0_of (i := 1202) (by decide +kernel) rfl
theorem wd_1203 : (Cond.selects RX6 yX6_load yX6_load) ∈ T0 := T0_of (i := 1203) (by decide +kernel) rfl
theorem wc_yX6_load : Cond.code yX6_load cX6_load 2 (some .int) ∈ T0 := T0_of (i := 1204) (by decide +kernel) rfl
theorem wd_1205 : (Cond.methodLink RL 60 yX6_run) ∈ T0 := T0_of (i := 1205) (by decide +kernel) rfl
theorem wd_1206 : (Cond.instanceMethod yX6_run) ∈ T0 := T0_of (i := 1206) (by decide +kernel) rfl
theorem wd_1207 : (Cond.selects RX6 yX6_run yX6_run) ∈ T0 := T0_of (i := 1207) (by decide +kernel) rfl
theorem wc_yX6_run : Cond.code yX6_run cX6_run 6 (some .int) ∈ T0 := T0_of (i := 1208) (by decide +kernel) rfl
theorem wd_1209 : (Cond.constantLong RX6 359 (30)) ∈ T0 := T0_of (i := 1209) (by decide +kernel) rfl
theorem wd_1210 : (Cond.constantLong RX6 361 (1073741823)) ∈ T0 := T0_of (i := 1210) (by decide +kernel) rfl
theorem wd_1211 : (Cond.methodLink RX6 363 yX6_laysAside) ∈ T0 := T0_of (i := 1211) (by decide +kernel) rfl
theorem wd_1213 : (Cond.instanceMethod yX6_laysAside) ∈ T0 := T0_of (i := 1213) (by decide +kernel) rfl
theorem wc_yX6_laysAside : Cond.code yX6_laysAside cX6_laysAside 2 none ∈ T0 := T0_of (i := 1214) (by decide +kernel) rfl
theorem wd_1215 : (Cond.methodLink RX6 366 yX6_go) ∈ T0 := T0_of (i := 1215) (by decide +kernel) rfl
theorem wd_1217 : (Cond.instanceMethod yX6_go) ∈ T0 := T0_of (i := 1217) (by decide +kernel) rfl
theorem wc_yX6_go : Cond.code yX6_go cX6_go 5 (some .int) ∈ T0 := T0_of (i := 1218) (by decide +kernel) rfl
theorem wd_1219 : (Cond.methodLink RX6 369 yX6_inSet) ∈ T0 := T0_of (i := 1219) (by decide +kernel) rfl
theorem wd_1221 : (Cond.instanceMethod yX6_inSet) ∈ T0 := T0_of (i := 1221) (by decide +kernel) rfl
theorem wc_yX6_inSet : Cond.code yX6_inSet cX6_inSet 3 (some .int) ∈ T0 := T0_of (i := 1222) (by decide +kernel) rfl
theorem wd_1223 : (Cond.methodLink RX6 372 yX6_laysBack) ∈ T0 := T0_of (i := 1223) (by decide +kernel) rfl
theorem wd_1225 : (Cond.instanceMethod yX6_laysBack) ∈ T0 := T0_of (i := 1225) (by decide +kernel) rfl
theorem wc_yX6_laysBack : Cond.code yX6_laysBack cX6_laysBack 2 none ∈ T0 := T0_of (i := 1226) (by decide +kernel) rfl
theorem wd_1227 : (Cond.methodLink RL 64 yX6_cover) ∈ T0 := T0_of (i := 1227) (by decide +kernel) rfl
theorem wd_1228 : (Cond.instanceMethod yX6_cover) ∈ T0 := T0_of (i := 1228) (by decide +kernel) rfl
theorem wd_1229 : (Cond.selects RX6 yX6_cover yX6_cover) ∈ T0 := T0_of (i := 1229) (by decide +kernel) rfl
theorem wc_yX6_cover : Cond.code yX6_cover cX6_cover 7 (some .int) ∈ T0 := T0_of (i := 1230) (by decide +kernel) rfl
theorem wd_1231 : (Cond.constant RX6 375 (1000000)) ∈ T0 := T0_of (i := 1231) (by decide +kernel) rfl
theorem wd_1232 : (Cond.methodLink RX6 376 yX6_bitsOf) ∈ T0 := T0_of (i := 1232) (by decide +kernel) rfl
theorem wd_1233 : (Cond.static yX6_bitsOf) ∈ T0 := T0_of (i := 1233) (by decide +kernel) rfl
theorem wc_yX6_bitsOf : Cond.code yX6_bitsOf cX6_bitsOf 3 (some .int) ∈ T0 := T0_of (i := 1234) (by decide +kernel) rfl
theorem wd_1235 : (Cond.methodLink RL 68 yX6_ask) ∈ T0 := T0_of (i := 1235) (by decide +kernel) rfl
theorem wd_1236 : (Cond.instanceMethod yX6_ask) ∈ T0 := T0_of (i := 1236) (by decide +kernel) rfl
theorem wd_1237 : (Cond.selects RX6 yX6_ask yX6_ask) ∈ T0 := T0_of (i := 1237) (by decide +kernel) rfl
theorem wc_yX6_ask : Cond.code yX6_ask cX6_ask 10 (some .int) ∈ T0 := T0_of (i := 1238) (by decide +kernel) rfl
theorem wd_1239 : (Cond.constantLong RX6 379 (2)) ∈ T0 := T0_of (i := 1239) (by decide +kernel) rfl
theorem wd_1240 : (Cond.methodLink RX6 381 yX6_askedSet) ∈ T0 := T0_of (i := 1240) (by decide +kernel) rfl
theorem wd_1242 : (Cond.instanceMethod yX6_askedSet) ∈ T0 := T0_of (i := 1242) (by decide +kernel) rfl
theorem wc_yX6_askedSet : Cond.code yX6_askedSet cX6_askedSet 3 (some .int) ∈ T0 := T0_of (i := 1243) (by decide +kernel) rfl
theorem wd_1244 : (Cond.methodLink RX6 384 yX6_askJust) ∈ T0 := T0_of (i := 1244) (by decide +kernel) rfl
theorem wd_1246 : (Cond.instanceMethod yX6_askJust) ∈ T0 := T0_of (i := 1246) (by decide +kernel) rfl
theorem wc_yX6_askJust : Cond.code yX6_askJust cX6_askJust 3 none ∈ T0 := T0_of (i := 1247) (by decide +kernel) rfl
theorem wd_1248 : (Cond.methodLink RL 72 yX6_best) ∈ T0 := T0_of (i := 1248) (by decide +kernel) rfl
theorem wd_1249 : (Cond.instanceMethod yX6_best) ∈ T0 := T0_of (i := 1249) (by decide +kernel) rfl
theorem wd_1250 : (Cond.selects RX6 yX6_best yX6_best) ∈ T0 := T0_of (i := 1250) (by decide +kernel) rfl
theorem wc_yX6_best : Cond.code yX6_best cX6_best 2 (some .int) ∈ T0 := T0_of (i := 1251) (by decide +kernel) rfl
theorem wd_1252 : (Cond.methodLink RX6 391 yX6_packed) ∈ T0 := T0_of (i := 1252) (by decide +kernel) rfl
theorem wd_1254 : (Cond.instanceMethod yX6_packed) ∈ T0 := T0_of (i := 1254) (by decide +kernel) rfl
theorem wc_yX6_packed : Cond.code yX6_packed cX6_packed 5 (some .int) ∈ T0 := T0_of (i := 1255) (by decide +kernel) rfl
theorem wd_1256 : (Cond.methodLink RX6 388 yX6_bulkOf) ∈ T0 := T0_of (i := 1256) (by decide +kernel) rfl
theorem wd_1258 : (Cond.instanceMethod yX6_bulkOf) ∈ T0 := T0_of (i := 1258) (by decide +kernel) rfl
theorem wc_yX6_bulkOf : Cond.code yX6_bulkOf cX6_bulkOf 4 (some .int) ∈ T0 := T0_of (i := 1259) (by decide +kernel) rfl
theorem wd_1260 : (Cond.methodLink RX6 394 yX6_lateBy) ∈ T0 := T0_of (i := 1260) (by decide +kernel) rfl
theorem wd_1262 : (Cond.instanceMethod yX6_lateBy) ∈ T0 := T0_of (i := 1262) (by decide +kernel) rfl
theorem wc_yX6_lateBy : Cond.code yX6_lateBy cX6_lateBy 6 (some .int) ∈ T0 := T0_of (i := 1263) (by decide +kernel) rfl
theorem wd_1264 : (Cond.methodLink RX6 397 yX6_mostBy) ∈ T0 := T0_of (i := 1264) (by decide +kernel) rfl
theorem wd_1266 : (Cond.instanceMethod yX6_mostBy) ∈ T0 := T0_of (i := 1266) (by decide +kernel) rfl
theorem wc_yX6_mostBy : Cond.code yX6_mostBy cX6_mostBy 6 (some .int) ∈ T0 := T0_of (i := 1267) (by decide +kernel) rfl
theorem wd_1268 : (Cond.methodLink RL 77 yX6_share) ∈ T0 := T0_of (i := 1268) (by decide +kernel) rfl
theorem wd_1269 : (Cond.instanceMethod yX6_share) ∈ T0 := T0_of (i := 1269) (by decide +kernel) rfl
theorem wd_1270 : (Cond.selects RX6 yX6_share yX6_share) ∈ T0 := T0_of (i := 1270) (by decide +kernel) rfl
theorem wc_yX6_share : Cond.code yX6_share cX6_share 2 (some .long) ∈ T0 := T0_of (i := 1271) (by decide +kernel) rfl
theorem wd_1272 : (Cond.methodLink RX6 400 yX6_lowest) ∈ T0 := T0_of (i := 1272) (by decide +kernel) rfl
theorem wd_1273 : (Cond.static yX6_lowest) ∈ T0 := T0_of (i := 1273) (by decide +kernel) rfl
theorem wc_yX6_lowest : Cond.code yX6_lowest cX6_lowest 11 (some .long) ∈ T0 := T0_of (i := 1274) (by decide +kernel) rfl
theorem wd_1275 : (Cond.constantLong RX6 404 (-4611686018427387904)) ∈ T0 := T0_of (i := 1275) (by decide +kernel) rfl
theorem wd_1276 : (Cond.methodLink RL 81 yX6_tells) ∈ T0 := T0_of (i := 1276) (by decide +kernel) rfl
theorem wd_1277 : (Cond.instanceMethod yX6_tells) ∈ T0 := T0_of (i := 1277) (by decide +kernel) rfl
theorem wd_1278 : (Cond.selects RX6 yX6_tells yX6_tells) ∈ T0 := T0_of (i := 1278) (by decide +kernel) rfl
theorem wc_yX6_tells : Cond.code yX6_tells cX6_tells 11 (some .int) ∈ T0 := T0_of (i := 1279) (by decide +kernel) rfl
theorem wd_1280 : (Cond.methodLink RX6 409 yX6_isSheet) ∈ T0 := T0_of (i := 1280) (by decide +kernel) rfl
theorem wd_1281 : (Cond.static yX6_isSheet) ∈ T0 := T0_of (i := 1281) (by decide +kernel) rfl
theorem wc_yX6_isSheet : Cond.code yX6_isSheet cX6_isSheet 1 (some .boolean) ∈ T0 := T0_of (i := 1282) (by decide +kernel) rfl
theorem wd_1283 : (Cond.constantLong RX6 432 (3)) ∈ T0 := T0_of (i := 1283) (by decide +kernel) rfl
theorem wd_1284 : (Cond.methodLink RX6 406 yX6_firstOther) ∈ T0 := T0_of (i := 1284) (by decide +kernel) rfl
theorem wd_1286 : (Cond.instanceMethod yX6_firstOther) ∈ T0 := T0_of (i := 1286) (by decide +kernel) rfl
theorem wc_yX6_firstOther : Cond.code yX6_firstOther cX6_firstOther 6 (some .int) ∈ T0 := T0_of (i := 1287) (by decide +kernel) rfl
theorem wd_1288 : (Cond.methodLink RX6 412 yX6_likeSet) ∈ T0 := T0_of (i := 1288) (by decide +kernel) rfl
theorem wd_1290 : (Cond.instanceMethod yX6_likeSet) ∈ T0 := T0_of (i := 1290) (by decide +kernel) rfl
theorem wc_yX6_likeSet : Cond.code yX6_likeSet cX6_likeSet 4 (some .int) ∈ T0 := T0_of (i := 1291) (by decide +kernel) rfl
theorem wd_1292 : (Cond.methodLink RL 85 yX6_film) ∈ T0 := T0_of (i := 1292) (by decide +kernel) rfl
theorem wd_1293 : (Cond.instanceMethod yX6_film) ∈ T0 := T0_of (i := 1293) (by decide +kernel) rfl
theorem wd_1294 : (Cond.selects RX6 yX6_film yX6_film) ∈ T0 := T0_of (i := 1294) (by decide +kernel) rfl
theorem wc_yX6_film : Cond.code yX6_film cX6_film 6 (some .int) ∈ T0 := T0_of (i := 1295) (by decide +kernel) rfl
theorem wd_1296 : (Cond.constantLong RX6 415 (20)) ∈ T0 := T0_of (i := 1296) (by decide +kernel) rfl
theorem wd_1297 : (Cond.methodLink RX6 417 yX6_sheet) ∈ T0 := T0_of (i := 1297) (by decide +kernel) rfl
theorem wd_1298 : (Cond.instanceMethod yX6_sheet) ∈ T0 := T0_of (i := 1298) (by decide +kernel) rfl
theorem wd_1299 : (Cond.selects RX6 yX6_sheet yX6_sheet) ∈ T0 := T0_of (i := 1299) (by decide +kernel) rfl
theorem wc_yX6_sheet : Cond.code yX6_sheet cX6_sheet 5 (some .int) ∈ T0 := T0_of (i := 1300) (by decide +kernel) rfl
theorem wd_1301 : (Cond.constantLong RX6 434 (-1)) ∈ T0 := T0_of (i := 1301) (by decide +kernel) rfl
theorem wd_1302 : (Cond.methodLink RL 89 yX6_drawn) ∈ T0 := T0_of (i := 1302) (by decide +kernel) rfl
theorem wd_1303 : (Cond.instanceMethod yX6_drawn) ∈ T0 := T0_of (i := 1303) (by decide +kernel) rfl
theorem wd_1304 : (Cond.selects RX6 yX6_drawn yX6_drawn) ∈ T0 := T0_of (i := 1304) (by decide +kernel) rfl
theorem wc_yX6_drawn : Cond.code yX6_drawn cX6_drawn 3 (some .int) ∈ T0 := T0_of (i := 1305) (by decide +kernel) rfl
theorem wd_1306 : (Cond.methodLink RX6 421 yX6_leftDrawn) ∈ T0 := T0_of (i := 1306) (by decide +kernel) rfl
theorem wd_1308 : (Cond.instanceMethod yX6_leftDrawn) ∈ T0 := T0_of (i := 1308) (by decide +kernel) rfl
theorem wc_yX6_leftDrawn : Cond.code yX6_leftDrawn cX6_leftDrawn 5 (some .int) ∈ T0 := T0_of (i := 1309) (by decide +kernel) rfl
theorem wd_1310 : (Cond.constant RX6 420 (1103515245)) ∈ T0 := T0_of (i := 1310) (by decide +kernel) rfl
theorem wd_1311 : (Cond.methodLink RL 94 yX6_chance) ∈ T0 := T0_of (i := 1311) (by decide +kernel) rfl
theorem wd_1312 : (Cond.instanceMethod yX6_chance) ∈ T0 := T0_of (i := 1312) (by decide +kernel) rfl
theorem wd_1313 : (Cond.selects RX6 yX6_chance yX6_chance) ∈ T0 := T0_of (i := 1313) (by decide +kernel) rfl
theorem wc_yX6_chance : Cond.code yX6_chance cX6_chance 8 (some .long) ∈ T0 := T0_of (i := 1314) (by decide +kernel) rfl
theorem wd_1315 : (Cond.constantLong RX6 424 (999)) ∈ T0 := T0_of (i := 1315) (by decide +kernel) rfl
theorem wd_1316 : (Cond.methodLink RL 98 yX6_image) ∈ T0 := T0_of (i := 1316) (by decide +kernel) rfl
theorem wd_1317 : (Cond.instanceMethod yX6_image) ∈ T0 := T0_of (i := 1317) (by decide +kernel) rfl
theorem wd_1318 : (Cond.selects RX6 yX6_image yX6_image) ∈ T0 := T0_of (i := 1318) (by decide +kernel) rfl
theorem wc_yX6_image : Cond.code yX6_image cX6_image 2 (some .int) ∈ T0 := T0_of (i := 1319) (by decide +kernel) rfl
theorem wd_1320 : (Cond.methodLink RL 102 yX6_back) ∈ T0 := T0_of (i := 1320) (by decide +kernel) rfl
theorem wd_1321 : (Cond.instanceMethod yX6_back) ∈ T0 := T0_of (i := 1321) (by decide +kernel) rfl
theorem wd_1322 : (Cond.selects RX6 yX6_back yX6_back) ∈ T0 := T0_of (i := 1322) (by decide +kernel) rfl
theorem wc_yX6_back : Cond.code yX6_back cX6_back 2 (some .int) ∈ T0 := T0_of (i := 1323) (by decide +kernel) rfl
theorem wd_1324 : (Cond.methodLink RL 106 yX6_count) ∈ T0 := T0_of (i := 1324) (by decide +kernel) rfl
theorem wd_1325 : (Cond.instanceMethod yX6_count) ∈ T0 := T0_of (i := 1325) (by decide +kernel) rfl
theorem wd_1326 : (Cond.selects RX6 yX6_count yX6_count) ∈ T0 := T0_of (i := 1326) (by decide +kernel) rfl
theorem wc_yX6_count : Cond.code yX6_count cX6_count 2 (some .int) ∈ T0 := T0_of (i := 1327) (by decide +kernel) rfl
theorem wd_1328 : (Cond.methodLink RL 110 yX6_sheet) ∈ T0 := T0_of (i := 1328) (by decide +kernel) rfl
theorem wd_1329 : (Cond.methodLink RL 114 yX6_cell) ∈ T0 := T0_of (i := 1329) (by decide +kernel) rfl
theorem wd_1330 : (Cond.instanceMethod yX6_cell) ∈ T0 := T0_of (i := 1330) (by decide +kernel) rfl
theorem wd_1331 : (Cond.selects RX6 yX6_cell yX6_cell) ∈ T0 := T0_of (i := 1331) (by decide +kernel) rfl
theorem wc_yX6_cell : Cond.code yX6_cell cX6_cell 4 (some .int) ∈ T0 := T0_of (i := 1332) (by decide +kernel) rfl
theorem wd_1333 : (Cond.methodLink RL 119 yX6_copy) ∈ T0 := T0_of (i := 1333) (by decide +kernel) rfl
theorem wd_1334 : (Cond.instanceMethod yX6_copy) ∈ T0 := T0_of (i := 1334) (by decide +kernel) rfl
theorem wd_1335 : (Cond.selects RX6 yX6_copy yX6_copy) ∈ T0 := T0_of (i := 1335) (by decide +kernel) rfl
theorem wc_yX6_copy : Cond.code yX6_copy cX6_copy 9 (some .int) ∈ T0 := T0_of (i := 1336) (by decide +kernel) rfl
theorem wd_1337 : (Cond.methodLink RL 124 yX6_street) ∈ T0 := T0_of (i := 1337) (by decide +kernel) rfl
theorem wd_1338 : (Cond.instanceMethod yX6_street) ∈ T0 := T0_of (i := 1338) (by decide +kernel) rfl
theorem wd_1339 : (Cond.selects RX6 yX6_street yX6_street) ∈ T0 := T0_of (i := 1339) (by decide +kernel) rfl
theorem wc_yX6_street : Cond.code yX6_street cX6_street 8 (some .int) ∈ T0 := T0_of (i := 1340) (by decide +kernel) rfl
theorem wd_1341 : (Cond.methodLink RX6 436 yX6_neighbour) ∈ T0 := T0_of (i := 1341) (by decide +kernel) rfl
theorem wd_1342 : (Cond.methodLink RL 128 yX6_taken) ∈ T0 := T0_of (i := 1342) (by decide +kernel) rfl
theorem wd_1343 : (Cond.instanceMethod yX6_taken) ∈ T0 := T0_of (i := 1343) (by decide +kernel) rfl
theorem wd_1344 : (Cond.selects RX6 yX6_taken yX6_taken) ∈ T0 := T0_of (i := 1344) (by decide +kernel) rfl
theorem wc_yX6_taken : Cond.code yX6_taken cX6_taken 4 (some .int) ∈ T0 := T0_of (i := 1345) (by decide +kernel) rfl
theorem wd_1346 : (Cond.methodLink RX6 439 yX6_over) ∈ T0 := T0_of (i := 1346) (by decide +kernel) rfl
theorem wd_1347 : (Cond.static yX6_over) ∈ T0 := T0_of (i := 1347) (by decide +kernel) rfl
theorem wc_yX6_over : Cond.code yX6_over cX6_over 1 (some .int) ∈ T0 := T0_of (i := 1348) (by decide +kernel) rfl
theorem wd_1349 : (Cond.fieldLink RJ0 9 "java/lang/String" "value" "[B") ∈ T0 := T0_of (i := 1349) (by decide +kernel) rfl
theorem wd_1350 : (Cond.fieldLink RJ0 15 "java/lang/String" "coder" "B") ∈ T0 := T0_of (i := 1350) (by decide +kernel) rfl
theorem inX0 : ∀ w ∈ u_ws RX0 TX0 3, w ∈ T0 := by decide +kernel
theorem inX1 : ∀ w ∈ u_ws RX1 TX1 8, w ∈ T0 := by decide +kernel
theorem inX2 : ∀ w ∈ u_ws RX2 TX2 3, w ∈ T0 := by decide +kernel
theorem inX3 : ∀ w ∈ u_ws RX3 TX3 15, w ∈ T0 := by decide +kernel
theorem inX4 : ∀ w ∈ u_ws RX4 TX4 5, w ∈ T0 := by decide +kernel
theorem inX5 : ∀ w ∈ u_ws RX5 TX5 8, w ∈ T0 := by decide +kernel
theorem inX6 : ∀ w ∈ u_ws RX6 TX6 39, w ∈ T0 := by decide +kernel
def q_nw : List Cond := [Cond.fieldLinkNest RX5 96 "SkipOfEightYards$Texts" "steps" "[[I" "SkipOfEightYards", Cond.fieldLinkNest RX5 100 "SkipOfEightYards$Texts" "ends" "[[I" "SkipOfEightYards", Cond.fieldLinkNest RX3 140 "SkipOfEightYards$Texts" "names" "[I" "SkipOfEightYards", Cond.fieldLinkNest RX5 92 "SkipOfEightYards$Texts" "size" "I" "SkipOfEightYards", Cond.fieldLinkNest RX5 107 "SkipOfEightYards$Reader" "size" "I" "SkipOfEightYards", Cond.fieldLinkNest RX5 239 "SkipOfEightYards$Skip" "kind" "[I" "SkipOfEightYards", Cond.fieldLinkNest RX5 242 "SkipOfEightYards$Skip" "number" "[I" "SkipOfEightYards", Cond.fieldLinkNest RX5 111 "SkipOfEightYards$Skip" "night" "I" "SkipOfEightYards", Cond.fieldLinkNest RX5 143 "SkipOfEightYards$Skip" "mine" "I" "SkipOfEightYards", Cond.fieldLinkNest RX5 146 "SkipOfEightYards$Skip" "theirs" "I" "SkipOfEightYards", Cond.fieldLinkNest RX5 108 "SkipOfEightYards$Skip" "rule" "I" "SkipOfEightYards", Cond.fieldLinkNest RX5 193 "SkipOfEightYards$Skip" "things" "I" "SkipOfEightYards", Cond.fieldLinkNest RX5 152 "SkipOfEightYards$Skip" "in" "I" "SkipOfEightYards", Cond.fieldLinkNest RX5 175 "SkipOfEightYards$Skip" "neighbours" "I" "SkipOfEightYards", Cond.fieldLinkNest RX5 178 "SkipOfEightYards$Skip" "asked" "I" "SkipOfEightYards", Cond.fieldLinkNest RX5 164 "SkipOfEightYards$Choice" "first" "I" "SkipOfEightYards", Cond.fieldLinkNest RX5 181 "SkipOfEightYards$Choice" "second" "I" "SkipOfEightYards", Cond.fieldLinkNest RX5 161 "SkipOfEightYards$Choice" "which" "I" "SkipOfEightYards", Cond.fieldLinkNest RX5 235 "SkipOfEightYards$Sheet" "cells" "[I" "SkipOfEightYards", Cond.fieldLinkNest RX5 269 "SkipOfEightYards$Sheet" "sort" "I" "SkipOfEightYards", Cond.fieldLinkNest RX5 220 "SkipOfEightYards$Sheet" "size" "I" "SkipOfEightYards"]
theorem wd_133 : (Cond.fieldLinkNest RX5 96 "SkipOfEightYards$Texts" "steps" "[[I" "SkipOfEightYards") ∈ q_nw := List.mem_of_getElem? (i := 0) rfl
theorem wl_133 : (Cond.fieldLinkNest RX5 96 "SkipOfEightYards$Texts" "steps" "[[I" "SkipOfEightYards") ∈ lw_tbl := List.mem_of_getElem? (i := 133) (by decide +kernel)
theorem wd_135 : (Cond.fieldLinkNest RX5 100 "SkipOfEightYards$Texts" "ends" "[[I" "SkipOfEightYards") ∈ q_nw := List.mem_of_getElem? (i := 1) rfl
theorem wl_135 : (Cond.fieldLinkNest RX5 100 "SkipOfEightYards$Texts" "ends" "[[I" "SkipOfEightYards") ∈ lw_tbl := List.mem_of_getElem? (i := 135) (by decide +kernel)
theorem wd_137 : (Cond.fieldLinkNest RX3 140 "SkipOfEightYards$Texts" "names" "[I" "SkipOfEightYards") ∈ q_nw := List.mem_of_getElem? (i := 2) rfl
theorem wl_137 : (Cond.fieldLinkNest RX3 140 "SkipOfEightYards$Texts" "names" "[I" "SkipOfEightYards") ∈ lw_tbl := List.mem_of_getElem? (i := 137) (by decide +kernel)
theorem wd_140 : (Cond.fieldLinkNest RX5 92 "SkipOfEightYards$Texts" "size" "I" "SkipOfEightYards") ∈ q_nw := List.mem_of_getElem? (i := 3) rfl
theorem wl_140 : (Cond.fieldLinkNest RX5 92 "SkipOfEightYards$Texts" "size" "I" "SkipOfEightYards") ∈ lw_tbl := List.mem_of_getElem? (i := 140) (by decide +kernel)
theorem wd_161 : (Cond.fieldLinkNest RX5 107 "SkipOfEightYards$Reader" "size" "I" "SkipOfEightYards") ∈ q_nw := List.mem_of_getElem? (i := 4) rfl
theorem wl_161 : (Cond.fieldLinkNest RX5 107 "SkipOfEightYards$Reader" "size" "I" "SkipOfEightYards") ∈ lw_tbl := List.mem_of_getElem? (i := 161) (by decide +kernel)
theorem wd_195 : (Cond.fieldLinkNest RX5 239 "SkipOfEightYards$Skip" "kind" "[I" "SkipOfEightYards") ∈ q_nw := List.mem_of_getElem? (i := 5) rfl
theorem wl_195 : (Cond.fieldLinkNest RX5 239 "SkipOfEightYards$Skip" "kind" "[I" "SkipOfEightYards") ∈ lw_tbl := List.mem_of_getElem? (i := 195) (by decide +kernel)
theorem wd_197 : (Cond.fieldLinkNest RX5 242 "SkipOfEightYards$Skip" "number" "[I" "SkipOfEightYards") ∈ q_nw := List.mem_of_getElem? (i := 6) rfl
theorem wl_197 : (Cond.fieldLinkNest RX5 242 "SkipOfEightYards$Skip" "number" "[I" "SkipOfEightYards") ∈ lw_tbl := List.mem_of_getElem? (i := 197) (by decide +kernel)
theorem wd_199 : (Cond.fieldLinkNest RX5 111 "SkipOfEightYards$Skip" "night" "I" "SkipOfEightYards") ∈ q_nw := List.mem_of_getElem? (i := 7) rfl
theorem wl_199 : (Cond.fieldLinkNest RX5 111 "SkipOfEightYards$Skip" "night" "I" "SkipOfEightYards") ∈ lw_tbl := List.mem_of_getElem? (i := 199) (by decide +kernel)
theorem wd_203 : (Cond.fieldLinkNest RX5 143 "SkipOfEightYards$Skip" "mine" "I" "SkipOfEightYards") ∈ q_nw := List.mem_of_getElem? (i := 8) rfl
theorem wl_203 : (Cond.fieldLinkNest RX5 143 "SkipOfEightYards$Skip" "mine" "I" "SkipOfEightYards") ∈ lw_tbl := List.mem_of_getElem? (i := 203) (by decide +kernel)
theorem wd_205 : (Cond.fieldLinkNest RX5 146 "SkipOfEightYards$Skip" "theirs" "I" "SkipOfEightYards") ∈ q_nw := List.mem_of_getElem? (i := 9) rfl
theorem wl_205 : (Cond.fieldLinkNest RX5 146 "SkipOfEightYards$Skip" "theirs" "I" "SkipOfEightYards") ∈ lw_tbl := List.mem_of_getElem? (i := 205) (by decide +kernel)
theorem wd_207 : (Cond.fieldLinkNest RX5 108 "SkipOfEightYards$Skip" "rule" "I" "SkipOfEightYards") ∈ q_nw := List.mem_of_getElem? (i := 10) rfl
theorem wl_207 : (Cond.fieldLinkNest RX5 108 "SkipOfEightYards$Skip" "rule" "I" "SkipOfEightYards") ∈ lw_tbl := List.mem_of_getElem? (i := 207) (by decide +kernel)
theorem wd_209 : (Cond.fieldLinkNest RX5 193 "SkipOfEightYards$Skip" "things" "I" "SkipOfEightYards") ∈ q_nw := List.mem_of_getElem? (i := 11) rfl
theorem wl_209 : (Cond.fieldLinkNest RX5 193 "SkipOfEightYards$Skip" "things" "I" "SkipOfEightYards") ∈ lw_tbl := List.mem_of_getElem? (i := 209) (by decide +kernel)
theorem wd_211 : (Cond.fieldLinkNest RX5 152 "SkipOfEightYards$Skip" "in" "I" "SkipOfEightYards") ∈ q_nw := List.mem_of_getElem? (i := 12) rfl
theorem wl_211 : (Cond.fieldLinkNest RX5 152 "SkipOfEightYards$Skip" "in" "I" "SkipOfEightYards") ∈ lw_tbl := List.mem_of_getElem? (i := 211) (by decide +kernel)
theorem wd_213 : (Cond.fieldLinkNest RX5 175 "SkipOfEightYards$Skip" "neighbours" "I" "SkipOfEightYards") ∈ q_nw := List.mem_of_getElem? (i := 13) rfl
theorem wl_213 : (Cond.fieldLinkNest RX5 175 "SkipOfEightYards$Skip" "neighbours" "I" "SkipOfEightYards") ∈ lw_tbl := List.mem_of_getElem? (i := 213) (by decide +kernel)
theorem wd_215 : (Cond.fieldLinkNest RX5 178 "SkipOfEightYards$Skip" "asked" "I" "SkipOfEightYards") ∈ q_nw := List.mem_of_getElem? (i := 14) rfl
theorem wl_215 : (Cond.fieldLinkNest RX5 178 "SkipOfEightYards$Skip" "asked" "I" "SkipOfEightYards") ∈ lw_tbl := List.mem_of_getElem? (i := 215) (by decide +kernel)
theorem wd_255 : (Cond.fieldLinkNest RX5 164 "SkipOfEightYards$Choice" "first" "I" "SkipOfEightYards") ∈ q_nw := List.mem_of_getElem? (i := 15) rfl
theorem wl_255 : (Cond.fieldLinkNest RX5 164 "SkipOfEightYards$Choice" "first" "I" "SkipOfEightYards") ∈ lw_tbl := List.mem_of_getElem? (i := 255) (by decide +kernel)
theorem wd_257 : (Cond.fieldLinkNest RX5 181 "SkipOfEightYards$Choice" "second" "I" "SkipOfEightYards") ∈ q_nw := List.mem_of_getElem? (i := 16) rfl
theorem wl_257 : (Cond.fieldLinkNest RX5 181 "SkipOfEightYards$Choice" "second" "I" "SkipOfEightYards") ∈ lw_tbl := List.mem_of_getElem? (i := 257) (by decide +kernel)
theorem wd_259 : (Cond.fieldLinkNest RX5 161 "SkipOfEightYards$Choice" "which" "I" "SkipOfEightYards") ∈ q_nw := List.mem_of_getElem? (i := 17) rfl
theorem wl_259 : (Cond.fieldLinkNest RX5 161 "SkipOfEightYards$Choice" "which" "I" "SkipOfEightYards") ∈ lw_tbl := List.mem_of_getElem? (i := 259) (by decide +kernel)
theorem wd_275 : (Cond.fieldLinkNest RX5 235 "SkipOfEightYards$Sheet" "cells" "[I" "SkipOfEightYards") ∈ q_nw := List.mem_of_getElem? (i := 18) rfl
theorem wl_275 : (Cond.fieldLinkNest RX5 235 "SkipOfEightYards$Sheet" "cells" "[I" "SkipOfEightYards") ∈ lw_tbl := List.mem_of_getElem? (i := 275) (by decide +kernel)
theorem wd_277 : (Cond.fieldLinkNest RX5 269 "SkipOfEightYards$Sheet" "sort" "I" "SkipOfEightYards") ∈ q_nw := List.mem_of_getElem? (i := 19) rfl
theorem wl_277 : (Cond.fieldLinkNest RX5 269 "SkipOfEightYards$Sheet" "sort" "I" "SkipOfEightYards") ∈ lw_tbl := List.mem_of_getElem? (i := 277) (by decide +kernel)
theorem wd_279 : (Cond.fieldLinkNest RX5 220 "SkipOfEightYards$Sheet" "size" "I" "SkipOfEightYards") ∈ q_nw := List.mem_of_getElem? (i := 20) rfl
theorem wl_279 : (Cond.fieldLinkNest RX5 220 "SkipOfEightYards$Sheet" "size" "I" "SkipOfEightYards") ∈ lw_tbl := List.mem_of_getElem? (i := 279) (by decide +kernel)
theorem q_nwi : ∀ w ∈ q_nw, w ∈ lw_tbl := List.forall_mem_cons.mpr ⟨wl_133, List.forall_mem_cons.mpr ⟨wl_135, List.forall_mem_cons.mpr ⟨wl_137, List.forall_mem_cons.mpr ⟨wl_140, List.forall_mem_cons.mpr ⟨wl_161, List.forall_mem_cons.mpr ⟨wl_195, List.forall_mem_cons.mpr ⟨wl_197, List.forall_mem_cons.mpr ⟨wl_199, List.forall_mem_cons.mpr ⟨wl_203, List.forall_mem_cons.mpr ⟨wl_205, List.forall_mem_cons.mpr ⟨wl_207, List.forall_mem_cons.mpr ⟨wl_209, List.forall_mem_cons.mpr ⟨wl_211, List.forall_mem_cons.mpr ⟨wl_213, List.forall_mem_cons.mpr ⟨wl_215, List.forall_mem_cons.mpr ⟨wl_255, List.forall_mem_cons.mpr ⟨wl_257, List.forall_mem_cons.mpr ⟨wl_259, List.forall_mem_cons.mpr ⟨wl_275, List.forall_mem_cons.mpr ⟨wl_277, List.forall_mem_cons.mpr ⟨wl_279, fun _ h => absurd h List.not_mem_nil⟩⟩⟩⟩⟩⟩⟩⟩⟩⟩⟩⟩⟩⟩⟩⟩⟩⟩⟩⟩⟩
