/-! ONE list of words for all methods: what the tables hold and a callee may rest on -/
def wsA : List Cond := lw_tbl.filter goodWord
theorem wsA_good : ∀ w ∈ wsA, (w.onTables && w.keeps) = true ∨ ∃ ty, w = .arrayClass ty := fun w h => good_of_word (List.mem_filter.mp h).2
theorem wsA_in : ∀ w ∈ wsA, w ∈ lw_tbl := fun w h => (List.mem_filter.mp h).1
theorem wsA_t1 {w : Cond} (h : w ∈ tables_1_1) (g : goodWord w = true) : w ∈ wsA := List.mem_filter.mpr ⟨List.mem_append_right _ (List.mem_append_left _ h), g⟩
theorem wsA_t2 {w : Cond} (h : w ∈ tables_1_2) (g : goodWord w = true) : w ∈ wsA := List.mem_filter.mpr ⟨List.mem_append_right _ (List.mem_append_right _ (List.mem_append_left _ h)), g⟩
theorem wsA_t3 {w : Cond} (h : w ∈ tables_1_3) (g : goodWord w = true) : w ∈ wsA := List.mem_filter.mpr ⟨List.mem_append_right _ (List.mem_append_right _ (List.mem_append_right _ (List.mem_append_left _ h))), g⟩
theorem wsA_t4 {w : Cond} (h : w ∈ tables_1_4) (g : goodWord w = true) : w ∈ wsA := List.mem_filter.mpr ⟨List.mem_append_right _ (List.mem_append_right _ (List.mem_append_right _ (List.mem_append_right _ (h)))), g⟩
theorem wsA_s {w : Cond} (h : w ∈ k2_sels lw_privs) (g : goodWord w = true) : w ∈ wsA := List.mem_filter.mpr ⟨List.mem_append_left _ h, g⟩
theorem mw_0 : Cond.classLink RL 7 RX4 ∈ wsA := wsA_t1 (List.mem_of_getElem? (i := 11) rfl) rfl
theorem mw_1 : Cond.instantiable RX4 7 ∈ wsA := wsA_t1 (List.mem_of_getElem? (i := 12) rfl) rfl
theorem mw_2 : Cond.initialized RX4 ∈ wsA := wsA_t1 (List.mem_of_getElem? (i := 1) rfl) rfl
theorem mw_3 : Cond.classLink RL 10 RX5 ∈ wsA := wsA_t3 (List.mem_of_getElem? (i := 26) rfl) rfl
theorem mw_4 : Cond.instantiable RX5 10 ∈ wsA := wsA_t3 (List.mem_of_getElem? (i := 27) rfl) rfl
theorem mw_5 : Cond.initialized RX5 ∈ wsA := wsA_t1 (List.mem_of_getElem? (i := 7) rfl) rfl
theorem mw_6 : Cond.methodLink RL 9 yX4_init ∈ wsA := wsA_t1 (List.mem_of_getElem? (i := 13) rfl) rfl
theorem mw_7 : Cond.instanceMethod yX4_init ∈ wsA := wsA_t1 (List.mem_of_getElem? (i := 14) rfl) rfl
theorem mw_8 : Cond.code yX4_init cX4_init 2 none ∈ wsA := wsA_t1 (List.mem_of_getElem? (i := 15) rfl) rfl
theorem mw_9 : Cond.methodLink RX4 1 objectInit ∈ wsA := wsA_t1 (List.mem_of_getElem? (i := 16) rfl) rfl
theorem mw_10 : Cond.instanceMethod objectInit ∈ wsA := wsA_t1 (List.mem_of_getElem? (i := 17) rfl) rfl
theorem mw_11 : Cond.code objectInit ⟨#[0xb1]⟩ 1 none ∈ wsA := wsA_t1 (List.mem_of_getElem? (i := 18) rfl) rfl
theorem mw_12 : Cond.classLink RX4 9 RX2 ∈ wsA := wsA_t1 (List.mem_of_getElem? (i := 19) rfl) rfl
theorem mw_13 : Cond.fieldLink RX4 11 "BigPolys" "registers" "[LBigPolys$Poly;" ∈ wsA := wsA_t1 (List.mem_of_getElem? (i := 133) rfl) rfl
theorem mw_14 : Cond.instantiable RX2 2 ∈ wsA := wsA_t1 (List.mem_of_getElem? (i := 21) rfl) rfl
theorem mw_15 : Cond.initialized RX2 ∈ wsA := wsA_t1 (List.mem_of_getElem? (i := 2) rfl) rfl
theorem mw_16 : Cond.classLink RX4 18 RX1 ∈ wsA := wsA_t1 (List.mem_of_getElem? (i := 64) rfl) rfl
theorem mw_17 : Cond.instantiable RX1 7 ∈ wsA := wsA_t1 (List.mem_of_getElem? (i := 65) rfl) rfl
theorem mw_18 : Cond.initialized RX1 ∈ wsA := wsA_t1 (List.mem_of_getElem? (i := 4) rfl) rfl
theorem mw_19 : Cond.fieldLink RX4 21 "BigPolys" "chain" "LBigPolys$Chain;" ∈ wsA := wsA_t1 (List.mem_of_getElem? (i := 135) rfl) rfl
theorem mw_20 : Cond.fieldLink RX4 29 "BigPolys" "bench" "LBigPolys$Bench;" ∈ wsA := wsA_t1 (List.mem_of_getElem? (i := 134) rfl) rfl
theorem mw_21 : Cond.fieldLink RX4 30 "BigPolys" "handRegister" "I" ∈ wsA := wsA_t1 (List.mem_of_getElem? (i := 136) rfl) rfl
theorem mw_22 : Cond.methodLink RX4 15 yX2_init ∈ wsA := wsA_t1 (List.mem_of_getElem? (i := 22) rfl) rfl
theorem mw_23 : Cond.instanceMethod yX2_init ∈ wsA := wsA_t1 (List.mem_of_getElem? (i := 23) rfl) rfl
theorem mw_24 : Cond.code yX2_init cX2_init 4 none ∈ wsA := wsA_t1 (List.mem_of_getElem? (i := 24) rfl) rfl
theorem mw_25 : Cond.methodLink RX2 3 objectInit ∈ wsA := wsA_t1 (List.mem_of_getElem? (i := 25) rfl) rfl
theorem mw_26 : Cond.classLink RX2 9 RX3 ∈ wsA := wsA_t1 (List.mem_of_getElem? (i := 26) rfl) rfl
theorem mw_27 : Cond.fieldLink RX2 11 "BigPolys$Poly" "terms" "[LBigPolys$Whole;" ∈ wsA := wsA_t1 (List.mem_of_getElem? (i := 51) rfl) rfl
theorem mw_28 : Cond.instantiable RX3 3 ∈ wsA := wsA_t1 (List.mem_of_getElem? (i := 28) rfl) rfl
theorem mw_29 : Cond.initialized RX3 ∈ wsA := wsA_t1 (List.mem_of_getElem? (i := 3) rfl) rfl
theorem mw_30 : Cond.fieldLink RX2 20 "BigPolys$Poly" "degree" "I" ∈ wsA := wsA_t1 (List.mem_of_getElem? (i := 55) rfl) rfl
theorem mw_31 : Cond.methodLink RX2 17 yX3_init ∈ wsA := wsA_t1 (List.mem_of_getElem? (i := 29) rfl) rfl
theorem mw_32 : Cond.instanceMethod yX3_init ∈ wsA := wsA_t1 (List.mem_of_getElem? (i := 30) rfl) rfl
theorem mw_33 : Cond.code yX3_init cX3_init 2 none ∈ wsA := wsA_t1 (List.mem_of_getElem? (i := 31) rfl) rfl
theorem mw_34 : Cond.methodLink RX3 3 objectInit ∈ wsA := wsA_t1 (List.mem_of_getElem? (i := 32) rfl) rfl
theorem mw_35 : Cond.arrayClass .int ∈ wsA := wsA_t1 (List.mem_of_getElem? (i := 50) rfl) rfl
theorem mw_36 : Cond.fieldLink RX3 9 "BigPolys$Whole" "digits" "[I" ∈ wsA := wsA_t1 (List.mem_of_getElem? (i := 33) rfl) rfl
theorem mw_37 : Cond.methodLink RX4 20 yX1_init ∈ wsA := wsA_t1 (List.mem_of_getElem? (i := 66) rfl) rfl
theorem mw_38 : Cond.instanceMethod yX1_init ∈ wsA := wsA_t1 (List.mem_of_getElem? (i := 67) rfl) rfl
theorem mw_39 : Cond.code yX1_init cX1_init 2 none ∈ wsA := wsA_t1 (List.mem_of_getElem? (i := 68) rfl) rfl
theorem mw_40 : Cond.methodLink RX1 3 objectInit ∈ wsA := wsA_t1 (List.mem_of_getElem? (i := 69) rfl) rfl
theorem mw_41 : Cond.classLink RX1 9 RX0 ∈ wsA := wsA_t1 (List.mem_of_getElem? (i := 70) rfl) rfl
theorem mw_42 : Cond.instantiable RX0 6 ∈ wsA := wsA_t1 (List.mem_of_getElem? (i := 71) rfl) rfl
theorem mw_43 : Cond.initialized RX0 ∈ wsA := wsA_t1 (List.mem_of_getElem? (i := 5) rfl) rfl
theorem mw_44 : Cond.fieldLink RX1 12 "BigPolys$Chain" "bench" "LBigPolys$Bench;" ∈ wsA := wsA_t1 (List.mem_of_getElem? (i := 110) rfl) rfl
theorem mw_45 : Cond.classLink RX1 18 RX2 ∈ wsA := wsA_t1 (List.mem_of_getElem? (i := 103) rfl) rfl
theorem mw_46 : Cond.fieldLink RX1 20 "BigPolys$Chain" "links" "[LBigPolys$Poly;" ∈ wsA := wsA_t1 (List.mem_of_getElem? (i := 112) rfl) rfl
theorem mw_47 : Cond.classLink RX1 24 RX3 ∈ wsA := wsA_t1 (List.mem_of_getElem? (i := 104) rfl) rfl
theorem mw_48 : Cond.fieldLink RX1 29 "BigPolys$Chain" "lead" "LBigPolys$Whole;" ∈ wsA := wsA_t1 (List.mem_of_getElem? (i := 113) rfl) rfl
theorem mw_49 : Cond.fieldLink RX1 33 "BigPolys$Chain" "height" "LBigPolys$Whole;" ∈ wsA := wsA_t1 (List.mem_of_getElem? (i := 114) rfl) rfl
theorem mw_50 : Cond.fieldLink RX1 36 "BigPolys$Chain" "power" "LBigPolys$Whole;" ∈ wsA := wsA_t1 (List.mem_of_getElem? (i := 115) rfl) rfl
theorem mw_51 : Cond.fieldLink RX1 39 "BigPolys$Chain" "next" "LBigPolys$Whole;" ∈ wsA := wsA_t1 (List.mem_of_getElem? (i := 116) rfl) rfl
theorem mw_52 : Cond.methodLink RX1 42 Lib.Math.min.name ∈ wsA := wsA_t1 (List.mem_of_getElem? (i := 106) rfl) rfl
theorem mw_53 : Cond.static Lib.Math.min.name ∈ wsA := wsA_t1 (List.mem_of_getElem? (i := 107) rfl) rfl
theorem mw_54 : Cond.initialized "java/lang/Math" ∈ wsA := wsA_t1 (List.mem_of_getElem? (i := 6) rfl) rfl
theorem mw_55 : Cond.code Lib.Math.min.name Lib.Math.min.code 2 (some .int) ∈ wsA := wsA_t1 (List.mem_of_getElem? (i := 108) rfl) rfl
theorem mw_56 : Cond.instanceMethod yX0_init ∈ wsA := wsA_t1 (List.mem_of_getElem? (i := 73) rfl) rfl
theorem mw_57 : Cond.code yX0_init cX0_init 1 none ∈ wsA := wsA_t1 (List.mem_of_getElem? (i := 74) rfl) rfl
theorem mw_58 : Cond.methodLink RX0 3 objectInit ∈ wsA := wsA_t1 (List.mem_of_getElem? (i := 75) rfl) rfl
theorem mw_59 : Cond.classLink RX0 9 RX2 ∈ wsA := wsA_t1 (List.mem_of_getElem? (i := 76) rfl) rfl
theorem mw_60 : Cond.fieldLink RX0 14 "BigPolys$Bench" "work" "LBigPolys$Poly;" ∈ wsA := wsA_t1 (List.mem_of_getElem? (i := 80) rfl) rfl
theorem mw_61 : Cond.fieldLink RX0 20 "BigPolys$Bench" "part" "LBigPolys$Poly;" ∈ wsA := wsA_t1 (List.mem_of_getElem? (i := 83) rfl) rfl
theorem mw_62 : Cond.classLink RX0 23 RX3 ∈ wsA := wsA_t1 (List.mem_of_getElem? (i := 78) rfl) rfl
theorem mw_63 : Cond.fieldLink RX0 28 "BigPolys$Bench" "one" "LBigPolys$Whole;" ∈ wsA := wsA_t1 (List.mem_of_getElem? (i := 86) rfl) rfl
theorem mw_64 : Cond.fieldLink RX0 32 "BigPolys$Bench" "two" "LBigPolys$Whole;" ∈ wsA := wsA_t1 (List.mem_of_getElem? (i := 87) rfl) rfl
theorem mw_65 : Cond.fieldLink RX0 35 "BigPolys$Bench" "three" "LBigPolys$Whole;" ∈ wsA := wsA_t1 (List.mem_of_getElem? (i := 88) rfl) rfl
theorem mw_66 : Cond.fieldLink RX0 38 "BigPolys$Bench" "four" "LBigPolys$Whole;" ∈ wsA := wsA_t1 (List.mem_of_getElem? (i := 89) rfl) rfl
theorem mw_67 : Cond.methodLink RX0 11 yX2_init ∈ wsA := wsA_t1 (List.mem_of_getElem? (i := 77) rfl) rfl
theorem mw_68 : Cond.methodLink RX0 25 yX3_init ∈ wsA := wsA_t1 (List.mem_of_getElem? (i := 79) rfl) rfl
theorem mw_69 : Cond.methodLink RX1 26 yX3_init ∈ wsA := wsA_t1 (List.mem_of_getElem? (i := 105) rfl) rfl
theorem mw_70 : Cond.methodLink RX1 48 yX2_init ∈ wsA := wsA_t1 (List.mem_of_getElem? (i := 109) rfl) rfl
theorem mw_71 : Cond.methodLink RL 12 yX5_init ∈ wsA := wsA_t3 (List.mem_of_getElem? (i := 28) rfl) rfl
theorem mw_72 : Cond.instanceMethod yX5_init ∈ wsA := wsA_t3 (List.mem_of_getElem? (i := 29) rfl) rfl
theorem mw_73 : Cond.code yX5_init cX5_init 2 none ∈ wsA := wsA_t3 (List.mem_of_getElem? (i := 30) rfl) rfl
theorem mw_74 : Cond.methodLink RX5 1 objectInit ∈ wsA := wsA_t3 (List.mem_of_getElem? (i := 31) rfl) rfl
theorem mw_75 : Cond.constant RX5 7 (99880) ∈ wsA := wsA_t3 (List.mem_of_getElem? (i := 32) rfl) rfl
theorem mw_76 : Cond.arrayClass .long ∈ wsA := wsA_t3 (List.mem_of_getElem? (i := 64) rfl) rfl
theorem mw_77 : Cond.fieldLink RX5 8 "BigPolysModel" "limbs" "[J" ∈ wsA := wsA_t3 (List.mem_of_getElem? (i := 33) rfl) rfl
theorem mw_78 : Cond.fieldLink RX5 14 "BigPolysModel" "sizes" "[I" ∈ wsA := wsA_t3 (List.mem_of_getElem? (i := 34) rfl) rfl
theorem mw_79 : Cond.fieldLink RX5 18 "BigPolysModel" "signs" "[I" ∈ wsA := wsA_t3 (List.mem_of_getElem? (i := 35) rfl) rfl
theorem mw_80 : Cond.fieldLink RX5 21 "BigPolysModel" "degrees" "[I" ∈ wsA := wsA_t3 (List.mem_of_getElem? (i := 36) rfl) rfl
theorem mw_81 : Cond.fieldLink RX5 24 "BigPolysModel" "handRegister" "I" ∈ wsA := wsA_t3 (List.mem_of_getElem? (i := 37) rfl) rfl
theorem mw_82 : Cond.fieldLink RX5 28 "BigPolysModel" "handRow" "[I" ∈ wsA := wsA_t3 (List.mem_of_getElem? (i := 41) rfl) rfl
theorem mw_83 : Cond.methodLink RL 13 yX4_coefficient ∈ wsA := wsA_t1 (List.mem_of_getElem? (i := 155) rfl) rfl
theorem mw_84 : Cond.instanceMethod yX4_coefficient ∈ wsA := wsA_t1 (List.mem_of_getElem? (i := 156) rfl) rfl
theorem mw_85 : Cond.selects RX4 yX4_coefficient yX4_coefficient ∈ wsA := wsA_t1 (List.mem_of_getElem? (i := 157) rfl) rfl
theorem mw_86 : Cond.code yX4_coefficient cX4_coefficient 4 (some .boolean) ∈ wsA := wsA_t1 (List.mem_of_getElem? (i := 158) rfl) rfl
theorem mw_87 : Cond.fieldLink RX4 50 "BigPolys" "handPower" "I" ∈ wsA := wsA_t1 (List.mem_of_getElem? (i := 137) rfl) rfl
theorem mw_88 : Cond.fieldLink RX4 53 "BigPolys" "handSign" "I" ∈ wsA := wsA_t1 (List.mem_of_getElem? (i := 138) rfl) rfl
theorem mw_89 : Cond.fieldLink RX4 56 "BigPolys" "handCount" "I" ∈ wsA := wsA_t1 (List.mem_of_getElem? (i := 139) rfl) rfl
theorem mw_90 : Cond.methodLink RX4 34 yX4_isCoefficient ∈ wsA := wsA_t1 (List.mem_of_getElem? (i := 159) rfl) rfl
theorem mw_91 : Cond.static yX4_isCoefficient ∈ wsA := wsA_t1 (List.mem_of_getElem? (i := 160) rfl) rfl
theorem mw_92 : Cond.code yX4_isCoefficient cX4_isCoefficient 2 (some .boolean) ∈ wsA := wsA_t1 (List.mem_of_getElem? (i := 161) rfl) rfl
theorem mw_93 : Cond.methodLink RX4 114 yX4_isRegister ∈ wsA := wsA_t1 (List.mem_of_getElem? (i := 162) rfl) rfl
theorem mw_94 : Cond.static yX4_isRegister ∈ wsA := wsA_t1 (List.mem_of_getElem? (i := 163) rfl) rfl
theorem mw_95 : Cond.code yX4_isRegister cX4_isRegister 1 (some .boolean) ∈ wsA := wsA_t1 (List.mem_of_getElem? (i := 164) rfl) rfl
theorem mw_96 : Cond.methodLink RX4 42 yX3_clear ∈ wsA := wsA_t1 (List.mem_of_getElem? (i := 165) rfl) rfl
theorem mw_97 : Cond.instanceMethod yX3_clear ∈ wsA := wsA_t1 (List.mem_of_getElem? (i := 166) rfl) rfl
theorem mw_98 : Cond.selects RX3 yX3_clear yX3_clear ∈ wsA := wsA_t1 (List.mem_of_getElem? (i := 167) rfl) rfl
theorem mw_99 : Cond.code yX3_clear cX3_clear 1 none ∈ wsA := wsA_t1 (List.mem_of_getElem? (i := 168) rfl) rfl
theorem mw_100 : Cond.fieldLink RX3 15 "BigPolys$Whole" "size" "I" ∈ wsA := wsA_t1 (List.mem_of_getElem? (i := 35) rfl) rfl
theorem mw_101 : Cond.fieldLink RX3 19 "BigPolys$Whole" "sign" "I" ∈ wsA := wsA_t1 (List.mem_of_getElem? (i := 38) rfl) rfl
theorem mw_102 : Cond.methodLink RX4 47 yX2_measure ∈ wsA := wsA_t1 (List.mem_of_getElem? (i := 169) rfl) rfl
theorem mw_103 : Cond.instanceMethod yX2_measure ∈ wsA := wsA_t1 (List.mem_of_getElem? (i := 170) rfl) rfl
theorem mw_104 : Cond.selects RX2 yX2_measure yX2_measure ∈ wsA := wsA_t1 (List.mem_of_getElem? (i := 171) rfl) rfl
theorem mw_105 : Cond.code yX2_measure cX2_measure 2 none ∈ wsA := wsA_t1 (List.mem_of_getElem? (i := 172) rfl) rfl
theorem mw_106 : Cond.methodLink RL 17 yX5_coefficient ∈ wsA := wsA_t3 (List.mem_of_getElem? (i := 65) rfl) rfl
theorem mw_107 : Cond.instanceMethod yX5_coefficient ∈ wsA := wsA_t3 (List.mem_of_getElem? (i := 66) rfl) rfl
theorem mw_108 : Cond.selects RX5 yX5_coefficient yX5_coefficient ∈ wsA := wsA_t3 (List.mem_of_getElem? (i := 67) rfl) rfl
theorem mw_109 : Cond.code yX5_coefficient cX5_coefficient 4 (some .boolean) ∈ wsA := wsA_t3 (List.mem_of_getElem? (i := 68) rfl) rfl
theorem mw_110 : Cond.fieldLink RX5 113 "BigPolysModel" "handPower" "I" ∈ wsA := wsA_t3 (List.mem_of_getElem? (i := 38) rfl) rfl
theorem mw_111 : Cond.fieldLink RX5 116 "BigPolysModel" "handSign" "I" ∈ wsA := wsA_t3 (List.mem_of_getElem? (i := 39) rfl) rfl
theorem mw_112 : Cond.fieldLink RX5 119 "BigPolysModel" "handWords" "I" ∈ wsA := wsA_t3 (List.mem_of_getElem? (i := 40) rfl) rfl
theorem mw_113 : Cond.methodLink RX5 106 yX5_isRegister ∈ wsA := wsA_t3 (List.mem_of_getElem? (i := 69) rfl) rfl
theorem mw_114 : Cond.static yX5_isRegister ∈ wsA := wsA_t3 (List.mem_of_getElem? (i := 70) rfl) rfl
theorem mw_115 : Cond.code yX5_isRegister cX5_isRegister 1 (some .boolean) ∈ wsA := wsA_t3 (List.mem_of_getElem? (i := 71) rfl) rfl
theorem mw_116 : Cond.methodLink RX5 110 yX5_isPower ∈ wsA := wsA_t3 (List.mem_of_getElem? (i := 72) rfl) rfl
theorem mw_117 : Cond.static yX5_isPower ∈ wsA := wsA_t3 (List.mem_of_getElem? (i := 73) rfl) rfl
theorem mw_118 : Cond.code yX5_isPower cX5_isPower 1 (some .boolean) ∈ wsA := wsA_t3 (List.mem_of_getElem? (i := 74) rfl) rfl
theorem mw_119 : Cond.methodLink RX5 66 yX5_at ∈ wsA := wsA_t3 (List.mem_of_getElem? (i := 75) rfl) rfl
theorem mw_120 : Cond.static yX5_at ∈ wsA := wsA_t3 (List.mem_of_getElem? (i := 76) rfl) rfl
theorem mw_121 : Cond.code yX5_at cX5_at 2 (some .int) ∈ wsA := wsA_t3 (List.mem_of_getElem? (i := 77) rfl) rfl
theorem mw_122 : Cond.methodLink RX5 49 yX5_zero ∈ wsA := wsA_t3 (List.mem_of_getElem? (i := 78) rfl) rfl
theorem mw_123 : Cond.instanceMethod yX5_zero ∈ wsA := wsA_t3 (List.mem_of_getElem? (i := 80) rfl) rfl
theorem mw_124 : Cond.selects RX5 yX5_zero yX5_zero ∈ wsA := wsA_s (List.mem_of_getElem? (i := 15) rfl) rfl
theorem mw_125 : Cond.code yX5_zero cX5_zero 2 none ∈ wsA := wsA_t3 (List.mem_of_getElem? (i := 81) rfl) rfl
theorem mw_126 : Cond.methodLink RX5 78 yX5_measure ∈ wsA := wsA_t3 (List.mem_of_getElem? (i := 82) rfl) rfl
theorem mw_127 : Cond.instanceMethod yX5_measure ∈ wsA := wsA_t3 (List.mem_of_getElem? (i := 84) rfl) rfl
theorem mw_128 : Cond.selects RX5 yX5_measure yX5_measure ∈ wsA := wsA_s (List.mem_of_getElem? (i := 16) rfl) rfl
theorem mw_129 : Cond.code yX5_measure cX5_measure 2 none ∈ wsA := wsA_t3 (List.mem_of_getElem? (i := 85) rfl) rfl
theorem mw_130 : Cond.methodLink RL 18 yX4_word ∈ wsA := wsA_t1 (List.mem_of_getElem? (i := 173) rfl) rfl
theorem mw_131 : Cond.instanceMethod yX4_word ∈ wsA := wsA_t1 (List.mem_of_getElem? (i := 174) rfl) rfl
theorem mw_132 : Cond.selects RX4 yX4_word yX4_word ∈ wsA := wsA_t1 (List.mem_of_getElem? (i := 175) rfl) rfl
theorem mw_133 : Cond.code yX4_word cX4_word 2 (some .boolean) ∈ wsA := wsA_t1 (List.mem_of_getElem? (i := 176) rfl) rfl
theorem mw_134 : Cond.methodLink RX4 59 yX3_put ∈ wsA := wsA_t1 (List.mem_of_getElem? (i := 177) rfl) rfl
theorem mw_135 : Cond.instanceMethod yX3_put ∈ wsA := wsA_t1 (List.mem_of_getElem? (i := 178) rfl) rfl
theorem mw_136 : Cond.selects RX3 yX3_put yX3_put ∈ wsA := wsA_t1 (List.mem_of_getElem? (i := 179) rfl) rfl
theorem mw_137 : Cond.code yX3_put cX3_put 4 none ∈ wsA := wsA_t1 (List.mem_of_getElem? (i := 180) rfl) rfl
theorem mw_138 : Cond.methodLink RL 22 yX5_word ∈ wsA := wsA_t3 (List.mem_of_getElem? (i := 86) rfl) rfl
theorem mw_139 : Cond.instanceMethod yX5_word ∈ wsA := wsA_t3 (List.mem_of_getElem? (i := 87) rfl) rfl
theorem mw_140 : Cond.selects RX5 yX5_word yX5_word ∈ wsA := wsA_t3 (List.mem_of_getElem? (i := 88) rfl) rfl
theorem mw_141 : Cond.code yX5_word cX5_word 4 (some .boolean) ∈ wsA := wsA_t3 (List.mem_of_getElem? (i := 89) rfl) rfl
theorem mw_142 : Cond.methodLink RX5 52 yX5_shiftUp ∈ wsA := wsA_t3 (List.mem_of_getElem? (i := 90) rfl) rfl
theorem mw_143 : Cond.instanceMethod yX5_shiftUp ∈ wsA := wsA_t3 (List.mem_of_getElem? (i := 92) rfl) rfl
theorem mw_144 : Cond.selects RX5 yX5_shiftUp yX5_shiftUp ∈ wsA := wsA_s (List.mem_of_getElem? (i := 17) rfl) rfl
theorem mw_145 : Cond.code yX5_shiftUp cX5_shiftUp 9 none ∈ wsA := wsA_t3 (List.mem_of_getElem? (i := 93) rfl) rfl
theorem mw_146 : Cond.constantLong RX5 31 (268435455) ∈ wsA := wsA_t3 (List.mem_of_getElem? (i := 94) rfl) rfl
theorem mw_147 : Cond.methodLink RX5 41 yX5_trim ∈ wsA := wsA_t3 (List.mem_of_getElem? (i := 95) rfl) rfl
theorem mw_148 : Cond.instanceMethod yX5_trim ∈ wsA := wsA_t3 (List.mem_of_getElem? (i := 97) rfl) rfl
theorem mw_149 : Cond.selects RX5 yX5_trim yX5_trim ∈ wsA := wsA_s (List.mem_of_getElem? (i := 18) rfl) rfl
theorem mw_150 : Cond.code yX5_trim cX5_trim 2 none ∈ wsA := wsA_t3 (List.mem_of_getElem? (i := 98) rfl) rfl
theorem mw_151 : Cond.methodLink RX5 92 yX5_put ∈ wsA := wsA_t3 (List.mem_of_getElem? (i := 99) rfl) rfl
theorem mw_152 : Cond.instanceMethod yX5_put ∈ wsA := wsA_t3 (List.mem_of_getElem? (i := 101) rfl) rfl
theorem mw_153 : Cond.selects RX5 yX5_put yX5_put ∈ wsA := wsA_s (List.mem_of_getElem? (i := 19) rfl) rfl
theorem mw_154 : Cond.code yX5_put cX5_put 6 none ∈ wsA := wsA_t3 (List.mem_of_getElem? (i := 102) rfl) rfl
theorem mw_155 : Cond.methodLink RX5 55 yX5_sum ∈ wsA := wsA_t3 (List.mem_of_getElem? (i := 103) rfl) rfl
theorem mw_156 : Cond.instanceMethod yX5_sum ∈ wsA := wsA_t3 (List.mem_of_getElem? (i := 105) rfl) rfl
theorem mw_157 : Cond.selects RX5 yX5_sum yX5_sum ∈ wsA := wsA_s (List.mem_of_getElem? (i := 20) rfl) rfl
theorem mw_158 : Cond.code yX5_sum cX5_sum 17 none ∈ wsA := wsA_t3 (List.mem_of_getElem? (i := 106) rfl) rfl
theorem mw_159 : Cond.methodLink RX5 33 yX5_copy ∈ wsA := wsA_t3 (List.mem_of_getElem? (i := 107) rfl) rfl
theorem mw_160 : Cond.instanceMethod yX5_copy ∈ wsA := wsA_t3 (List.mem_of_getElem? (i := 109) rfl) rfl
theorem mw_161 : Cond.selects RX5 yX5_copy yX5_copy ∈ wsA := wsA_s (List.mem_of_getElem? (i := 21) rfl) rfl
theorem mw_162 : Cond.code yX5_copy cX5_copy 4 none ∈ wsA := wsA_t3 (List.mem_of_getElem? (i := 110) rfl) rfl
theorem mw_163 : Cond.methodLink RX5 37 yX5_compareSizes ∈ wsA := wsA_t3 (List.mem_of_getElem? (i := 111) rfl) rfl
theorem mw_164 : Cond.instanceMethod yX5_compareSizes ∈ wsA := wsA_t3 (List.mem_of_getElem? (i := 113) rfl) rfl
theorem mw_165 : Cond.selects RX5 yX5_compareSizes yX5_compareSizes ∈ wsA := wsA_s (List.mem_of_getElem? (i := 22) rfl) rfl
theorem mw_166 : Cond.code yX5_compareSizes cX5_compareSizes 4 (some .int) ∈ wsA := wsA_t3 (List.mem_of_getElem? (i := 114) rfl) rfl
theorem mw_167 : Cond.methodLink RL 23 yX4_add ∈ wsA := wsA_t1 (List.mem_of_getElem? (i := 181) rfl) rfl
theorem mw_168 : Cond.instanceMethod yX4_add ∈ wsA := wsA_t1 (List.mem_of_getElem? (i := 182) rfl) rfl
theorem mw_169 : Cond.selects RX4 yX4_add yX4_add ∈ wsA := wsA_t1 (List.mem_of_getElem? (i := 183) rfl) rfl
theorem mw_170 : Cond.code yX4_add cX4_add 5 (some .int) ∈ wsA := wsA_t1 (List.mem_of_getElem? (i := 184) rfl) rfl
theorem mw_171 : Cond.methodLink RX4 63 yX4_areRegisters ∈ wsA := wsA_t1 (List.mem_of_getElem? (i := 185) rfl) rfl
theorem mw_172 : Cond.static yX4_areRegisters ∈ wsA := wsA_t1 (List.mem_of_getElem? (i := 186) rfl) rfl
theorem mw_173 : Cond.code yX4_areRegisters cX4_areRegisters 3 (some .boolean) ∈ wsA := wsA_t1 (List.mem_of_getElem? (i := 187) rfl) rfl
theorem mw_174 : Cond.methodLink RX4 67 yX0_sum ∈ wsA := wsA_t1 (List.mem_of_getElem? (i := 188) rfl) rfl
theorem mw_175 : Cond.instanceMethod yX0_sum ∈ wsA := wsA_t1 (List.mem_of_getElem? (i := 189) rfl) rfl
theorem mw_176 : Cond.selects RX0 yX0_sum yX0_sum ∈ wsA := wsA_t1 (List.mem_of_getElem? (i := 190) rfl) rfl
theorem mw_177 : Cond.code yX0_sum cX0_sum 5 none ∈ wsA := wsA_t1 (List.mem_of_getElem? (i := 191) rfl) rfl
theorem mw_178 : Cond.methodLink RX0 41 yX2_load ∈ wsA := wsA_t1 (List.mem_of_getElem? (i := 192) rfl) rfl
theorem mw_179 : Cond.instanceMethod yX2_load ∈ wsA := wsA_t1 (List.mem_of_getElem? (i := 193) rfl) rfl
theorem mw_180 : Cond.selects RX2 yX2_load yX2_load ∈ wsA := wsA_t1 (List.mem_of_getElem? (i := 194) rfl) rfl
theorem mw_181 : Cond.code yX2_load cX2_load 3 none ∈ wsA := wsA_t1 (List.mem_of_getElem? (i := 195) rfl) rfl
theorem mw_182 : Cond.methodLink RX2 31 yX3_load ∈ wsA := wsA_t1 (List.mem_of_getElem? (i := 196) rfl) rfl
theorem mw_183 : Cond.instanceMethod yX3_load ∈ wsA := wsA_t1 (List.mem_of_getElem? (i := 197) rfl) rfl
theorem mw_184 : Cond.selects RX3 yX3_load yX3_load ∈ wsA := wsA_t1 (List.mem_of_getElem? (i := 198) rfl) rfl
theorem mw_185 : Cond.code yX3_load cX3_load 2 none ∈ wsA := wsA_t1 (List.mem_of_getElem? (i := 199) rfl) rfl
theorem mw_186 : Cond.methodLink RX3 29 Lib.Math.min.name ∈ wsA := wsA_t1 (List.mem_of_getElem? (i := 200) rfl) rfl
theorem mw_187 : Cond.methodLink RX3 35 arraycopyName ∈ wsA := wsA_t1 (List.mem_of_getElem? (i := 201) rfl) rfl
theorem mw_188 : Cond.native arraycopyName ∈ wsA := wsA_t1 (List.mem_of_getElem? (i := 203) rfl) rfl
theorem mw_189 : Cond.static arraycopyName ∈ wsA := wsA_t1 (List.mem_of_getElem? (i := 202) rfl) rfl
theorem mw_190 : Cond.initialized "java/lang/System" ∈ wsA := wsA_t1 (List.mem_of_getElem? (i := 8) rfl) rfl
theorem mw_191 : Cond.methodLink RX3 41 yX3_trim ∈ wsA := wsA_t1 (List.mem_of_getElem? (i := 204) rfl) rfl
theorem mw_192 : Cond.instanceMethod yX3_trim ∈ wsA := wsA_t1 (List.mem_of_getElem? (i := 206) rfl) rfl
theorem mw_193 : Cond.selects RX3 yX3_trim yX3_trim ∈ wsA := wsA_s (List.mem_of_getElem? (i := 0) rfl) rfl
theorem mw_194 : Cond.code yX3_trim cX3_trim 1 none ∈ wsA := wsA_t1 (List.mem_of_getElem? (i := 207) rfl) rfl
theorem mw_195 : Cond.methodLink RX2 24 yX3_clear ∈ wsA := wsA_t1 (List.mem_of_getElem? (i := 208) rfl) rfl
theorem mw_196 : Cond.methodLink RX2 35 yX2_measure ∈ wsA := wsA_t1 (List.mem_of_getElem? (i := 209) rfl) rfl
theorem mw_197 : Cond.methodLink RX0 53 yX3_plus ∈ wsA := wsA_t1 (List.mem_of_getElem? (i := 210) rfl) rfl
theorem mw_198 : Cond.instanceMethod yX3_plus ∈ wsA := wsA_t1 (List.mem_of_getElem? (i := 211) rfl) rfl
theorem mw_199 : Cond.selects RX3 yX3_plus yX3_plus ∈ wsA := wsA_t1 (List.mem_of_getElem? (i := 212) rfl) rfl
theorem mw_200 : Cond.code yX3_plus cX3_plus 4 none ∈ wsA := wsA_t1 (List.mem_of_getElem? (i := 213) rfl) rfl
theorem mw_201 : Cond.methodLink RX3 48 yX3_join ∈ wsA := wsA_t1 (List.mem_of_getElem? (i := 214) rfl) rfl
theorem mw_202 : Cond.instanceMethod yX3_join ∈ wsA := wsA_t1 (List.mem_of_getElem? (i := 216) rfl) rfl
theorem mw_203 : Cond.selects RX3 yX3_join yX3_join ∈ wsA := wsA_s (List.mem_of_getElem? (i := 1) rfl) rfl
theorem mw_204 : Cond.code yX3_join cX3_join 8 none ∈ wsA := wsA_t1 (List.mem_of_getElem? (i := 217) rfl) rfl
theorem mw_205 : Cond.methodLink RX3 56 Lib.Math.max.name ∈ wsA := wsA_t1 (List.mem_of_getElem? (i := 218) rfl) rfl
theorem mw_206 : Cond.static Lib.Math.max.name ∈ wsA := wsA_t1 (List.mem_of_getElem? (i := 219) rfl) rfl
theorem mw_207 : Cond.code Lib.Math.max.name Lib.Math.max.code 2 (some .int) ∈ wsA := wsA_t1 (List.mem_of_getElem? (i := 220) rfl) rfl
theorem mw_208 : Cond.constant RX3 59 (2147483647) ∈ wsA := wsA_t1 (List.mem_of_getElem? (i := 221) rfl) rfl
theorem mw_209 : Cond.methodLink RX3 44 yX3_compareAbs ∈ wsA := wsA_t1 (List.mem_of_getElem? (i := 222) rfl) rfl
theorem mw_210 : Cond.instanceMethod yX3_compareAbs ∈ wsA := wsA_t1 (List.mem_of_getElem? (i := 224) rfl) rfl
theorem mw_211 : Cond.selects RX3 yX3_compareAbs yX3_compareAbs ∈ wsA := wsA_s (List.mem_of_getElem? (i := 2) rfl) rfl
theorem mw_212 : Cond.code yX3_compareAbs cX3_compareAbs 3 (some .int) ∈ wsA := wsA_t1 (List.mem_of_getElem? (i := 225) rfl) rfl
theorem mw_213 : Cond.methodLink RX3 52 yX3_differ ∈ wsA := wsA_t1 (List.mem_of_getElem? (i := 226) rfl) rfl
theorem mw_214 : Cond.instanceMethod yX3_differ ∈ wsA := wsA_t1 (List.mem_of_getElem? (i := 228) rfl) rfl
theorem mw_215 : Cond.selects RX3 yX3_differ yX3_differ ∈ wsA := wsA_s (List.mem_of_getElem? (i := 3) rfl) rfl
theorem mw_216 : Cond.code yX3_differ cX3_differ 8 none ∈ wsA := wsA_t1 (List.mem_of_getElem? (i := 229) rfl) rfl
theorem mw_217 : Cond.methodLink RX0 57 yX2_measure ∈ wsA := wsA_t1 (List.mem_of_getElem? (i := 230) rfl) rfl
theorem mw_218 : Cond.methodLink RX4 77 yX4_deliver ∈ wsA := wsA_t1 (List.mem_of_getElem? (i := 231) rfl) rfl
theorem mw_219 : Cond.instanceMethod yX4_deliver ∈ wsA := wsA_t1 (List.mem_of_getElem? (i := 233) rfl) rfl
theorem mw_220 : Cond.selects RX4 yX4_deliver yX4_deliver ∈ wsA := wsA_s (List.mem_of_getElem? (i := 4) rfl) rfl
theorem mw_221 : Cond.code yX4_deliver cX4_deliver 3 (some .int) ∈ wsA := wsA_t1 (List.mem_of_getElem? (i := 234) rfl) rfl
theorem mw_222 : Cond.methodLink RX4 159 yX2_fits ∈ wsA := wsA_t1 (List.mem_of_getElem? (i := 235) rfl) rfl
theorem mw_223 : Cond.instanceMethod yX2_fits ∈ wsA := wsA_t1 (List.mem_of_getElem? (i := 236) rfl) rfl
theorem mw_224 : Cond.selects RX2 yX2_fits yX2_fits ∈ wsA := wsA_t1 (List.mem_of_getElem? (i := 237) rfl) rfl
theorem mw_225 : Cond.code yX2_fits cX2_fits 2 (some .boolean) ∈ wsA := wsA_t1 (List.mem_of_getElem? (i := 238) rfl) rfl
theorem mw_226 : Cond.methodLink RX4 163 yX2_load ∈ wsA := wsA_t1 (List.mem_of_getElem? (i := 239) rfl) rfl
theorem mw_227 : Cond.methodLink RL 27 yX5_add ∈ wsA := wsA_t3 (List.mem_of_getElem? (i := 115) rfl) rfl
theorem mw_228 : Cond.instanceMethod yX5_add ∈ wsA := wsA_t3 (List.mem_of_getElem? (i := 116) rfl) rfl
theorem mw_229 : Cond.selects RX5 yX5_add yX5_add ∈ wsA := wsA_t3 (List.mem_of_getElem? (i := 117) rfl) rfl
theorem mw_230 : Cond.code yX5_add cX5_add 6 (some .int) ∈ wsA := wsA_t3 (List.mem_of_getElem? (i := 118) rfl) rfl
theorem mw_231 : Cond.methodLink RX5 122 yX5_result ∈ wsA := wsA_t3 (List.mem_of_getElem? (i := 119) rfl) rfl
theorem mw_232 : Cond.instanceMethod yX5_result ∈ wsA := wsA_t3 (List.mem_of_getElem? (i := 121) rfl) rfl
theorem mw_233 : Cond.selects RX5 yX5_result yX5_result ∈ wsA := wsA_s (List.mem_of_getElem? (i := 23) rfl) rfl
theorem mw_234 : Cond.code yX5_result cX5_result 4 (some .int) ∈ wsA := wsA_t3 (List.mem_of_getElem? (i := 122) rfl) rfl
theorem mw_235 : Cond.methodLink RX5 45 yX5_bitsOf ∈ wsA := wsA_t3 (List.mem_of_getElem? (i := 123) rfl) rfl
theorem mw_236 : Cond.instanceMethod yX5_bitsOf ∈ wsA := wsA_t3 (List.mem_of_getElem? (i := 125) rfl) rfl
theorem mw_237 : Cond.selects RX5 yX5_bitsOf yX5_bitsOf ∈ wsA := wsA_s (List.mem_of_getElem? (i := 24) rfl) rfl
theorem mw_238 : Cond.code yX5_bitsOf cX5_bitsOf 5 (some .int) ∈ wsA := wsA_t3 (List.mem_of_getElem? (i := 126) rfl) rfl
theorem mw_239 : Cond.methodLink RX5 72 yX5_copyAll ∈ wsA := wsA_t3 (List.mem_of_getElem? (i := 127) rfl) rfl
theorem mw_240 : Cond.instanceMethod yX5_copyAll ∈ wsA := wsA_t3 (List.mem_of_getElem? (i := 129) rfl) rfl
theorem mw_241 : Cond.selects RX5 yX5_copyAll yX5_copyAll ∈ wsA := wsA_s (List.mem_of_getElem? (i := 25) rfl) rfl
theorem mw_242 : Cond.code yX5_copyAll cX5_copyAll 4 none ∈ wsA := wsA_t3 (List.mem_of_getElem? (i := 130) rfl) rfl
theorem mw_243 : Cond.methodLink RL 28 yX4_multiply ∈ wsA := wsA_t2 (List.mem_of_getElem? (i := 0) rfl) rfl
theorem mw_244 : Cond.instanceMethod yX4_multiply ∈ wsA := wsA_t2 (List.mem_of_getElem? (i := 1) rfl) rfl
theorem mw_245 : Cond.selects RX4 yX4_multiply yX4_multiply ∈ wsA := wsA_t2 (List.mem_of_getElem? (i := 2) rfl) rfl
theorem mw_246 : Cond.code yX4_multiply cX4_multiply 4 (some .int) ∈ wsA := wsA_t2 (List.mem_of_getElem? (i := 3) rfl) rfl
theorem mw_247 : Cond.methodLink RX4 84 yX0_times ∈ wsA := wsA_t2 (List.mem_of_getElem? (i := 4) rfl) rfl
theorem mw_248 : Cond.instanceMethod yX0_times ∈ wsA := wsA_t2 (List.mem_of_getElem? (i := 5) rfl) rfl
theorem mw_249 : Cond.selects RX0 yX0_times yX0_times ∈ wsA := wsA_t2 (List.mem_of_getElem? (i := 6) rfl) rfl
theorem mw_250 : Cond.code yX0_times cX0_times 5 none ∈ wsA := wsA_t2 (List.mem_of_getElem? (i := 7) rfl) rfl
theorem mw_251 : Cond.methodLink RX0 60 yX2_clear ∈ wsA := wsA_t2 (List.mem_of_getElem? (i := 8) rfl) rfl
theorem mw_252 : Cond.instanceMethod yX2_clear ∈ wsA := wsA_t2 (List.mem_of_getElem? (i := 9) rfl) rfl
theorem mw_253 : Cond.selects RX2 yX2_clear yX2_clear ∈ wsA := wsA_t2 (List.mem_of_getElem? (i := 10) rfl) rfl
theorem mw_254 : Cond.code yX2_clear cX2_clear 2 none ∈ wsA := wsA_t2 (List.mem_of_getElem? (i := 11) rfl) rfl
theorem mw_255 : Cond.methodLink RX0 63 yX3_product ∈ wsA := wsA_t2 (List.mem_of_getElem? (i := 12) rfl) rfl
theorem mw_256 : Cond.instanceMethod yX3_product ∈ wsA := wsA_t2 (List.mem_of_getElem? (i := 13) rfl) rfl
theorem mw_257 : Cond.selects RX3 yX3_product yX3_product ∈ wsA := wsA_t2 (List.mem_of_getElem? (i := 14) rfl) rfl
theorem mw_258 : Cond.code yX3_product cX3_product 12 none ∈ wsA := wsA_t2 (List.mem_of_getElem? (i := 15) rfl) rfl
theorem mw_259 : Cond.constantLong RX3 60 (2147483647) ∈ wsA := wsA_t2 (List.mem_of_getElem? (i := 22) rfl) rfl
theorem mw_260 : Cond.methodLink RX3 62 yJ7_fill_fda19 ∈ wsA := wsA_t2 (List.mem_of_getElem? (i := 16) rfl) rfl
theorem mw_261 : Cond.static yJ7_fill_fda19 ∈ wsA := wsA_t2 (List.mem_of_getElem? (i := 17) rfl) rfl
theorem mw_262 : Cond.initialized RJ7 ∈ wsA := wsA_t1 (List.mem_of_getElem? (i := 9) rfl) rfl
theorem mw_263 : Cond.code yJ7_fill_fda19 cJ7_fill_fda19 5 none ∈ wsA := wsA_t2 (List.mem_of_getElem? (i := 18) rfl) rfl
theorem mw_264 : Cond.methodLink RJ7 13 yJ7_rangeCheck_23922 ∈ wsA := wsA_t2 (List.mem_of_getElem? (i := 19) rfl) rfl
theorem mw_265 : Cond.static yJ7_rangeCheck_23922 ∈ wsA := wsA_t2 (List.mem_of_getElem? (i := 20) rfl) rfl
theorem mw_266 : Cond.code yJ7_rangeCheck_23922 cJ7_rangeCheck_23922 3 none ∈ wsA := wsA_t2 (List.mem_of_getElem? (i := 21) rfl) rfl
theorem mw_267 : Cond.methodLink RL 32 yX5_multiply ∈ wsA := wsA_t3 (List.mem_of_getElem? (i := 131) rfl) rfl
theorem mw_268 : Cond.instanceMethod yX5_multiply ∈ wsA := wsA_t3 (List.mem_of_getElem? (i := 132) rfl) rfl
theorem mw_269 : Cond.selects RX5 yX5_multiply yX5_multiply ∈ wsA := wsA_t3 (List.mem_of_getElem? (i := 133) rfl) rfl
theorem mw_270 : Cond.code yX5_multiply cX5_multiply 6 (some .int) ∈ wsA := wsA_t3 (List.mem_of_getElem? (i := 134) rfl) rfl
theorem mw_271 : Cond.methodLink RX5 85 yX5_clear ∈ wsA := wsA_t3 (List.mem_of_getElem? (i := 135) rfl) rfl
theorem mw_272 : Cond.instanceMethod yX5_clear ∈ wsA := wsA_t3 (List.mem_of_getElem? (i := 137) rfl) rfl
theorem mw_273 : Cond.selects RX5 yX5_clear yX5_clear ∈ wsA := wsA_s (List.mem_of_getElem? (i := 26) rfl) rfl
theorem mw_274 : Cond.code yX5_clear cX5_clear 3 none ∈ wsA := wsA_t3 (List.mem_of_getElem? (i := 138) rfl) rfl
theorem mw_275 : Cond.methodLink RX5 75 yX5_times ∈ wsA := wsA_t3 (List.mem_of_getElem? (i := 139) rfl) rfl
theorem mw_276 : Cond.instanceMethod yX5_times ∈ wsA := wsA_t3 (List.mem_of_getElem? (i := 141) rfl) rfl
theorem mw_277 : Cond.selects RX5 yX5_times yX5_times ∈ wsA := wsA_s (List.mem_of_getElem? (i := 27) rfl) rfl
theorem mw_278 : Cond.code yX5_times cX5_times 11 none ∈ wsA := wsA_t3 (List.mem_of_getElem? (i := 142) rfl) rfl
theorem mw_279 : Cond.methodLink RL 33 yX4_derive ∈ wsA := wsA_t2 (List.mem_of_getElem? (i := 23) rfl) rfl
theorem mw_280 : Cond.instanceMethod yX4_derive ∈ wsA := wsA_t2 (List.mem_of_getElem? (i := 24) rfl) rfl
theorem mw_281 : Cond.selects RX4 yX4_derive yX4_derive ∈ wsA := wsA_t2 (List.mem_of_getElem? (i := 25) rfl) rfl
theorem mw_282 : Cond.code yX4_derive cX4_derive 3 (some .int) ∈ wsA := wsA_t2 (List.mem_of_getElem? (i := 26) rfl) rfl
theorem mw_283 : Cond.methodLink RX4 88 yX2_slopeOf ∈ wsA := wsA_t2 (List.mem_of_getElem? (i := 27) rfl) rfl
theorem mw_284 : Cond.instanceMethod yX2_slopeOf ∈ wsA := wsA_t2 (List.mem_of_getElem? (i := 28) rfl) rfl
theorem mw_285 : Cond.selects RX2 yX2_slopeOf yX2_slopeOf ∈ wsA := wsA_t2 (List.mem_of_getElem? (i := 29) rfl) rfl
theorem mw_286 : Cond.code yX2_slopeOf cX2_slopeOf 3 none ∈ wsA := wsA_t2 (List.mem_of_getElem? (i := 30) rfl) rfl
theorem mw_287 : Cond.methodLink RX2 38 yX3_scale ∈ wsA := wsA_t2 (List.mem_of_getElem? (i := 31) rfl) rfl
theorem mw_288 : Cond.instanceMethod yX3_scale ∈ wsA := wsA_t2 (List.mem_of_getElem? (i := 32) rfl) rfl
theorem mw_289 : Cond.selects RX3 yX3_scale yX3_scale ∈ wsA := wsA_t2 (List.mem_of_getElem? (i := 33) rfl) rfl
theorem mw_290 : Cond.code yX3_scale cX3_scale 10 none ∈ wsA := wsA_t2 (List.mem_of_getElem? (i := 34) rfl) rfl
theorem mw_291 : Cond.methodLink RX3 22 yX3_clear ∈ wsA := wsA_t2 (List.mem_of_getElem? (i := 35) rfl) rfl
theorem mw_292 : Cond.methodLink RL 37 yX5_derive ∈ wsA := wsA_t3 (List.mem_of_getElem? (i := 143) rfl) rfl
theorem mw_293 : Cond.instanceMethod yX5_derive ∈ wsA := wsA_t3 (List.mem_of_getElem? (i := 144) rfl) rfl
theorem mw_294 : Cond.selects RX5 yX5_derive yX5_derive ∈ wsA := wsA_t3 (List.mem_of_getElem? (i := 145) rfl) rfl
theorem mw_295 : Cond.code yX5_derive cX5_derive 3 (some .int) ∈ wsA := wsA_t3 (List.mem_of_getElem? (i := 146) rfl) rfl
theorem mw_296 : Cond.methodLink RX5 96 yX5_deriveTo ∈ wsA := wsA_t3 (List.mem_of_getElem? (i := 147) rfl) rfl
theorem mw_297 : Cond.instanceMethod yX5_deriveTo ∈ wsA := wsA_t3 (List.mem_of_getElem? (i := 149) rfl) rfl
theorem mw_298 : Cond.selects RX5 yX5_deriveTo yX5_deriveTo ∈ wsA := wsA_s (List.mem_of_getElem? (i := 28) rfl) rfl
theorem mw_299 : Cond.code yX5_deriveTo cX5_deriveTo 4 none ∈ wsA := wsA_t3 (List.mem_of_getElem? (i := 150) rfl) rfl
theorem mw_300 : Cond.methodLink RL 38 yX4_shift ∈ wsA := wsA_t2 (List.mem_of_getElem? (i := 36) rfl) rfl
theorem mw_301 : Cond.instanceMethod yX4_shift ∈ wsA := wsA_t2 (List.mem_of_getElem? (i := 37) rfl) rfl
theorem mw_302 : Cond.selects RX4 yX4_shift yX4_shift ∈ wsA := wsA_t2 (List.mem_of_getElem? (i := 38) rfl) rfl
theorem mw_303 : Cond.code yX4_shift cX4_shift 4 (some .int) ∈ wsA := wsA_t2 (List.mem_of_getElem? (i := 39) rfl) rfl
theorem mw_304 : Cond.methodLink RX4 92 yX0_move ∈ wsA := wsA_t2 (List.mem_of_getElem? (i := 40) rfl) rfl
theorem mw_305 : Cond.instanceMethod yX0_move ∈ wsA := wsA_t2 (List.mem_of_getElem? (i := 41) rfl) rfl
theorem mw_306 : Cond.selects RX0 yX0_move yX0_move ∈ wsA := wsA_t2 (List.mem_of_getElem? (i := 42) rfl) rfl
theorem mw_307 : Cond.code yX0_move cX0_move 5 none ∈ wsA := wsA_t2 (List.mem_of_getElem? (i := 43) rfl) rfl
theorem mw_308 : Cond.methodLink RX0 67 yX3_load ∈ wsA := wsA_t2 (List.mem_of_getElem? (i := 44) rfl) rfl
theorem mw_309 : Cond.methodLink RX0 70 yX3_scale ∈ wsA := wsA_t2 (List.mem_of_getElem? (i := 45) rfl) rfl
theorem mw_310 : Cond.methodLink RL 41 yX5_shift ∈ wsA := wsA_t3 (List.mem_of_getElem? (i := 151) rfl) rfl
theorem mw_311 : Cond.instanceMethod yX5_shift ∈ wsA := wsA_t3 (List.mem_of_getElem? (i := 152) rfl) rfl
theorem mw_312 : Cond.selects RX5 yX5_shift yX5_shift ∈ wsA := wsA_t3 (List.mem_of_getElem? (i := 153) rfl) rfl
theorem mw_313 : Cond.code yX5_shift cX5_shift 6 (some .int) ∈ wsA := wsA_t3 (List.mem_of_getElem? (i := 154) rfl) rfl
theorem mw_314 : Cond.methodLink RL 42 yX4_remainder ∈ wsA := wsA_t2 (List.mem_of_getElem? (i := 46) rfl) rfl
theorem mw_315 : Cond.instanceMethod yX4_remainder ∈ wsA := wsA_t2 (List.mem_of_getElem? (i := 47) rfl) rfl
theorem mw_316 : Cond.selects RX4 yX4_remainder yX4_remainder ∈ wsA := wsA_t2 (List.mem_of_getElem? (i := 48) rfl) rfl
theorem mw_317 : Cond.code yX4_remainder cX4_remainder 4 (some .int) ∈ wsA := wsA_t2 (List.mem_of_getElem? (i := 49) rfl) rfl
theorem mw_318 : Cond.methodLink RX4 96 yX0_rest ∈ wsA := wsA_t2 (List.mem_of_getElem? (i := 50) rfl) rfl
theorem mw_319 : Cond.instanceMethod yX0_rest ∈ wsA := wsA_t2 (List.mem_of_getElem? (i := 51) rfl) rfl
theorem mw_320 : Cond.selects RX0 yX0_rest yX0_rest ∈ wsA := wsA_t2 (List.mem_of_getElem? (i := 52) rfl) rfl
theorem mw_321 : Cond.code yX0_rest cX0_rest 4 none ∈ wsA := wsA_t2 (List.mem_of_getElem? (i := 53) rfl) rfl
theorem mw_322 : Cond.methodLink RX0 74 yX0_reduce ∈ wsA := wsA_t2 (List.mem_of_getElem? (i := 54) rfl) rfl
theorem mw_323 : Cond.instanceMethod yX0_reduce ∈ wsA := wsA_t2 (List.mem_of_getElem? (i := 55) rfl) rfl
theorem mw_324 : Cond.selects RX0 yX0_reduce yX0_reduce ∈ wsA := wsA_t2 (List.mem_of_getElem? (i := 56) rfl) rfl
theorem mw_325 : Cond.code yX0_reduce cX0_reduce 6 none ∈ wsA := wsA_t2 (List.mem_of_getElem? (i := 57) rfl) rfl
theorem mw_326 : Cond.methodLink RX0 84 yX3_clear ∈ wsA := wsA_t2 (List.mem_of_getElem? (i := 58) rfl) rfl
theorem mw_327 : Cond.methodLink RX0 88 yX3_negate ∈ wsA := wsA_t2 (List.mem_of_getElem? (i := 59) rfl) rfl
theorem mw_328 : Cond.instanceMethod yX3_negate ∈ wsA := wsA_t2 (List.mem_of_getElem? (i := 60) rfl) rfl
theorem mw_329 : Cond.selects RX3 yX3_negate yX3_negate ∈ wsA := wsA_t2 (List.mem_of_getElem? (i := 61) rfl) rfl
theorem mw_330 : Cond.code yX3_negate cX3_negate 1 none ∈ wsA := wsA_t2 (List.mem_of_getElem? (i := 62) rfl) rfl
theorem mw_331 : Cond.methodLink RX0 77 yX2_leadSign ∈ wsA := wsA_t2 (List.mem_of_getElem? (i := 63) rfl) rfl
theorem mw_332 : Cond.instanceMethod yX2_leadSign ∈ wsA := wsA_t2 (List.mem_of_getElem? (i := 64) rfl) rfl
theorem mw_333 : Cond.selects RX2 yX2_leadSign yX2_leadSign ∈ wsA := wsA_t2 (List.mem_of_getElem? (i := 65) rfl) rfl
theorem mw_334 : Cond.code yX2_leadSign cX2_leadSign 1 (some .int) ∈ wsA := wsA_t2 (List.mem_of_getElem? (i := 66) rfl) rfl
theorem mw_335 : Cond.methodLink RX0 81 yX2_negate ∈ wsA := wsA_t2 (List.mem_of_getElem? (i := 67) rfl) rfl
theorem mw_336 : Cond.instanceMethod yX2_negate ∈ wsA := wsA_t2 (List.mem_of_getElem? (i := 68) rfl) rfl
theorem mw_337 : Cond.selects RX2 yX2_negate yX2_negate ∈ wsA := wsA_t2 (List.mem_of_getElem? (i := 69) rfl) rfl
theorem mw_338 : Cond.code yX2_negate cX2_negate 2 none ∈ wsA := wsA_t2 (List.mem_of_getElem? (i := 70) rfl) rfl
theorem mw_339 : Cond.methodLink RX2 42 yX3_negate ∈ wsA := wsA_t2 (List.mem_of_getElem? (i := 71) rfl) rfl
theorem mw_340 : Cond.methodLink RL 45 yX5_remainder ∈ wsA := wsA_t3 (List.mem_of_getElem? (i := 155) rfl) rfl
theorem mw_341 : Cond.instanceMethod yX5_remainder ∈ wsA := wsA_t3 (List.mem_of_getElem? (i := 156) rfl) rfl
theorem mw_342 : Cond.selects RX5 yX5_remainder yX5_remainder ∈ wsA := wsA_t3 (List.mem_of_getElem? (i := 157) rfl) rfl
theorem mw_343 : Cond.code yX5_remainder cX5_remainder 4 (some .int) ∈ wsA := wsA_t3 (List.mem_of_getElem? (i := 158) rfl) rfl
theorem mw_344 : Cond.methodLink RX5 88 yX5_remain ∈ wsA := wsA_t3 (List.mem_of_getElem? (i := 159) rfl) rfl
theorem mw_345 : Cond.instanceMethod yX5_remain ∈ wsA := wsA_t3 (List.mem_of_getElem? (i := 161) rfl) rfl
theorem mw_346 : Cond.selects RX5 yX5_remain yX5_remain ∈ wsA := wsA_s (List.mem_of_getElem? (i := 29) rfl) rfl
theorem mw_347 : Cond.code yX5_remain cX5_remain 7 none ∈ wsA := wsA_t3 (List.mem_of_getElem? (i := 162) rfl) rfl
theorem mw_348 : Cond.methodLink RL 46 yX4_quotient ∈ wsA := wsA_t2 (List.mem_of_getElem? (i := 72) rfl) rfl
theorem mw_349 : Cond.instanceMethod yX4_quotient ∈ wsA := wsA_t2 (List.mem_of_getElem? (i := 73) rfl) rfl
theorem mw_350 : Cond.selects RX4 yX4_quotient yX4_quotient ∈ wsA := wsA_t2 (List.mem_of_getElem? (i := 74) rfl) rfl
theorem mw_351 : Cond.code yX4_quotient cX4_quotient 4 (some .int) ∈ wsA := wsA_t2 (List.mem_of_getElem? (i := 75) rfl) rfl
theorem mw_352 : Cond.methodLink RX4 99 yX0_splits ∈ wsA := wsA_t2 (List.mem_of_getElem? (i := 76) rfl) rfl
theorem mw_353 : Cond.instanceMethod yX0_splits ∈ wsA := wsA_t2 (List.mem_of_getElem? (i := 77) rfl) rfl
theorem mw_354 : Cond.selects RX0 yX0_splits yX0_splits ∈ wsA := wsA_t2 (List.mem_of_getElem? (i := 78) rfl) rfl
theorem mw_355 : Cond.code yX0_splits cX0_splits 6 (some .boolean) ∈ wsA := wsA_t2 (List.mem_of_getElem? (i := 79) rfl) rfl
theorem mw_356 : Cond.methodLink RX0 89 yX3_divide ∈ wsA := wsA_t2 (List.mem_of_getElem? (i := 80) rfl) rfl
theorem mw_357 : Cond.instanceMethod yX3_divide ∈ wsA := wsA_t2 (List.mem_of_getElem? (i := 81) rfl) rfl
theorem mw_358 : Cond.selects RX3 yX3_divide yX3_divide ∈ wsA := wsA_t2 (List.mem_of_getElem? (i := 82) rfl) rfl
theorem mw_359 : Cond.code yX3_divide cX3_divide 15 none ∈ wsA := wsA_t2 (List.mem_of_getElem? (i := 83) rfl) rfl
theorem mw_360 : Cond.methodLink RX3 68 yJ6_numberOfLeadingZeros_0f7a4 ∈ wsA := wsA_t2 (List.mem_of_getElem? (i := 84) rfl) rfl
theorem mw_361 : Cond.static yJ6_numberOfLeadingZeros_0f7a4 ∈ wsA := wsA_t2 (List.mem_of_getElem? (i := 85) rfl) rfl
theorem mw_362 : Cond.initialized RJ6 ∈ wsA := wsA_t1 (List.mem_of_getElem? (i := 10) rfl) rfl
theorem mw_363 : Cond.code yJ6_numberOfLeadingZeros_0f7a4 cJ6_numberOfLeadingZeros_0f7a4 2 (some .int) ∈ wsA := wsA_t2 (List.mem_of_getElem? (i := 86) rfl) rfl
theorem mw_364 : Cond.constant RJ6 264 (65536) ∈ wsA := wsA_t2 (List.mem_of_getElem? (i := 87) rfl) rfl
theorem mw_365 : Cond.methodLink RX3 74 yX3_window ∈ wsA := wsA_t2 (List.mem_of_getElem? (i := 88) rfl) rfl
theorem mw_366 : Cond.instanceMethod yX3_window ∈ wsA := wsA_t2 (List.mem_of_getElem? (i := 90) rfl) rfl
theorem mw_367 : Cond.selects RX3 yX3_window yX3_window ∈ wsA := wsA_s (List.mem_of_getElem? (i := 5) rfl) rfl
theorem mw_368 : Cond.code yX3_window cX3_window 5 (some .long) ∈ wsA := wsA_t2 (List.mem_of_getElem? (i := 91) rfl) rfl
theorem mw_369 : Cond.methodLink RX3 78 yX3_guess ∈ wsA := wsA_t2 (List.mem_of_getElem? (i := 92) rfl) rfl
theorem mw_370 : Cond.static yX3_guess ∈ wsA := wsA_t2 (List.mem_of_getElem? (i := 93) rfl) rfl
theorem mw_371 : Cond.code yX3_guess cX3_guess 13 (some .long) ∈ wsA := wsA_t2 (List.mem_of_getElem? (i := 94) rfl) rfl
theorem mw_372 : Cond.methodLink RX3 90 Lib.MathLoose.min_long.x ∈ wsA := wsA_t2 (List.mem_of_getElem? (i := 95) rfl) rfl
theorem mw_373 : Cond.static Lib.MathLoose.min_long.x ∈ wsA := wsA_t2 (List.mem_of_getElem? (i := 96) rfl) rfl
theorem mw_374 : Cond.code Lib.MathLoose.min_long.x Lib.MathLoose.min_long.code 4 (some .long) ∈ wsA := wsA_t2 (List.mem_of_getElem? (i := 97) rfl) rfl
theorem mw_375 : Cond.methodLink RX3 82 yX3_takesTooMuch ∈ wsA := wsA_t2 (List.mem_of_getElem? (i := 98) rfl) rfl
theorem mw_376 : Cond.instanceMethod yX3_takesTooMuch ∈ wsA := wsA_t2 (List.mem_of_getElem? (i := 100) rfl) rfl
theorem mw_377 : Cond.selects RX3 yX3_takesTooMuch yX3_takesTooMuch ∈ wsA := wsA_s (List.mem_of_getElem? (i := 6) rfl) rfl
theorem mw_378 : Cond.code yX3_takesTooMuch cX3_takesTooMuch 10 (some .boolean) ∈ wsA := wsA_t2 (List.mem_of_getElem? (i := 101) rfl) rfl
theorem mw_379 : Cond.methodLink RX3 86 yX3_giveBack ∈ wsA := wsA_t2 (List.mem_of_getElem? (i := 102) rfl) rfl
theorem mw_380 : Cond.instanceMethod yX3_giveBack ∈ wsA := wsA_t2 (List.mem_of_getElem? (i := 104) rfl) rfl
theorem mw_381 : Cond.selects RX3 yX3_giveBack yX3_giveBack ∈ wsA := wsA_s (List.mem_of_getElem? (i := 7) rfl) rfl
theorem mw_382 : Cond.code yX3_giveBack cX3_giveBack 6 none ∈ wsA := wsA_t2 (List.mem_of_getElem? (i := 105) rfl) rfl
theorem mw_383 : Cond.methodLink RL 49 yX5_quotient ∈ wsA := wsA_t3 (List.mem_of_getElem? (i := 163) rfl) rfl
theorem mw_384 : Cond.instanceMethod yX5_quotient ∈ wsA := wsA_t3 (List.mem_of_getElem? (i := 164) rfl) rfl
theorem mw_385 : Cond.selects RX5 yX5_quotient yX5_quotient ∈ wsA := wsA_t3 (List.mem_of_getElem? (i := 165) rfl) rfl
theorem mw_386 : Cond.code yX5_quotient cX5_quotient 4 (some .int) ∈ wsA := wsA_t3 (List.mem_of_getElem? (i := 166) rfl) rfl
theorem mw_387 : Cond.methodLink RX5 102 yX5_over ∈ wsA := wsA_t3 (List.mem_of_getElem? (i := 167) rfl) rfl
theorem mw_388 : Cond.instanceMethod yX5_over ∈ wsA := wsA_t3 (List.mem_of_getElem? (i := 169) rfl) rfl
theorem mw_389 : Cond.selects RX5 yX5_over yX5_over ∈ wsA := wsA_s (List.mem_of_getElem? (i := 30) rfl) rfl
theorem mw_390 : Cond.code yX5_over cX5_over 6 (some .boolean) ∈ wsA := wsA_t3 (List.mem_of_getElem? (i := 170) rfl) rfl
theorem mw_391 : Cond.methodLink RX5 62 yX5_divide ∈ wsA := wsA_t3 (List.mem_of_getElem? (i := 171) rfl) rfl
theorem mw_392 : Cond.instanceMethod yX5_divide ∈ wsA := wsA_t3 (List.mem_of_getElem? (i := 173) rfl) rfl
theorem mw_393 : Cond.selects RX5 yX5_divide yX5_divide ∈ wsA := wsA_s (List.mem_of_getElem? (i := 31) rfl) rfl
theorem mw_394 : Cond.code yX5_divide cX5_divide 7 none ∈ wsA := wsA_t3 (List.mem_of_getElem? (i := 174) rfl) rfl
theorem mw_395 : Cond.methodLink RX5 59 yX5_halve ∈ wsA := wsA_t3 (List.mem_of_getElem? (i := 175) rfl) rfl
theorem mw_396 : Cond.instanceMethod yX5_halve ∈ wsA := wsA_t3 (List.mem_of_getElem? (i := 177) rfl) rfl
theorem mw_397 : Cond.selects RX5 yX5_halve yX5_halve ∈ wsA := wsA_s (List.mem_of_getElem? (i := 32) rfl) rfl
theorem mw_398 : Cond.code yX5_halve cX5_halve 5 none ∈ wsA := wsA_t3 (List.mem_of_getElem? (i := 178) rfl) rfl
theorem mw_399 : Cond.methodLink RL 50 yX4_gcd ∈ wsA := wsA_t2 (List.mem_of_getElem? (i := 106) rfl) rfl
theorem mw_400 : Cond.instanceMethod yX4_gcd ∈ wsA := wsA_t2 (List.mem_of_getElem? (i := 107) rfl) rfl
theorem mw_401 : Cond.selects RX4 yX4_gcd yX4_gcd ∈ wsA := wsA_t2 (List.mem_of_getElem? (i := 108) rfl) rfl
theorem mw_402 : Cond.code yX4_gcd cX4_gcd 4 (some .int) ∈ wsA := wsA_t2 (List.mem_of_getElem? (i := 109) rfl) rfl
theorem mw_403 : Cond.methodLink RX4 106 yX1_commonDivisor ∈ wsA := wsA_t2 (List.mem_of_getElem? (i := 110) rfl) rfl
theorem mw_404 : Cond.instanceMethod yX1_commonDivisor ∈ wsA := wsA_t2 (List.mem_of_getElem? (i := 111) rfl) rfl
theorem mw_405 : Cond.selects RX1 yX1_commonDivisor yX1_commonDivisor ∈ wsA := wsA_t2 (List.mem_of_getElem? (i := 112) rfl) rfl
theorem mw_406 : Cond.code yX1_commonDivisor cX1_commonDivisor 4 (some (.object "BigPolys$Poly")) ∈ wsA := wsA_t2 (List.mem_of_getElem? (i := 113) rfl) rfl
theorem mw_407 : Cond.methodLink RX1 55 yX2_load ∈ wsA := wsA_t2 (List.mem_of_getElem? (i := 114) rfl) rfl
theorem mw_408 : Cond.methodLink RX1 59 yX0_makePrimitive ∈ wsA := wsA_t2 (List.mem_of_getElem? (i := 115) rfl) rfl
theorem mw_409 : Cond.instanceMethod yX0_makePrimitive ∈ wsA := wsA_t2 (List.mem_of_getElem? (i := 116) rfl) rfl
theorem mw_410 : Cond.selects RX0 yX0_makePrimitive yX0_makePrimitive ∈ wsA := wsA_t2 (List.mem_of_getElem? (i := 117) rfl) rfl
theorem mw_411 : Cond.code yX0_makePrimitive cX0_makePrimitive 3 none ∈ wsA := wsA_t2 (List.mem_of_getElem? (i := 118) rfl) rfl
theorem mw_412 : Cond.methodLink RX0 95 yX3_isUnit ∈ wsA := wsA_t2 (List.mem_of_getElem? (i := 119) rfl) rfl
theorem mw_413 : Cond.instanceMethod yX3_isUnit ∈ wsA := wsA_t2 (List.mem_of_getElem? (i := 120) rfl) rfl
theorem mw_414 : Cond.selects RX3 yX3_isUnit yX3_isUnit ∈ wsA := wsA_t2 (List.mem_of_getElem? (i := 121) rfl) rfl
theorem mw_415 : Cond.code yX3_isUnit cX3_isUnit 1 (some .boolean) ∈ wsA := wsA_t2 (List.mem_of_getElem? (i := 122) rfl) rfl
theorem mw_416 : Cond.methodLink RX0 99 yX0_meet ∈ wsA := wsA_t2 (List.mem_of_getElem? (i := 123) rfl) rfl
theorem mw_417 : Cond.instanceMethod yX0_meet ∈ wsA := wsA_t2 (List.mem_of_getElem? (i := 125) rfl) rfl
theorem mw_418 : Cond.selects RX0 yX0_meet yX0_meet ∈ wsA := wsA_s (List.mem_of_getElem? (i := 8) rfl) rfl
theorem mw_419 : Cond.code yX0_meet cX0_meet 5 none ∈ wsA := wsA_t2 (List.mem_of_getElem? (i := 126) rfl) rfl
theorem mw_420 : Cond.constant RX0 106 (1000000) ∈ wsA := wsA_t2 (List.mem_of_getElem? (i := 127) rfl) rfl
theorem mw_421 : Cond.methodLink RX0 102 yX0_divideAll ∈ wsA := wsA_t2 (List.mem_of_getElem? (i := 128) rfl) rfl
theorem mw_422 : Cond.instanceMethod yX0_divideAll ∈ wsA := wsA_t2 (List.mem_of_getElem? (i := 129) rfl) rfl
theorem mw_423 : Cond.selects RX0 yX0_divideAll yX0_divideAll ∈ wsA := wsA_t2 (List.mem_of_getElem? (i := 130) rfl) rfl
theorem mw_424 : Cond.code yX0_divideAll cX0_divideAll 4 none ∈ wsA := wsA_t2 (List.mem_of_getElem? (i := 131) rfl) rfl
theorem mw_425 : Cond.methodLink RX1 62 yX1_build ∈ wsA := wsA_t2 (List.mem_of_getElem? (i := 132) rfl) rfl
theorem mw_426 : Cond.instanceMethod yX1_build ∈ wsA := wsA_t2 (List.mem_of_getElem? (i := 134) rfl) rfl
theorem mw_427 : Cond.selects RX1 yX1_build yX1_build ∈ wsA := wsA_s (List.mem_of_getElem? (i := 9) rfl) rfl
theorem mw_428 : Cond.code yX1_build cX1_build 3 none ∈ wsA := wsA_t2 (List.mem_of_getElem? (i := 135) rfl) rfl
theorem mw_429 : Cond.fieldLink RX1 83 "BigPolys$Chain" "last" "I" ∈ wsA := wsA_t1 (List.mem_of_getElem? (i := 117) rfl) rfl
theorem mw_430 : Cond.methodLink RX1 89 yX3_setOne ∈ wsA := wsA_t2 (List.mem_of_getElem? (i := 136) rfl) rfl
theorem mw_431 : Cond.instanceMethod yX3_setOne ∈ wsA := wsA_t2 (List.mem_of_getElem? (i := 137) rfl) rfl
theorem mw_432 : Cond.selects RX3 yX3_setOne yX3_setOne ∈ wsA := wsA_t2 (List.mem_of_getElem? (i := 138) rfl) rfl
theorem mw_433 : Cond.code yX3_setOne cX3_setOne 1 none ∈ wsA := wsA_t2 (List.mem_of_getElem? (i := 139) rfl) rfl
theorem mw_434 : Cond.methodLink RX3 25 yX3_put ∈ wsA := wsA_t2 (List.mem_of_getElem? (i := 140) rfl) rfl
theorem mw_435 : Cond.methodLink RX1 93 yX0_reduce ∈ wsA := wsA_t2 (List.mem_of_getElem? (i := 141) rfl) rfl
theorem mw_436 : Cond.methodLink RX1 96 yX3_load ∈ wsA := wsA_t2 (List.mem_of_getElem? (i := 142) rfl) rfl
theorem mw_437 : Cond.methodLink RX1 99 yX1_raise ∈ wsA := wsA_t2 (List.mem_of_getElem? (i := 143) rfl) rfl
theorem mw_438 : Cond.instanceMethod yX1_raise ∈ wsA := wsA_t2 (List.mem_of_getElem? (i := 145) rfl) rfl
theorem mw_439 : Cond.selects RX1 yX1_raise yX1_raise ∈ wsA := wsA_s (List.mem_of_getElem? (i := 10) rfl) rfl
theorem mw_440 : Cond.code yX1_raise cX1_raise 4 none ∈ wsA := wsA_t2 (List.mem_of_getElem? (i := 146) rfl) rfl
theorem mw_441 : Cond.methodLink RX1 114 yX3_product ∈ wsA := wsA_t2 (List.mem_of_getElem? (i := 147) rfl) rfl
theorem mw_442 : Cond.methodLink RX1 103 yX0_divideAll ∈ wsA := wsA_t2 (List.mem_of_getElem? (i := 148) rfl) rfl
theorem mw_443 : Cond.methodLink RX1 107 yX2_negate ∈ wsA := wsA_t2 (List.mem_of_getElem? (i := 149) rfl) rfl
theorem mw_444 : Cond.methodLink RX1 110 yX1_follow ∈ wsA := wsA_t2 (List.mem_of_getElem? (i := 150) rfl) rfl
theorem mw_445 : Cond.instanceMethod yX1_follow ∈ wsA := wsA_t2 (List.mem_of_getElem? (i := 152) rfl) rfl
theorem mw_446 : Cond.selects RX1 yX1_follow yX1_follow ∈ wsA := wsA_s (List.mem_of_getElem? (i := 11) rfl) rfl
theorem mw_447 : Cond.code yX1_follow cX1_follow 4 none ∈ wsA := wsA_t2 (List.mem_of_getElem? (i := 153) rfl) rfl
theorem mw_448 : Cond.methodLink RX1 125 yX3_negate ∈ wsA := wsA_t2 (List.mem_of_getElem? (i := 154) rfl) rfl
theorem mw_449 : Cond.methodLink RX1 126 yX3_divide ∈ wsA := wsA_t2 (List.mem_of_getElem? (i := 155) rfl) rfl
theorem mw_450 : Cond.methodLink RX1 65 yX1_divisorAtEnd ∈ wsA := wsA_t2 (List.mem_of_getElem? (i := 156) rfl) rfl
theorem mw_451 : Cond.instanceMethod yX1_divisorAtEnd ∈ wsA := wsA_t2 (List.mem_of_getElem? (i := 158) rfl) rfl
theorem mw_452 : Cond.selects RX1 yX1_divisorAtEnd yX1_divisorAtEnd ∈ wsA := wsA_s (List.mem_of_getElem? (i := 12) rfl) rfl
theorem mw_453 : Cond.code yX1_divisorAtEnd cX1_divisorAtEnd 2 (some (.object "BigPolys$Poly")) ∈ wsA := wsA_t2 (List.mem_of_getElem? (i := 159) rfl) rfl
theorem mw_454 : Cond.methodLink RX1 72 yX2_setOne ∈ wsA := wsA_t2 (List.mem_of_getElem? (i := 160) rfl) rfl
theorem mw_455 : Cond.instanceMethod yX2_setOne ∈ wsA := wsA_t2 (List.mem_of_getElem? (i := 161) rfl) rfl
theorem mw_456 : Cond.selects RX2 yX2_setOne yX2_setOne ∈ wsA := wsA_t2 (List.mem_of_getElem? (i := 162) rfl) rfl
theorem mw_457 : Cond.code yX2_setOne cX2_setOne 1 none ∈ wsA := wsA_t2 (List.mem_of_getElem? (i := 163) rfl) rfl
theorem mw_458 : Cond.methodLink RX2 27 yX2_clear ∈ wsA := wsA_t2 (List.mem_of_getElem? (i := 164) rfl) rfl
theorem mw_459 : Cond.methodLink RX2 28 yX3_setOne ∈ wsA := wsA_t2 (List.mem_of_getElem? (i := 165) rfl) rfl
theorem mw_460 : Cond.methodLink RX1 129 yX0_makeSmall ∈ wsA := wsA_t2 (List.mem_of_getElem? (i := 166) rfl) rfl
theorem mw_461 : Cond.instanceMethod yX0_makeSmall ∈ wsA := wsA_t2 (List.mem_of_getElem? (i := 167) rfl) rfl
theorem mw_462 : Cond.selects RX0 yX0_makeSmall yX0_makeSmall ∈ wsA := wsA_t2 (List.mem_of_getElem? (i := 168) rfl) rfl
theorem mw_463 : Cond.code yX0_makeSmall cX0_makeSmall 5 none ∈ wsA := wsA_t2 (List.mem_of_getElem? (i := 169) rfl) rfl
theorem mw_464 : Cond.methodLink RL 53 yX5_gcd ∈ wsA := wsA_t3 (List.mem_of_getElem? (i := 179) rfl) rfl
theorem mw_465 : Cond.instanceMethod yX5_gcd ∈ wsA := wsA_t3 (List.mem_of_getElem? (i := 180) rfl) rfl
theorem mw_466 : Cond.selects RX5 yX5_gcd yX5_gcd ∈ wsA := wsA_t3 (List.mem_of_getElem? (i := 181) rfl) rfl
theorem mw_467 : Cond.code yX5_gcd cX5_gcd 4 (some .int) ∈ wsA := wsA_t3 (List.mem_of_getElem? (i := 182) rfl) rfl
theorem mw_468 : Cond.methodLink RX5 99 yX5_divisor ∈ wsA := wsA_t3 (List.mem_of_getElem? (i := 183) rfl) rfl
theorem mw_469 : Cond.instanceMethod yX5_divisor ∈ wsA := wsA_t3 (List.mem_of_getElem? (i := 185) rfl) rfl
theorem mw_470 : Cond.selects RX5 yX5_divisor yX5_divisor ∈ wsA := wsA_s (List.mem_of_getElem? (i := 33) rfl) rfl
theorem mw_471 : Cond.code yX5_divisor cX5_divisor 1 none ∈ wsA := wsA_t3 (List.mem_of_getElem? (i := 186) rfl) rfl
theorem mw_472 : Cond.methodLink RX5 81 yX5_makePrimitive ∈ wsA := wsA_t3 (List.mem_of_getElem? (i := 187) rfl) rfl
theorem mw_473 : Cond.instanceMethod yX5_makePrimitive ∈ wsA := wsA_t3 (List.mem_of_getElem? (i := 189) rfl) rfl
theorem mw_474 : Cond.selects RX5 yX5_makePrimitive yX5_makePrimitive ∈ wsA := wsA_s (List.mem_of_getElem? (i := 34) rfl) rfl
theorem mw_475 : Cond.code yX5_makePrimitive cX5_makePrimitive 8 none ∈ wsA := wsA_t3 (List.mem_of_getElem? (i := 190) rfl) rfl
theorem mw_476 : Cond.methodLink RX5 69 yX5_common ∈ wsA := wsA_t3 (List.mem_of_getElem? (i := 191) rfl) rfl
theorem mw_477 : Cond.instanceMethod yX5_common ∈ wsA := wsA_t3 (List.mem_of_getElem? (i := 193) rfl) rfl
theorem mw_478 : Cond.selects RX5 yX5_common yX5_common ∈ wsA := wsA_s (List.mem_of_getElem? (i := 35) rfl) rfl
theorem mw_479 : Cond.code yX5_common cX5_common 6 none ∈ wsA := wsA_t3 (List.mem_of_getElem? (i := 194) rfl) rfl
theorem mw_480 : Cond.methodLink RL 54 yX4_once ∈ wsA := wsA_t2 (List.mem_of_getElem? (i := 170) rfl) rfl
theorem mw_481 : Cond.instanceMethod yX4_once ∈ wsA := wsA_t2 (List.mem_of_getElem? (i := 171) rfl) rfl
theorem mw_482 : Cond.selects RX4 yX4_once yX4_once ∈ wsA := wsA_t2 (List.mem_of_getElem? (i := 172) rfl) rfl
theorem mw_483 : Cond.code yX4_once cX4_once 3 (some .int) ∈ wsA := wsA_t2 (List.mem_of_getElem? (i := 173) rfl) rfl
theorem mw_484 : Cond.methodLink RX4 110 yX1_squareFree ∈ wsA := wsA_t2 (List.mem_of_getElem? (i := 174) rfl) rfl
theorem mw_485 : Cond.instanceMethod yX1_squareFree ∈ wsA := wsA_t2 (List.mem_of_getElem? (i := 175) rfl) rfl
theorem mw_486 : Cond.selects RX1 yX1_squareFree yX1_squareFree ∈ wsA := wsA_t2 (List.mem_of_getElem? (i := 176) rfl) rfl
theorem mw_487 : Cond.code yX1_squareFree cX1_squareFree 2 (some (.object "BigPolys$Poly")) ∈ wsA := wsA_t2 (List.mem_of_getElem? (i := 177) rfl) rfl
theorem mw_488 : Cond.methodLink RX1 69 yX1_begin ∈ wsA := wsA_t2 (List.mem_of_getElem? (i := 178) rfl) rfl
theorem mw_489 : Cond.instanceMethod yX1_begin ∈ wsA := wsA_t2 (List.mem_of_getElem? (i := 180) rfl) rfl
theorem mw_490 : Cond.selects RX1 yX1_begin yX1_begin ∈ wsA := wsA_s (List.mem_of_getElem? (i := 13) rfl) rfl
theorem mw_491 : Cond.code yX1_begin cX1_begin 2 none ∈ wsA := wsA_t2 (List.mem_of_getElem? (i := 181) rfl) rfl
theorem mw_492 : Cond.methodLink RX1 86 yX2_slopeOf ∈ wsA := wsA_t2 (List.mem_of_getElem? (i := 182) rfl) rfl
theorem mw_493 : Cond.methodLink RX1 75 yX0_splits ∈ wsA := wsA_t2 (List.mem_of_getElem? (i := 183) rfl) rfl
theorem mw_494 : Cond.methodLink RL 57 yX5_once ∈ wsA := wsA_t3 (List.mem_of_getElem? (i := 195) rfl) rfl
theorem mw_495 : Cond.instanceMethod yX5_once ∈ wsA := wsA_t3 (List.mem_of_getElem? (i := 196) rfl) rfl
theorem mw_496 : Cond.selects RX5 yX5_once yX5_once ∈ wsA := wsA_t3 (List.mem_of_getElem? (i := 197) rfl) rfl
theorem mw_497 : Cond.code yX5_once cX5_once 3 (some .int) ∈ wsA := wsA_t3 (List.mem_of_getElem? (i := 198) rfl) rfl
theorem mw_498 : Cond.methodLink RX5 125 yX5_onceOf ∈ wsA := wsA_t3 (List.mem_of_getElem? (i := 199) rfl) rfl
theorem mw_499 : Cond.instanceMethod yX5_onceOf ∈ wsA := wsA_t3 (List.mem_of_getElem? (i := 201) rfl) rfl
theorem mw_500 : Cond.selects RX5 yX5_onceOf yX5_onceOf ∈ wsA := wsA_s (List.mem_of_getElem? (i := 36) rfl) rfl
theorem mw_501 : Cond.code yX5_onceOf cX5_onceOf 2 none ∈ wsA := wsA_t3 (List.mem_of_getElem? (i := 202) rfl) rfl
theorem mw_502 : Cond.methodLink RL 58 yX4_sign ∈ wsA := wsA_t2 (List.mem_of_getElem? (i := 184) rfl) rfl
theorem mw_503 : Cond.instanceMethod yX4_sign ∈ wsA := wsA_t2 (List.mem_of_getElem? (i := 185) rfl) rfl
theorem mw_504 : Cond.selects RX4 yX4_sign yX4_sign ∈ wsA := wsA_t2 (List.mem_of_getElem? (i := 186) rfl) rfl
theorem mw_505 : Cond.code yX4_sign cX4_sign 6 (some .int) ∈ wsA := wsA_t2 (List.mem_of_getElem? (i := 187) rfl) rfl
theorem mw_506 : Cond.methodLink RX4 118 Lib.MathLoose.abs_long.x ∈ wsA := wsA_t2 (List.mem_of_getElem? (i := 188) rfl) rfl
theorem mw_507 : Cond.static Lib.MathLoose.abs_long.x ∈ wsA := wsA_t2 (List.mem_of_getElem? (i := 189) rfl) rfl
theorem mw_508 : Cond.code Lib.MathLoose.abs_long.x Lib.MathLoose.abs_long.code 2 (some .long) ∈ wsA := wsA_t2 (List.mem_of_getElem? (i := 190) rfl) rfl
theorem mw_509 : Cond.methodLink RX4 124 yX0_signAt ∈ wsA := wsA_t2 (List.mem_of_getElem? (i := 191) rfl) rfl
theorem mw_510 : Cond.instanceMethod yX0_signAt ∈ wsA := wsA_t2 (List.mem_of_getElem? (i := 192) rfl) rfl
theorem mw_511 : Cond.selects RX0 yX0_signAt yX0_signAt ∈ wsA := wsA_t2 (List.mem_of_getElem? (i := 193) rfl) rfl
theorem mw_512 : Cond.code yX0_signAt cX0_signAt 7 (some .int) ∈ wsA := wsA_t2 (List.mem_of_getElem? (i := 194) rfl) rfl
theorem mw_513 : Cond.methodLink RX0 92 yX3_setOne ∈ wsA := wsA_t2 (List.mem_of_getElem? (i := 195) rfl) rfl
theorem mw_514 : Cond.methodLink RL 61 yX5_sign ∈ wsA := wsA_t3 (List.mem_of_getElem? (i := 203) rfl) rfl
theorem mw_515 : Cond.instanceMethod yX5_sign ∈ wsA := wsA_t3 (List.mem_of_getElem? (i := 204) rfl) rfl
theorem mw_516 : Cond.selects RX5 yX5_sign yX5_sign ∈ wsA := wsA_t3 (List.mem_of_getElem? (i := 205) rfl) rfl
theorem mw_517 : Cond.code yX5_sign cX5_sign 4 (some .int) ∈ wsA := wsA_t3 (List.mem_of_getElem? (i := 206) rfl) rfl
theorem mw_518 : Cond.methodLink RX5 128 yX5_signAt ∈ wsA := wsA_t3 (List.mem_of_getElem? (i := 207) rfl) rfl
theorem mw_519 : Cond.instanceMethod yX5_signAt ∈ wsA := wsA_t3 (List.mem_of_getElem? (i := 209) rfl) rfl
theorem mw_520 : Cond.selects RX5 yX5_signAt yX5_signAt ∈ wsA := wsA_s (List.mem_of_getElem? (i := 37) rfl) rfl
theorem mw_521 : Cond.code yX5_signAt cX5_signAt 7 (some .int) ∈ wsA := wsA_t3 (List.mem_of_getElem? (i := 210) rfl) rfl
theorem mw_522 : Cond.methodLink RL 62 yX4_roots ∈ wsA := wsA_t2 (List.mem_of_getElem? (i := 196) rfl) rfl
theorem mw_523 : Cond.instanceMethod yX4_roots ∈ wsA := wsA_t2 (List.mem_of_getElem? (i := 197) rfl) rfl
theorem mw_524 : Cond.selects RX4 yX4_roots yX4_roots ∈ wsA := wsA_t2 (List.mem_of_getElem? (i := 198) rfl) rfl
theorem mw_525 : Cond.code yX4_roots cX4_roots 4 (some .int) ∈ wsA := wsA_t2 (List.mem_of_getElem? (i := 199) rfl) rfl
theorem mw_526 : Cond.methodLink RX4 128 yX1_prepare ∈ wsA := wsA_t2 (List.mem_of_getElem? (i := 200) rfl) rfl
theorem mw_527 : Cond.instanceMethod yX1_prepare ∈ wsA := wsA_t2 (List.mem_of_getElem? (i := 201) rfl) rfl
theorem mw_528 : Cond.selects RX1 yX1_prepare yX1_prepare ∈ wsA := wsA_t2 (List.mem_of_getElem? (i := 202) rfl) rfl
theorem mw_529 : Cond.code yX1_prepare cX1_prepare 2 none ∈ wsA := wsA_t2 (List.mem_of_getElem? (i := 203) rfl) rfl
theorem mw_530 : Cond.methodLink RX4 131 yX1_changes ∈ wsA := wsA_t2 (List.mem_of_getElem? (i := 204) rfl) rfl
theorem mw_531 : Cond.instanceMethod yX1_changes ∈ wsA := wsA_t2 (List.mem_of_getElem? (i := 205) rfl) rfl
theorem mw_532 : Cond.selects RX1 yX1_changes yX1_changes ∈ wsA := wsA_t2 (List.mem_of_getElem? (i := 206) rfl) rfl
theorem mw_533 : Cond.code yX1_changes cX1_changes 8 (some .int) ∈ wsA := wsA_t2 (List.mem_of_getElem? (i := 207) rfl) rfl
theorem mw_534 : Cond.methodLink RX1 133 yX2_signBeyond ∈ wsA := wsA_t2 (List.mem_of_getElem? (i := 208) rfl) rfl
theorem mw_535 : Cond.instanceMethod yX2_signBeyond ∈ wsA := wsA_t2 (List.mem_of_getElem? (i := 209) rfl) rfl
theorem mw_536 : Cond.selects RX2 yX2_signBeyond yX2_signBeyond ∈ wsA := wsA_t2 (List.mem_of_getElem? (i := 210) rfl) rfl
theorem mw_537 : Cond.code yX2_signBeyond cX2_signBeyond 3 (some .int) ∈ wsA := wsA_t2 (List.mem_of_getElem? (i := 211) rfl) rfl
theorem mw_538 : Cond.methodLink RX2 48 yX2_leadSign ∈ wsA := wsA_t2 (List.mem_of_getElem? (i := 212) rfl) rfl
theorem mw_539 : Cond.methodLink RX1 137 yX0_signAt ∈ wsA := wsA_t2 (List.mem_of_getElem? (i := 213) rfl) rfl
theorem mw_540 : Cond.methodLink RL 65 yX5_roots ∈ wsA := wsA_t3 (List.mem_of_getElem? (i := 211) rfl) rfl
theorem mw_541 : Cond.instanceMethod yX5_roots ∈ wsA := wsA_t3 (List.mem_of_getElem? (i := 212) rfl) rfl
theorem mw_542 : Cond.selects RX5 yX5_roots yX5_roots ∈ wsA := wsA_t3 (List.mem_of_getElem? (i := 213) rfl) rfl
theorem mw_543 : Cond.code yX5_roots cX5_roots 4 (some .int) ∈ wsA := wsA_t3 (List.mem_of_getElem? (i := 214) rfl) rfl
theorem mw_544 : Cond.methodLink RX5 135 yX5_makeChain ∈ wsA := wsA_t3 (List.mem_of_getElem? (i := 215) rfl) rfl
theorem mw_545 : Cond.instanceMethod yX5_makeChain ∈ wsA := wsA_t3 (List.mem_of_getElem? (i := 217) rfl) rfl
theorem mw_546 : Cond.selects RX5 yX5_makeChain yX5_makeChain ∈ wsA := wsA_s (List.mem_of_getElem? (i := 38) rfl) rfl
theorem mw_547 : Cond.code yX5_makeChain cX5_makeChain 4 none ∈ wsA := wsA_t3 (List.mem_of_getElem? (i := 218) rfl) rfl
theorem mw_548 : Cond.fieldLink RX5 132 "BigPolysModel" "chainSize" "I" ∈ wsA := wsA_t3 (List.mem_of_getElem? (i := 42) rfl) rfl
theorem mw_549 : Cond.methodLink RX5 138 yX5_changes ∈ wsA := wsA_t3 (List.mem_of_getElem? (i := 219) rfl) rfl
theorem mw_550 : Cond.instanceMethod yX5_changes ∈ wsA := wsA_t3 (List.mem_of_getElem? (i := 221) rfl) rfl
theorem mw_551 : Cond.selects RX5 yX5_changes yX5_changes ∈ wsA := wsA_s (List.mem_of_getElem? (i := 39) rfl) rfl
theorem mw_552 : Cond.code yX5_changes cX5_changes 7 (some .int) ∈ wsA := wsA_t3 (List.mem_of_getElem? (i := 222) rfl) rfl
theorem mw_553 : Cond.methodLink RL 66 yX4_allRoots ∈ wsA := wsA_t2 (List.mem_of_getElem? (i := 214) rfl) rfl
theorem mw_554 : Cond.instanceMethod yX4_allRoots ∈ wsA := wsA_t2 (List.mem_of_getElem? (i := 215) rfl) rfl
theorem mw_555 : Cond.selects RX4 yX4_allRoots yX4_allRoots ∈ wsA := wsA_t2 (List.mem_of_getElem? (i := 216) rfl) rfl
theorem mw_556 : Cond.code yX4_allRoots cX4_allRoots 2 (some .int) ∈ wsA := wsA_t2 (List.mem_of_getElem? (i := 217) rfl) rfl
theorem mw_557 : Cond.constantLong RX4 135 (-1) ∈ wsA := wsA_t2 (List.mem_of_getElem? (i := 218) rfl) rfl
theorem mw_558 : Cond.methodLink RL 70 yX5_allRoots ∈ wsA := wsA_t3 (List.mem_of_getElem? (i := 223) rfl) rfl
theorem mw_559 : Cond.instanceMethod yX5_allRoots ∈ wsA := wsA_t3 (List.mem_of_getElem? (i := 224) rfl) rfl
theorem mw_560 : Cond.selects RX5 yX5_allRoots yX5_allRoots ∈ wsA := wsA_t3 (List.mem_of_getElem? (i := 225) rfl) rfl
theorem mw_561 : Cond.code yX5_allRoots cX5_allRoots 2 (some .int) ∈ wsA := wsA_t3 (List.mem_of_getElem? (i := 226) rfl) rfl
theorem mw_562 : Cond.methodLink RX5 142 yX5_changesFar ∈ wsA := wsA_t3 (List.mem_of_getElem? (i := 227) rfl) rfl
theorem mw_563 : Cond.instanceMethod yX5_changesFar ∈ wsA := wsA_t3 (List.mem_of_getElem? (i := 229) rfl) rfl
theorem mw_564 : Cond.selects RX5 yX5_changesFar yX5_changesFar ∈ wsA := wsA_s (List.mem_of_getElem? (i := 40) rfl) rfl
theorem mw_565 : Cond.code yX5_changesFar cX5_changesFar 7 (some .int) ∈ wsA := wsA_t3 (List.mem_of_getElem? (i := 230) rfl) rfl
theorem mw_566 : Cond.methodLink RL 71 yX4_place ∈ wsA := wsA_t2 (List.mem_of_getElem? (i := 219) rfl) rfl
theorem mw_567 : Cond.instanceMethod yX4_place ∈ wsA := wsA_t2 (List.mem_of_getElem? (i := 220) rfl) rfl
theorem mw_568 : Cond.selects RX4 yX4_place yX4_place ∈ wsA := wsA_t2 (List.mem_of_getElem? (i := 221) rfl) rfl
theorem mw_569 : Cond.code yX4_place cX4_place 3 (some .long) ∈ wsA := wsA_t2 (List.mem_of_getElem? (i := 222) rfl) rfl
theorem mw_570 : Cond.constantLong RX4 139 (-9223372036854775808) ∈ wsA := wsA_t2 (List.mem_of_getElem? (i := 223) rfl) rfl
theorem mw_571 : Cond.methodLink RX4 141 yX1_floorOfRoot ∈ wsA := wsA_t2 (List.mem_of_getElem? (i := 224) rfl) rfl
theorem mw_572 : Cond.instanceMethod yX1_floorOfRoot ∈ wsA := wsA_t2 (List.mem_of_getElem? (i := 225) rfl) rfl
theorem mw_573 : Cond.selects RX1 yX1_floorOfRoot yX1_floorOfRoot ∈ wsA := wsA_t2 (List.mem_of_getElem? (i := 226) rfl) rfl
theorem mw_574 : Cond.code yX1_floorOfRoot cX1_floorOfRoot 10 (some .long) ∈ wsA := wsA_t2 (List.mem_of_getElem? (i := 227) rfl) rfl
theorem mw_575 : Cond.constantLong RX1 141 (-1) ∈ wsA := wsA_t2 (List.mem_of_getElem? (i := 228) rfl) rfl
theorem mw_576 : Cond.constantLong RX1 149 (-2147483647) ∈ wsA := wsA_t2 (List.mem_of_getElem? (i := 230) rfl) rfl
theorem mw_577 : Cond.constantLong RX1 151 (2147483648) ∈ wsA := wsA_t2 (List.mem_of_getElem? (i := 231) rfl) rfl
theorem mw_578 : Cond.constantLong RX1 159 (-9223372036854775808) ∈ wsA := wsA_t2 (List.mem_of_getElem? (i := 236) rfl) rfl
theorem mw_579 : Cond.constantLong RX1 161 (2) ∈ wsA := wsA_t2 (List.mem_of_getElem? (i := 237) rfl) rfl
theorem mw_580 : Cond.methodLink RX1 143 yX1_changes ∈ wsA := wsA_t2 (List.mem_of_getElem? (i := 229) rfl) rfl
theorem mw_581 : Cond.methodLink RX1 153 yX1_rootsBelow ∈ wsA := wsA_t2 (List.mem_of_getElem? (i := 232) rfl) rfl
theorem mw_582 : Cond.instanceMethod yX1_rootsBelow ∈ wsA := wsA_t2 (List.mem_of_getElem? (i := 234) rfl) rfl
theorem mw_583 : Cond.selects RX1 yX1_rootsBelow yX1_rootsBelow ∈ wsA := wsA_s (List.mem_of_getElem? (i := 14) rfl) rfl
theorem mw_584 : Cond.code yX1_rootsBelow cX1_rootsBelow 5 (some .int) ∈ wsA := wsA_t2 (List.mem_of_getElem? (i := 235) rfl) rfl
theorem mw_585 : Cond.methodLink RL 75 yX5_place ∈ wsA := wsA_t3 (List.mem_of_getElem? (i := 231) rfl) rfl
theorem mw_586 : Cond.instanceMethod yX5_place ∈ wsA := wsA_t3 (List.mem_of_getElem? (i := 232) rfl) rfl
theorem mw_587 : Cond.selects RX5 yX5_place yX5_place ∈ wsA := wsA_t3 (List.mem_of_getElem? (i := 233) rfl) rfl
theorem mw_588 : Cond.code yX5_place cX5_place 11 (some .long) ∈ wsA := wsA_t3 (List.mem_of_getElem? (i := 234) rfl) rfl
theorem mw_589 : Cond.constantLong RX5 146 (-9223372036854775808) ∈ wsA := wsA_t3 (List.mem_of_getElem? (i := 235) rfl) rfl
theorem mw_590 : Cond.constantLong RX5 148 (-2147483647) ∈ wsA := wsA_t3 (List.mem_of_getElem? (i := 236) rfl) rfl
theorem mw_591 : Cond.constantLong RX5 150 (2147483648) ∈ wsA := wsA_t3 (List.mem_of_getElem? (i := 237) rfl) rfl
theorem mw_592 : Cond.methodLink RX5 152 yX5_below ∈ wsA := wsA_t3 (List.mem_of_getElem? (i := 238) rfl) rfl
theorem mw_593 : Cond.instanceMethod yX5_below ∈ wsA := wsA_t4 (List.mem_of_getElem? (i := 0) rfl) rfl
theorem mw_594 : Cond.selects RX5 yX5_below yX5_below ∈ wsA := wsA_s (List.mem_of_getElem? (i := 41) rfl) rfl
theorem mw_595 : Cond.code yX5_below cX5_below 3 (some .int) ∈ wsA := wsA_t4 (List.mem_of_getElem? (i := 1) rfl) rfl
theorem mw_596 : Cond.methodLink RL 76 yX4_degree ∈ wsA := wsA_t2 (List.mem_of_getElem? (i := 238) rfl) rfl
theorem mw_597 : Cond.instanceMethod yX4_degree ∈ wsA := wsA_t2 (List.mem_of_getElem? (i := 239) rfl) rfl
theorem mw_598 : Cond.selects RX4 yX4_degree yX4_degree ∈ wsA := wsA_t3 (List.mem_of_getElem? (i := 0) rfl) rfl
theorem mw_599 : Cond.code yX4_degree cX4_degree 2 (some .int) ∈ wsA := wsA_t3 (List.mem_of_getElem? (i := 1) rfl) rfl
theorem mw_600 : Cond.methodLink RL 79 yX5_degree ∈ wsA := wsA_t4 (List.mem_of_getElem? (i := 2) rfl) rfl
theorem mw_601 : Cond.instanceMethod yX5_degree ∈ wsA := wsA_t4 (List.mem_of_getElem? (i := 3) rfl) rfl
theorem mw_602 : Cond.selects RX5 yX5_degree yX5_degree ∈ wsA := wsA_t4 (List.mem_of_getElem? (i := 4) rfl) rfl
theorem mw_603 : Cond.code yX5_degree cX5_degree 2 (some .int) ∈ wsA := wsA_t4 (List.mem_of_getElem? (i := 5) rfl) rfl
theorem mw_604 : Cond.methodLink RL 80 yX4_signOf ∈ wsA := wsA_t3 (List.mem_of_getElem? (i := 2) rfl) rfl
theorem mw_605 : Cond.instanceMethod yX4_signOf ∈ wsA := wsA_t3 (List.mem_of_getElem? (i := 3) rfl) rfl
theorem mw_606 : Cond.selects RX4 yX4_signOf yX4_signOf ∈ wsA := wsA_t3 (List.mem_of_getElem? (i := 4) rfl) rfl
theorem mw_607 : Cond.code yX4_signOf cX4_signOf 3 (some .int) ∈ wsA := wsA_t3 (List.mem_of_getElem? (i := 5) rfl) rfl
theorem mw_608 : Cond.methodLink RL 83 yX5_signOf ∈ wsA := wsA_t4 (List.mem_of_getElem? (i := 6) rfl) rfl
theorem mw_609 : Cond.instanceMethod yX5_signOf ∈ wsA := wsA_t4 (List.mem_of_getElem? (i := 7) rfl) rfl
theorem mw_610 : Cond.selects RX5 yX5_signOf yX5_signOf ∈ wsA := wsA_t4 (List.mem_of_getElem? (i := 8) rfl) rfl
theorem mw_611 : Cond.code yX5_signOf cX5_signOf 3 (some .int) ∈ wsA := wsA_t4 (List.mem_of_getElem? (i := 9) rfl) rfl
theorem mw_612 : Cond.methodLink RL 84 yX4_words ∈ wsA := wsA_t3 (List.mem_of_getElem? (i := 6) rfl) rfl
theorem mw_613 : Cond.instanceMethod yX4_words ∈ wsA := wsA_t3 (List.mem_of_getElem? (i := 7) rfl) rfl
theorem mw_614 : Cond.selects RX4 yX4_words yX4_words ∈ wsA := wsA_t3 (List.mem_of_getElem? (i := 8) rfl) rfl
theorem mw_615 : Cond.code yX4_words cX4_words 3 (some .int) ∈ wsA := wsA_t3 (List.mem_of_getElem? (i := 9) rfl) rfl
theorem mw_616 : Cond.methodLink RL 87 yX5_words ∈ wsA := wsA_t4 (List.mem_of_getElem? (i := 10) rfl) rfl
theorem mw_617 : Cond.instanceMethod yX5_words ∈ wsA := wsA_t4 (List.mem_of_getElem? (i := 11) rfl) rfl
theorem mw_618 : Cond.selects RX5 yX5_words yX5_words ∈ wsA := wsA_t4 (List.mem_of_getElem? (i := 12) rfl) rfl
theorem mw_619 : Cond.code yX5_words cX5_words 3 (some .int) ∈ wsA := wsA_t4 (List.mem_of_getElem? (i := 13) rfl) rfl
theorem mw_620 : Cond.methodLink RL 88 yX4_wordOf ∈ wsA := wsA_t3 (List.mem_of_getElem? (i := 10) rfl) rfl
theorem mw_621 : Cond.instanceMethod yX4_wordOf ∈ wsA := wsA_t3 (List.mem_of_getElem? (i := 11) rfl) rfl
theorem mw_622 : Cond.selects RX4 yX4_wordOf yX4_wordOf ∈ wsA := wsA_t3 (List.mem_of_getElem? (i := 12) rfl) rfl
theorem mw_623 : Cond.code yX4_wordOf cX4_wordOf 4 (some .int) ∈ wsA := wsA_t3 (List.mem_of_getElem? (i := 13) rfl) rfl
theorem mw_624 : Cond.methodLink RL 91 yX5_wordOf ∈ wsA := wsA_t4 (List.mem_of_getElem? (i := 14) rfl) rfl
theorem mw_625 : Cond.instanceMethod yX5_wordOf ∈ wsA := wsA_t4 (List.mem_of_getElem? (i := 15) rfl) rfl
theorem mw_626 : Cond.selects RX5 yX5_wordOf yX5_wordOf ∈ wsA := wsA_t4 (List.mem_of_getElem? (i := 16) rfl) rfl
theorem mw_627 : Cond.code yX5_wordOf cX5_wordOf 10 (some .int) ∈ wsA := wsA_t4 (List.mem_of_getElem? (i := 17) rfl) rfl
theorem mw_628 : Cond.methodLink RX5 155 yX5_words ∈ wsA := wsA_t4 (List.mem_of_getElem? (i := 18) rfl) rfl
theorem mw_629 : Cond.methodLink RL 92 yX4_same ∈ wsA := wsA_t3 (List.mem_of_getElem? (i := 14) rfl) rfl
theorem mw_630 : Cond.instanceMethod yX4_same ∈ wsA := wsA_t3 (List.mem_of_getElem? (i := 15) rfl) rfl
theorem mw_631 : Cond.selects RX4 yX4_same yX4_same ∈ wsA := wsA_t3 (List.mem_of_getElem? (i := 16) rfl) rfl
theorem mw_632 : Cond.code yX4_same cX4_same 3 (some .boolean) ∈ wsA := wsA_t3 (List.mem_of_getElem? (i := 17) rfl) rfl
theorem mw_633 : Cond.methodLink RX4 155 yX2_isLike ∈ wsA := wsA_t3 (List.mem_of_getElem? (i := 18) rfl) rfl
theorem mw_634 : Cond.instanceMethod yX2_isLike ∈ wsA := wsA_t3 (List.mem_of_getElem? (i := 19) rfl) rfl
theorem mw_635 : Cond.selects RX2 yX2_isLike yX2_isLike ∈ wsA := wsA_t3 (List.mem_of_getElem? (i := 20) rfl) rfl
theorem mw_636 : Cond.code yX2_isLike cX2_isLike 3 (some .boolean) ∈ wsA := wsA_t3 (List.mem_of_getElem? (i := 21) rfl) rfl
theorem mw_637 : Cond.methodLink RX2 55 yX3_isLike ∈ wsA := wsA_t3 (List.mem_of_getElem? (i := 22) rfl) rfl
theorem mw_638 : Cond.instanceMethod yX3_isLike ∈ wsA := wsA_t3 (List.mem_of_getElem? (i := 23) rfl) rfl
theorem mw_639 : Cond.selects RX3 yX3_isLike yX3_isLike ∈ wsA := wsA_t3 (List.mem_of_getElem? (i := 24) rfl) rfl
theorem mw_640 : Cond.code yX3_isLike cX3_isLike 2 (some .boolean) ∈ wsA := wsA_t3 (List.mem_of_getElem? (i := 25) rfl) rfl
theorem mw_641 : Cond.methodLink RL 96 yX5_same ∈ wsA := wsA_t4 (List.mem_of_getElem? (i := 19) rfl) rfl
theorem mw_642 : Cond.instanceMethod yX5_same ∈ wsA := wsA_t4 (List.mem_of_getElem? (i := 20) rfl) rfl
theorem mw_643 : Cond.selects RX5 yX5_same yX5_same ∈ wsA := wsA_t4 (List.mem_of_getElem? (i := 21) rfl) rfl
theorem mw_644 : Cond.code yX5_same cX5_same 5 (some .boolean) ∈ wsA := wsA_t4 (List.mem_of_getElem? (i := 22) rfl) rfl
theorem inA_X0 : ∀ w ∈ wsX00, w ∈ wsA := fun w h => List.mem_filter.mpr ⟨(by decide +kernel : ∀ w ∈ wsX00, w ∈ lw_tbl) w h, (by decide +kernel : ∀ w ∈ wsX00, goodWord w = true) w h⟩
theorem inA_X1 : ∀ w ∈ wsX10, w ∈ wsA := fun w h => List.mem_filter.mpr ⟨(by decide +kernel : ∀ w ∈ wsX10, w ∈ lw_tbl) w h, (by decide +kernel : ∀ w ∈ wsX10, goodWord w = true) w h⟩
theorem inA_X2 : ∀ w ∈ wsX20, w ∈ wsA := fun w h => List.mem_filter.mpr ⟨(by decide +kernel : ∀ w ∈ wsX20, w ∈ lw_tbl) w h, (by decide +kernel : ∀ w ∈ wsX20, goodWord w = true) w h⟩
theorem inA_X3 : ∀ w ∈ wsX30, w ∈ wsA := fun w h => List.mem_filter.mpr ⟨(by decide +kernel : ∀ w ∈ wsX30, w ∈ lw_tbl) w h, (by decide +kernel : ∀ w ∈ wsX30, goodWord w = true) w h⟩
theorem inA_X4 : ∀ w ∈ wsX40, w ∈ wsA := fun w h => List.mem_filter.mpr ⟨(by decide +kernel : ∀ w ∈ wsX40, w ∈ lw_tbl) w h, (by decide +kernel : ∀ w ∈ wsX40, goodWord w = true) w h⟩
theorem inA_X5 : ∀ w ∈ wsX50, w ∈ wsA := fun w h => List.mem_filter.mpr ⟨(by decide +kernel : ∀ w ∈ wsX50, w ∈ lw_tbl) w h, (by decide +kernel : ∀ w ∈ wsX50, goodWord w = true) w h⟩
/-! the links to private members of a nest mate -/
def nestF : List (String × Nat × String × String × String × String) := [("BigPolys", 103, "BigPolys$Bench", "part", "LBigPolys$Poly;", "BigPolys"), ("BigPolys", 145, "BigPolys$Whole", "sign", "I", "BigPolys"), ("BigPolys", 148, "BigPolys$Whole", "size", "I", "BigPolys"), ("BigPolys", 151, "BigPolys$Whole", "digits", "[I", "BigPolys"), ("BigPolys", 25, "BigPolys$Chain", "bench", "LBigPolys$Bench;", "BigPolys"), ("BigPolys", 38, "BigPolys$Poly", "terms", "[LBigPolys$Whole;", "BigPolys"), ("BigPolys", 73, "BigPolys$Bench", "work", "LBigPolys$Poly;", "BigPolys"), ("BigPolys", 81, "BigPolys$Poly", "degree", "I", "BigPolys"), ("BigPolys$Bench", 45, "BigPolys$Poly", "degree", "I", "BigPolys"), ("BigPolys$Bench", 49, "BigPolys$Poly", "terms", "[LBigPolys$Whole;", "BigPolys"), ("BigPolys$Bench", 85, "BigPolys$Whole", "sign", "I", "BigPolys"), ("BigPolys$Chain", 118, "BigPolys$Poly", "terms", "[LBigPolys$Whole;", "BigPolys"), ("BigPolys$Chain", 122, "BigPolys$Whole", "sign", "I", "BigPolys"), ("BigPolys$Chain", 51, "BigPolys$Poly", "degree", "I", "BigPolys"), ("BigPolys$Chain", 79, "BigPolys$Bench", "part", "LBigPolys$Poly;", "BigPolys"), ("BigPolys$Chain", 90, "BigPolys$Bench", "work", "LBigPolys$Poly;", "BigPolys"), ("BigPolys$Poly", 45, "BigPolys$Whole", "sign", "I", "BigPolys"), ("BigPolys$Poly", 52, "BigPolys$Whole", "size", "I", "BigPolys")]
def nestM : List (String × Nat × MethodName × String) := [("BigPolys$Chain", 11, ⟨"BigPolys$Bench", "<init>", "()V"⟩, "BigPolys")]
def nestW : List Cond := nestF.map (fun t => .fieldLinkNest t.1 t.2.1 t.2.2.1 t.2.2.2.1 t.2.2.2.2.1 t.2.2.2.2.2) ++ nestM.map (fun t => .methodLinkNest t.1 t.2.1 t.2.2.1 t.2.2.2)
theorem nestW_in : ∀ w ∈ nestW, w ∈ lw_tbl := by decide +kernel
