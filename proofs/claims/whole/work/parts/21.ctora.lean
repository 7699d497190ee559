theorem la_0 : Cond.methodLink RX0 3 objectInit ∈ BIG := mm_bigI 140 (by decide +kernel) rfl
theorem la_1 : Cond.instanceMethod objectInit ∈ BIG := mm_bigI 86 (by decide +kernel) rfl
theorem la_2 : Cond.code objectInit ⟨#[0xb1]⟩ 1 none ∈ BIG := mm_bigI 87 (by decide +kernel) rfl
theorem la_3 : Cond.fieldLink RX0 9 "IceRoad$Cell" "kind" "I" ∈ BIG := mm_bigI 141 (by decide +kernel) rfl
theorem la_4 : Cond.fieldLink RX0 15 "IceRoad$Cell" "thickness" "I" ∈ BIG := mm_bigI 143 (by decide +kernel) rfl
theorem la_5 : Cond.fieldLink RX0 18 "IceRoad$Cell" "snow" "I" ∈ BIG := mm_bigI 145 (by decide +kernel) rfl
theorem la_6 : Cond.fieldLink RX0 21 "IceRoad$Cell" "depth" "I" ∈ BIG := mm_bigI 147 (by decide +kernel) rfl
theorem la_7 : Cond.fieldLink RX0 24 "IceRoad$Cell" "length" "I" ∈ BIG := mm_bigI 149 (by decide +kernel) rfl
theorem la_8 : Cond.fieldLink RX0 27 "IceRoad$Cell" "wear" "I" ∈ BIG := mm_bigI 151 (by decide +kernel) rfl
theorem la_9 : Cond.fieldLink RX0 30 "IceRoad$Cell" "healing" "I" ∈ BIG := mm_bigI 153 (by decide +kernel) rfl
theorem la_10 : Cond.fieldLink RX0 33 "IceRoad$Cell" "known" "I" ∈ BIG := mm_bigI 155 (by decide +kernel) rfl
theorem la_11 : Cond.fieldLink RX0 36 "IceRoad$Cell" "cameUp" "I" ∈ BIG := mm_bigI 157 (by decide +kernel) rfl
theorem la_12 : Cond.fieldLink RX0 39 "IceRoad$Cell" "cameDown" "I" ∈ BIG := mm_bigI 158 (by decide +kernel) rfl
theorem la_13 : Cond.methodLink RX1 3 objectInit ∈ BIG := mm_bigI 184 (by decide +kernel) rfl
theorem la_14 : Cond.fieldLink RX1 9 "IceRoad$Load" "weight" "I" ∈ BIG := mm_bigI 185 (by decide +kernel) rfl
theorem la_15 : Cond.fieldLink RX1 15 "IceRoad$Load" "rank" "I" ∈ BIG := mm_bigI 187 (by decide +kernel) rfl
theorem la_16 : Cond.fieldLink RX1 18 "IceRoad$Load" "way" "I" ∈ BIG := mm_bigI 189 (by decide +kernel) rfl
theorem la_17 : Cond.fieldLink RX1 21 "IceRoad$Load" "state" "I" ∈ BIG := mm_bigI 191 (by decide +kernel) rfl
theorem la_18 : Cond.fieldLink RX1 24 "IceRoad$Load" "place" "I" ∈ BIG := mm_bigI 193 (by decide +kernel) rfl
theorem la_19 : Cond.fieldLink RX1 27 "IceRoad$Load" "hoursThere" "I" ∈ BIG := mm_bigI 195 (by decide +kernel) rfl
theorem la_20 : Cond.fieldLink RX1 30 "IceRoad$Load" "endHour" "I" ∈ BIG := mm_bigI 197 (by decide +kernel) rfl
theorem la_21 : Cond.methodLink RX2 3 objectInit ∈ BIG := mm_bigI 218 (by decide +kernel) rfl
theorem la_22 : Cond.fieldLink RX2 9 "IceRoad$Rule" "key" "I" ∈ BIG := mm_bigI 219 (by decide +kernel) rfl
theorem la_23 : Cond.fieldLink RX2 15 "IceRoad$Rule" "number" "I" ∈ BIG := mm_bigI 222 (by decide +kernel) rfl
theorem la_24 : Cond.fieldLink RX2 18 "IceRoad$Rule" "from" "I" ∈ BIG := mm_bigI 225 (by decide +kernel) rfl
theorem la_25 : Cond.fieldLink RX2 21 "IceRoad$Rule" "to" "I" ∈ BIG := mm_bigI 227 (by decide +kernel) rfl
theorem la_26 : Cond.fieldLink RX2 24 "IceRoad$Rule" "oneIsEnough" "Z" ∈ BIG := mm_bigI 229 (by decide +kernel) rfl
theorem la_27 : Cond.fieldLink RX2 28 "IceRoad$Rule" "testCount" "I" ∈ BIG := mm_bigI 231 (by decide +kernel) rfl
theorem la_28 : Cond.arrayClass .int ∈ BIG := mm_bigI 105 (by decide +kernel) rfl
theorem la_29 : Cond.fieldLink RX2 31 "IceRoad$Rule" "fields" "[I" ∈ BIG := mm_bigI 233 (by decide +kernel) rfl
theorem la_30 : Cond.fieldLink RX2 35 "IceRoad$Rule" "signs" "[I" ∈ BIG := mm_bigI 235 (by decide +kernel) rfl
theorem la_31 : Cond.fieldLink RX2 38 "IceRoad$Rule" "limits" "[I" ∈ BIG := mm_bigI 237 (by decide +kernel) rfl
theorem la_32 : Cond.methodLink RX4 3 objectInit ∈ BIG := mm_bigI 117 (by decide +kernel) rfl
theorem la_33 : Cond.fieldLink RX4 9 "IceRoad$Tape" "bytes" "[I" ∈ BIG := mm_bigI 118 (by decide +kernel) rfl
theorem la_34 : Cond.fieldLink RX4 15 "IceRoad$Tape" "length" "I" ∈ BIG := mm_bigI 119 (by decide +kernel) rfl
theorem la_35 : Cond.methodLink RX3 3 objectInit ∈ BIG := mm_bigI 111 (by decide +kernel) rfl
theorem la_36 : Cond.classLink RX3 9 "IceRoad$Tape" ∈ BIG := mm_bigI 112 (by decide +kernel) rfl
theorem la_37 : Cond.instantiable "IceRoad$Tape" 2 ∈ BIG := mm_bigI 113 (by decide +kernel) rfl
theorem la_38 : Cond.initialized "IceRoad$Tape" ∈ BIG := mm_bigI 69 (by decide +kernel) rfl
theorem la_39 : Cond.fieldLink RX3 12 "IceRoad$RuleReader" "tape" "LIceRoad$Tape;" ∈ BIG := mm_bigI 127 (by decide +kernel) rfl
theorem la_40 : Cond.fieldLink RX3 18 "IceRoad$RuleReader" "place" "I" ∈ BIG := mm_bigI 129 (by decide +kernel) rfl
theorem la_41 : Cond.methodLink RX5 3 objectInit ∈ BIG := mm_bigI 99 (by decide +kernel) rfl
theorem la_42 : Cond.fieldLink RX5 9 "IceRoad$Weather" "heats" "[I" ∈ BIG := mm_bigI 100 (by decide +kernel) rfl
theorem la_43 : Cond.methodLink RX6 1 objectInit ∈ BIG := mm_bigI 85 (by decide +kernel) rfl
theorem la_44 : Cond.classLink RX6 9 "IceRoad$Cell" ∈ BIG := mm_bigI 88 (by decide +kernel) rfl
theorem la_45 : Cond.fieldLink RX6 11 "IceRoad" "cells" "[LIceRoad$Cell;" ∈ BIG := mm_bigI 262 (by decide +kernel) rfl
theorem la_46 : Cond.classLink RX6 15 "IceRoad$Load" ∈ BIG := mm_bigI 90 (by decide +kernel) rfl
theorem la_47 : Cond.fieldLink RX6 17 "IceRoad" "loads" "[LIceRoad$Load;" ∈ BIG := mm_bigI 263 (by decide +kernel) rfl
theorem la_48 : Cond.fieldLink RX6 21 "IceRoad" "moving" "[LIceRoad$Load;" ∈ BIG := mm_bigI 264 (by decide +kernel) rfl
theorem la_49 : Cond.classLink RX6 24 "IceRoad$Rule" ∈ BIG := mm_bigI 92 (by decide +kernel) rfl
theorem la_50 : Cond.fieldLink RX6 26 "IceRoad" "rules" "[LIceRoad$Rule;" ∈ BIG := mm_bigI 265 (by decide +kernel) rfl
theorem la_51 : Cond.classLink RX6 30 "IceRoad$Weather" ∈ BIG := mm_bigI 94 (by decide +kernel) rfl
theorem la_52 : Cond.instantiable "IceRoad$Weather" 1 ∈ BIG := mm_bigI 95 (by decide +kernel) rfl
theorem la_53 : Cond.initialized "IceRoad$Weather" ∈ BIG := mm_bigI 67 (by decide +kernel) rfl
theorem la_54 : Cond.methodLink RX6 32 yX5_init ∈ BIG := mm_bigI 96 (by decide +kernel) rfl
theorem la_55 : Cond.fieldLink RX6 33 "IceRoad" "hours" "LIceRoad$Weather;" ∈ BIG := mm_bigI 266 (by decide +kernel) rfl
theorem la_56 : Cond.classLink RX6 37 "IceRoad$RuleReader" ∈ BIG := mm_bigI 106 (by decide +kernel) rfl
theorem la_57 : Cond.instantiable "IceRoad$RuleReader" 2 ∈ BIG := mm_bigI 107 (by decide +kernel) rfl
theorem la_58 : Cond.initialized "IceRoad$RuleReader" ∈ BIG := mm_bigI 68 (by decide +kernel) rfl
theorem la_59 : Cond.fieldLink RX6 40 "IceRoad" "reader" "LIceRoad$RuleReader;" ∈ BIG := mm_bigI 267 (by decide +kernel) rfl
theorem la_60 : Cond.fieldLink RX6 44 "IceRoad$RuleReader" "tape" "LIceRoad$Tape;" ∈ BIG := mm_bigI 128 (by decide +kernel) rfl
theorem la_61 : Cond.fieldLink RX6 48 "IceRoad" "tape" "LIceRoad$Tape;" ∈ BIG := mm_bigI 268 (by decide +kernel) rfl
theorem la_62 : Cond.fieldLink RX6 49 "IceRoad" "numbers" "[I" ∈ BIG := mm_bigI 269 (by decide +kernel) rfl
theorem la_63 : Cond.fieldLink RX6 53 "IceRoad" "refusals" "[I" ∈ BIG := mm_bigI 270 (by decide +kernel) rfl
theorem la_64 : Cond.fieldLink RX6 56 "IceRoad" "facts" "[I" ∈ BIG := mm_bigI 271 (by decide +kernel) rfl
theorem la_65 : Cond.instantiable "IceRoad$Cell" 10 ∈ BIG := mm_bigI 136 (by decide +kernel) rfl
theorem la_66 : Cond.initialized "IceRoad$Cell" ∈ BIG := mm_bigI 70 (by decide +kernel) rfl
theorem la_67 : Cond.fieldLink RX6 60 "IceRoad" "trial" "LIceRoad$Cell;" ∈ BIG := mm_bigI 272 (by decide +kernel) rfl
theorem la_68 : Cond.fieldLink RX6 64 "IceRoad" "rowThere" "Z" ∈ BIG := mm_bigI 273 (by decide +kernel) rfl
theorem la_69 : Cond.fieldLink RX6 68 "IceRoad" "cellCount" "I" ∈ BIG := mm_bigI 274 (by decide +kernel) rfl
theorem la_70 : Cond.fieldLink RX6 72 "IceRoad" "loadCount" "I" ∈ BIG := mm_bigI 275 (by decide +kernel) rfl
theorem la_71 : Cond.fieldLink RX6 75 "IceRoad" "ruleCount" "I" ∈ BIG := mm_bigI 276 (by decide +kernel) rfl
theorem la_72 : Cond.fieldLink RX6 78 "IceRoad" "openHour" "I" ∈ BIG := mm_bigI 277 (by decide +kernel) rfl
theorem la_73 : Cond.instantiable "IceRoad$Load" 7 ∈ BIG := mm_bigI 180 (by decide +kernel) rfl
theorem la_74 : Cond.initialized "IceRoad$Load" ∈ BIG := mm_bigI 71 (by decide +kernel) rfl
theorem la_75 : Cond.methodLink RX6 83 yX0_lay ∈ BIG := mm_bigI 258 (by decide +kernel) rfl
theorem la_76 : Cond.instantiable "IceRoad$Rule" 9 ∈ BIG := mm_bigI 214 (by decide +kernel) rfl
theorem la_77 : Cond.initialized "IceRoad$Rule" ∈ BIG := mm_bigI 72 (by decide +kernel) rfl
theorem la_78 : Cond.methodLink RX7 1 objectInit ∈ BIG := mm_bigI 709 (by decide +kernel) rfl
theorem la_79 : Cond.fieldLink RX7 7 "IceRoadModel" "refusals" "[I" ∈ BIG := mm_bigI 710 (by decide +kernel) rfl
theorem la_80 : Cond.fieldLink RX7 13 "IceRoadModel" "cells" "I" ∈ BIG := mm_bigI 712 (by decide +kernel) rfl
theorem la_81 : Cond.fieldLink RX7 17 "IceRoadModel" "kind" "[I" ∈ BIG := mm_bigI 713 (by decide +kernel) rfl
theorem la_82 : Cond.fieldLink RX7 20 "IceRoadModel" "thickness" "[I" ∈ BIG := mm_bigI 714 (by decide +kernel) rfl
theorem la_83 : Cond.fieldLink RX7 23 "IceRoadModel" "snow" "[I" ∈ BIG := mm_bigI 715 (by decide +kernel) rfl
theorem la_84 : Cond.fieldLink RX7 26 "IceRoadModel" "depth" "[I" ∈ BIG := mm_bigI 716 (by decide +kernel) rfl
theorem la_85 : Cond.fieldLink RX7 29 "IceRoadModel" "length" "[I" ∈ BIG := mm_bigI 717 (by decide +kernel) rfl
theorem la_86 : Cond.fieldLink RX7 32 "IceRoadModel" "wear" "[I" ∈ BIG := mm_bigI 718 (by decide +kernel) rfl
theorem la_87 : Cond.fieldLink RX7 35 "IceRoadModel" "healing" "[I" ∈ BIG := mm_bigI 719 (by decide +kernel) rfl
theorem la_88 : Cond.fieldLink RX7 38 "IceRoadModel" "known" "[I" ∈ BIG := mm_bigI 720 (by decide +kernel) rfl
theorem la_89 : Cond.fieldLink RX7 41 "IceRoadModel" "came" "[I" ∈ BIG := mm_bigI 721 (by decide +kernel) rfl
theorem la_90 : Cond.fieldLink RX7 44 "IceRoadModel" "weather" "[I" ∈ BIG := mm_bigI 722 (by decide +kernel) rfl
theorem la_91 : Cond.fieldLink RX7 47 "IceRoadModel" "weight" "[I" ∈ BIG := mm_bigI 724 (by decide +kernel) rfl
theorem la_92 : Cond.fieldLink RX7 50 "IceRoadModel" "rank" "[I" ∈ BIG := mm_bigI 725 (by decide +kernel) rfl
theorem la_93 : Cond.fieldLink RX7 53 "IceRoadModel" "way" "[I" ∈ BIG := mm_bigI 726 (by decide +kernel) rfl
theorem la_94 : Cond.fieldLink RX7 56 "IceRoadModel" "state" "[I" ∈ BIG := mm_bigI 727 (by decide +kernel) rfl
theorem la_95 : Cond.fieldLink RX7 59 "IceRoadModel" "on" "[I" ∈ BIG := mm_bigI 728 (by decide +kernel) rfl
theorem la_96 : Cond.fieldLink RX7 62 "IceRoadModel" "there" "[I" ∈ BIG := mm_bigI 729 (by decide +kernel) rfl
theorem la_97 : Cond.fieldLink RX7 65 "IceRoadModel" "ended" "[I" ∈ BIG := mm_bigI 730 (by decide +kernel) rfl
theorem la_98 : Cond.fieldLink RX7 68 "IceRoadModel" "rule" "[I" ∈ BIG := mm_bigI 732 (by decide +kernel) rfl
theorem la_99 : Cond.arrayClass .boolean ∈ BIG := mm_bigI 813 (by decide +kernel) rfl
theorem la_100 : Cond.fieldLink RX7 71 "IceRoadModel" "isDone" "[Z" ∈ BIG := mm_bigI 733 (by decide +kernel) rfl
theorem la_101 : Cond.fieldLink RX7 75 "IceRoadModel" "kept" "[I" ∈ BIG := mm_bigI 735 (by decide +kernel) rfl
theorem la_102 : Cond.fieldLink RX7 78 "IceRoadModel" "tape" "[I" ∈ BIG := mm_bigI 736 (by decide +kernel) rfl
theorem la_103 : Cond.fieldLink RX7 81 "IceRoadModel" "row" "[I" ∈ BIG := mm_bigI 742 (by decide +kernel) rfl
theorem la_104 : Cond.fieldLink RX7 84 "IceRoadModel" "moved" "[I" ∈ BIG := mm_bigI 743 (by decide +kernel) rfl
theorem df_X0 : ∀ j, j < 10 → defaultValue (tyX0 j) = vp_V [.int 0, .int 0, .int 0, .int 0, .int 0, .int 0, .int 0, .int 0, .int 0, .int 0] j := by decide +kernel
theorem df_X1 : ∀ j, j < 7 → defaultValue (tyX1 j) = vp_V [.int 0, .int 0, .int 0, .int 0, .int 0, .int 0, .int 0] j := by decide +kernel
theorem df_X2 : ∀ j, j < 9 → defaultValue (tyX2 j) = vp_V [.int 0, .int 0, .int 0, .int 0, .int 0, .int 0, .null, .null, .null] j := by decide +kernel
theorem df_X3 : ∀ j, j < 2 → defaultValue (tyX3 j) = vp_V [.null, .int 0] j := by decide +kernel
theorem df_X4 : ∀ j, j < 2 → defaultValue (tyX4 j) = vp_V [.null, .int 0] j := by decide +kernel
theorem df_X5 : ∀ j, j < 1 → defaultValue (tyX5 j) = vp_V [.null] j := by decide +kernel
theorem df_X6 : ∀ j, j < 16 → defaultValue (tyX6 j) = vp_V [.null, .null, .null, .null, .null, .null, .null, .null, .null, .null, .null, .int 0, .int 0, .int 0, .int 0, .int 0] j := by decide +kernel
theorem df_X7 : ∀ j, j < 34 → defaultValue (tyX7 j) = vp_V [.null, .int 0, .int 0, .null, .null, .null, .null, .null, .null, .null, .null, .null, .null, .int 0, .null, .null, .null, .null, .null, .null, .null, .int 0, .null, .null, .int 0, .null, .null, .int 0, .int 0, .int 0, .int 0, .int 0, .null, .null] j := by decide +kernel
theorem wi_X0_init : mmWi yX0_init cX0_init 1 := ⟨mm_bigI 138 (by decide +kernel) rfl, mm_bigI 70 (by decide +kernel) rfl, mm_bigI 139 (by decide +kernel) rfl⟩
theorem hdA_X0_init : yX0_init.cls ≠ "java/lang/invoke/MethodHandle" ∧ yX0_init.cls ≠ "java/lang/invoke/VarHandle" ∧ (parseMethodDescriptor yX0_init.desc).map (fun d => d.parameters.length) = some 0 := by decide +kernel
theorem wi_X1_init : mmWi yX1_init cX1_init 1 := ⟨mm_bigI 182 (by decide +kernel) rfl, mm_bigI 71 (by decide +kernel) rfl, mm_bigI 183 (by decide +kernel) rfl⟩
theorem hdA_X1_init : yX1_init.cls ≠ "java/lang/invoke/MethodHandle" ∧ yX1_init.cls ≠ "java/lang/invoke/VarHandle" ∧ (parseMethodDescriptor yX1_init.desc).map (fun d => d.parameters.length) = some 0 := by decide +kernel
theorem wi_X2_init : mmWi yX2_init cX2_init 1 := ⟨mm_bigI 216 (by decide +kernel) rfl, mm_bigI 72 (by decide +kernel) rfl, mm_bigI 217 (by decide +kernel) rfl⟩
theorem hdA_X2_init : yX2_init.cls ≠ "java/lang/invoke/MethodHandle" ∧ yX2_init.cls ≠ "java/lang/invoke/VarHandle" ∧ (parseMethodDescriptor yX2_init.desc).map (fun d => d.parameters.length) = some 0 := by decide +kernel
theorem wi_X3_init : mmWi yX3_init cX3_init 1 := ⟨mm_bigI 109 (by decide +kernel) rfl, mm_bigI 68 (by decide +kernel) rfl, mm_bigI 110 (by decide +kernel) rfl⟩
theorem hdA_X3_init : yX3_init.cls ≠ "java/lang/invoke/MethodHandle" ∧ yX3_init.cls ≠ "java/lang/invoke/VarHandle" ∧ (parseMethodDescriptor yX3_init.desc).map (fun d => d.parameters.length) = some 0 := by decide +kernel
theorem wi_X4_init : mmWi yX4_init cX4_init 1 := ⟨mm_bigI 115 (by decide +kernel) rfl, mm_bigI 69 (by decide +kernel) rfl, mm_bigI 116 (by decide +kernel) rfl⟩
theorem hdA_X4_init : yX4_init.cls ≠ "java/lang/invoke/MethodHandle" ∧ yX4_init.cls ≠ "java/lang/invoke/VarHandle" ∧ (parseMethodDescriptor yX4_init.desc).map (fun d => d.parameters.length) = some 0 := by decide +kernel
theorem wi_X5_init : mmWi yX5_init cX5_init 2 := ⟨mm_bigI 97 (by decide +kernel) rfl, mm_bigI 67 (by decide +kernel) rfl, mm_bigI 98 (by decide +kernel) rfl⟩
theorem hdA_X5_init : yX5_init.cls ≠ "java/lang/invoke/MethodHandle" ∧ yX5_init.cls ≠ "java/lang/invoke/VarHandle" ∧ (parseMethodDescriptor yX5_init.desc).map (fun d => d.parameters.length) = some 0 := by decide +kernel
theorem wi_X6_init : mmWi yX6_init cX6_init 2 := ⟨mm_bigI 83 (by decide +kernel) rfl, mm_bigI 66 (by decide +kernel) rfl, mm_bigI 84 (by decide +kernel) rfl⟩
theorem hdA_X6_init : yX6_init.cls ≠ "java/lang/invoke/MethodHandle" ∧ yX6_init.cls ≠ "java/lang/invoke/VarHandle" ∧ (parseMethodDescriptor yX6_init.desc).map (fun d => d.parameters.length) = some 0 := by decide +kernel
theorem wi_X7_init : mmWi yX7_init cX7_init 2 := ⟨mm_bigI 707 (by decide +kernel) rfl, mm_bigI 73 (by decide +kernel) rfl, mm_bigI 708 (by decide +kernel) rfl⟩
theorem hdA_X7_init : yX7_init.cls ≠ "java/lang/invoke/MethodHandle" ∧ yX7_init.cls ≠ "java/lang/invoke/VarHandle" ∧ (parseMethodDescriptor yX7_init.desc).map (fun d => d.parameters.length) = some 0 := by decide +kernel
