/-- all words of the tables that every method may take along -/
def zG : List Cond := lw_tbl.filter goodWord
theorem zG_good : ∀ w ∈ zG, goodWord w = true := fun _ h => (List.mem_filter.mp h).2
theorem zG_tbl : ∀ w ∈ zG, w ∈ lw_tbl := fun _ h => (List.mem_filter.mp h).1
theorem kC_L : Cond.initialized RL ∈ zG := List.mem_filter.mpr ⟨List.mem_append_right _ (List.mem_of_getElem? (i := 0) (by decide +kernel)), rfl⟩
theorem kC_X5 : Cond.initialized RX5 ∈ zG := List.mem_filter.mpr ⟨List.mem_append_right _ (List.mem_of_getElem? (i := 1) (by decide +kernel)), rfl⟩
theorem kC_X2 : Cond.initialized RX2 ∈ zG := List.mem_filter.mpr ⟨List.mem_append_right _ (List.mem_of_getElem? (i := 2) (by decide +kernel)), rfl⟩
theorem kC_X4 : Cond.initialized RX4 ∈ zG := List.mem_filter.mpr ⟨List.mem_append_right _ (List.mem_of_getElem? (i := 3) (by decide +kernel)), rfl⟩
theorem kC_X0 : Cond.initialized RX0 ∈ zG := List.mem_filter.mpr ⟨List.mem_append_right _ (List.mem_of_getElem? (i := 4) (by decide +kernel)), rfl⟩
theorem kC_X1 : Cond.initialized RX1 ∈ zG := List.mem_filter.mpr ⟨List.mem_append_right _ (List.mem_of_getElem? (i := 5) (by decide +kernel)), rfl⟩
theorem kC_X3 : Cond.initialized RX3 ∈ zG := List.mem_filter.mpr ⟨List.mem_append_right _ (List.mem_of_getElem? (i := 6) (by decide +kernel)), rfl⟩
theorem kC_X6 : Cond.initialized RX6 ∈ zG := List.mem_filter.mpr ⟨List.mem_append_right _ (List.mem_of_getElem? (i := 7) (by decide +kernel)), rfl⟩
theorem kC_Math : Cond.initialized "java/lang/Math" ∈ zG := List.mem_filter.mpr ⟨List.mem_append_right _ (List.mem_of_getElem? (i := 8) (by decide +kernel)), rfl⟩
theorem kC_System : Cond.initialized "java/lang/System" ∈ zG := List.mem_filter.mpr ⟨List.mem_append_right _ (List.mem_of_getElem? (i := 9) (by decide +kernel)), rfl⟩
theorem kL_L_7 : Cond.classLink RL 7 RX5 ∈ zG := List.mem_filter.mpr ⟨List.mem_append_right _ (List.mem_of_getElem? (i := 10) (by decide +kernel)), rfl⟩
theorem kO_X5 : Cond.instantiable RX5 9 ∈ zG := List.mem_filter.mpr ⟨List.mem_append_right _ (List.mem_of_getElem? (i := 11) (by decide +kernel)), rfl⟩
theorem kM_L_9 : Cond.methodLink RL 9 yX5_init ∈ zG := List.mem_filter.mpr ⟨List.mem_append_right _ (List.mem_of_getElem? (i := 12) (by decide +kernel)), rfl⟩
theorem kI_X5_init : Cond.instanceMethod yX5_init ∈ zG := List.mem_filter.mpr ⟨List.mem_append_right _ (List.mem_of_getElem? (i := 13) (by decide +kernel)), rfl⟩
theorem kD_X5_init : Cond.code yX5_init cX5_init 2 none ∈ zG := List.mem_filter.mpr ⟨List.mem_append_right _ (List.mem_of_getElem? (i := 14) (by decide +kernel)), rfl⟩
theorem kM_X5_3 : Cond.methodLink RX5 3 objectInit ∈ zG := List.mem_filter.mpr ⟨List.mem_append_right _ (List.mem_of_getElem? (i := 15) (by decide +kernel)), rfl⟩
theorem kI_J_objectInit : Cond.instanceMethod objectInit ∈ zG := List.mem_filter.mpr ⟨List.mem_append_right _ (List.mem_of_getElem? (i := 16) (by decide +kernel)), rfl⟩
theorem kD_J_objectInit : Cond.code objectInit ⟨#[0xb1]⟩ 1 none ∈ zG := List.mem_filter.mpr ⟨List.mem_append_right _ (List.mem_of_getElem? (i := 17) (by decide +kernel)), rfl⟩
theorem kL_X5_9 : Cond.classLink RX5 9 RX2 ∈ zG := List.mem_filter.mpr ⟨List.mem_append_right _ (List.mem_of_getElem? (i := 18) (by decide +kernel)), rfl⟩
theorem kO_X2 : Cond.instantiable RX2 9 ∈ zG := List.mem_filter.mpr ⟨List.mem_append_right _ (List.mem_of_getElem? (i := 19) (by decide +kernel)), rfl⟩
theorem kM_X5_11 : Cond.methodLink RX5 11 yX2_init ∈ zG := List.mem_filter.mpr ⟨List.mem_append_right _ (List.mem_of_getElem? (i := 20) (by decide +kernel)), rfl⟩
theorem kI_X2_init : Cond.instanceMethod yX2_init ∈ zG := List.mem_filter.mpr ⟨List.mem_append_right _ (List.mem_of_getElem? (i := 21) (by decide +kernel)), rfl⟩
theorem kD_X2_init : Cond.code yX2_init cX2_init 2 none ∈ zG := List.mem_filter.mpr ⟨List.mem_append_right _ (List.mem_of_getElem? (i := 22) (by decide +kernel)), rfl⟩
theorem kM_X2_3 : Cond.methodLink RX2 3 objectInit ∈ zG := List.mem_filter.mpr ⟨List.mem_append_right _ (List.mem_of_getElem? (i := 23) (by decide +kernel)), rfl⟩
theorem kL_X2_9 : Cond.classLink RX2 9 RX0 ∈ zG := List.mem_filter.mpr ⟨List.mem_append_right _ (List.mem_of_getElem? (i := 24) (by decide +kernel)), rfl⟩
theorem kL_X2_27 : Cond.classLink RX2 27 RX4 ∈ zG := List.mem_filter.mpr ⟨List.mem_append_right _ (List.mem_of_getElem? (i := 26) (by decide +kernel)), rfl⟩
theorem kO_X4 : Cond.instantiable RX4 11 ∈ zG := List.mem_filter.mpr ⟨List.mem_append_right _ (List.mem_of_getElem? (i := 27) (by decide +kernel)), rfl⟩
theorem kI_X4_init : Cond.instanceMethod yX4_init ∈ zG := List.mem_filter.mpr ⟨List.mem_append_right _ (List.mem_of_getElem? (i := 29) (by decide +kernel)), rfl⟩
theorem kD_X4_init : Cond.code yX4_init cX4_init 1 none ∈ zG := List.mem_filter.mpr ⟨List.mem_append_right _ (List.mem_of_getElem? (i := 30) (by decide +kernel)), rfl⟩
theorem kM_X4_3 : Cond.methodLink RX4 3 objectInit ∈ zG := List.mem_filter.mpr ⟨List.mem_append_right _ (List.mem_of_getElem? (i := 31) (by decide +kernel)), rfl⟩
theorem kF_X4_9 : Cond.fieldLink RX4 9 RX4 "bytes" "[I" ∈ zG := List.mem_filter.mpr ⟨List.mem_append_right _ (List.mem_of_getElem? (i := 32) (by decide +kernel)), rfl⟩
theorem kF_X4_15 : Cond.fieldLink RX4 15 RX4 "length" "I" ∈ zG := List.mem_filter.mpr ⟨List.mem_append_right _ (List.mem_of_getElem? (i := 34) (by decide +kernel)), rfl⟩
theorem kF_X4_35 : Cond.fieldLink RX4 35 RX4 "at" "I" ∈ zG := List.mem_filter.mpr ⟨List.mem_append_right _ (List.mem_of_getElem? (i := 37) (by decide +kernel)), rfl⟩
theorem kF_X4_61 : Cond.fieldLink RX4 61 RX4 "sign" "I" ∈ zG := List.mem_filter.mpr ⟨List.mem_append_right _ (List.mem_of_getElem? (i := 38) (by decide +kernel)), rfl⟩
theorem kF_X4_32 : Cond.fieldLink RX4 32 RX4 "fault" "I" ∈ zG := List.mem_filter.mpr ⟨List.mem_append_right _ (List.mem_of_getElem? (i := 39) (by decide +kernel)), rfl⟩
theorem kF_X4_38 : Cond.fieldLink RX4 38 RX4 "stood" "I" ∈ zG := List.mem_filter.mpr ⟨List.mem_append_right _ (List.mem_of_getElem? (i := 40) (by decide +kernel)), rfl⟩
theorem kF_X4_46 : Cond.fieldLink RX4 46 RX4 "hold" "I" ∈ zG := List.mem_filter.mpr ⟨List.mem_append_right _ (List.mem_of_getElem? (i := 41) (by decide +kernel)), rfl⟩
theorem kF_X4_50 : Cond.fieldLink RX4 50 RX4 "go" "I" ∈ zG := List.mem_filter.mpr ⟨List.mem_append_right _ (List.mem_of_getElem? (i := 42) (by decide +kernel)), rfl⟩
theorem kF_X4_51 : Cond.fieldLink RX4 51 RX4 "block" "I" ∈ zG := List.mem_filter.mpr ⟨List.mem_append_right _ (List.mem_of_getElem? (i := 43) (by decide +kernel)), rfl⟩
theorem kF_X4_57 : Cond.fieldLink RX4 57 RX4 "drops" "I" ∈ zG := List.mem_filter.mpr ⟨List.mem_append_right _ (List.mem_of_getElem? (i := 44) (by decide +kernel)), rfl⟩
theorem kF_X4_58 : Cond.fieldLink RX4 58 RX4 "pace" "I" ∈ zG := List.mem_filter.mpr ⟨List.mem_append_right _ (List.mem_of_getElem? (i := 45) (by decide +kernel)), rfl⟩
theorem kA_69 : Cond.arrayClass FieldType.int ∈ zG := List.mem_filter.mpr ⟨List.mem_append_right _ (List.mem_of_getElem? (i := 69) (by decide +kernel)), rfl⟩
theorem kO_X0 : Cond.instantiable RX0 11 ∈ zG := List.mem_filter.mpr ⟨List.mem_append_right _ (List.mem_of_getElem? (i := 70) (by decide +kernel)), rfl⟩
theorem kI_X0_init : Cond.instanceMethod yX0_init ∈ zG := List.mem_filter.mpr ⟨List.mem_append_right _ (List.mem_of_getElem? (i := 72) (by decide +kernel)), rfl⟩
theorem kD_X0_init : Cond.code yX0_init cX0_init 1 none ∈ zG := List.mem_filter.mpr ⟨List.mem_append_right _ (List.mem_of_getElem? (i := 73) (by decide +kernel)), rfl⟩
theorem kM_X0_3 : Cond.methodLink RX0 3 objectInit ∈ zG := List.mem_filter.mpr ⟨List.mem_append_right _ (List.mem_of_getElem? (i := 74) (by decide +kernel)), rfl⟩
theorem kF_X0_9 : Cond.fieldLink RX0 9 RX0 "kind" "I" ∈ zG := List.mem_filter.mpr ⟨List.mem_append_right _ (List.mem_of_getElem? (i := 75) (by decide +kernel)), rfl⟩
theorem kF_X0_15 : Cond.fieldLink RX0 15 RX0 "hold" "I" ∈ zG := List.mem_filter.mpr ⟨List.mem_append_right _ (List.mem_of_getElem? (i := 78) (by decide +kernel)), rfl⟩
theorem kF_X0_18 : Cond.fieldLink RX0 18 RX0 "go" "I" ∈ zG := List.mem_filter.mpr ⟨List.mem_append_right _ (List.mem_of_getElem? (i := 82) (by decide +kernel)), rfl⟩
theorem kF_X0_21 : Cond.fieldLink RX0 21 RX0 "stiff" "I" ∈ zG := List.mem_filter.mpr ⟨List.mem_append_right _ (List.mem_of_getElem? (i := 85) (by decide +kernel)), rfl⟩
theorem kF_X0_24 : Cond.fieldLink RX0 24 RX0 "drops" "I" ∈ zG := List.mem_filter.mpr ⟨List.mem_append_right _ (List.mem_of_getElem? (i := 88) (by decide +kernel)), rfl⟩
theorem kF_X0_27 : Cond.fieldLink RX0 27 RX0 "place" "I" ∈ zG := List.mem_filter.mpr ⟨List.mem_append_right _ (List.mem_of_getElem? (i := 92) (by decide +kernel)), rfl⟩
theorem kF_X0_30 : Cond.fieldLink RX0 30 RX0 "stood" "I" ∈ zG := List.mem_filter.mpr ⟨List.mem_append_right _ (List.mem_of_getElem? (i := 95) (by decide +kernel)), rfl⟩
theorem kF_X0_46 : Cond.fieldLink RX0 46 RX0 "heldBy" "I" ∈ zG := List.mem_filter.mpr ⟨List.mem_append_right _ (List.mem_of_getElem? (i := 98) (by decide +kernel)), rfl⟩
theorem kF_X0_56 : Cond.fieldLink RX0 56 RX0 "pull" "I" ∈ zG := List.mem_filter.mpr ⟨List.mem_append_right _ (List.mem_of_getElem? (i := 100) (by decide +kernel)), rfl⟩
theorem kF_X0_49 : Cond.fieldLink RX0 49 RX0 "steps" "I" ∈ zG := List.mem_filter.mpr ⟨List.mem_append_right _ (List.mem_of_getElem? (i := 102) (by decide +kernel)), rfl⟩
theorem kF_X0_52 : Cond.fieldLink RX0 52 RX0 "moved" "Z" ∈ zG := List.mem_filter.mpr ⟨List.mem_append_right _ (List.mem_of_getElem? (i := 103) (by decide +kernel)), rfl⟩
theorem kF_X2_11 : Cond.fieldLink RX2 11 RX2 "blocks" "[LDoorCreaks$Block;" ∈ zG := List.mem_filter.mpr ⟨List.mem_append_right _ (List.mem_of_getElem? (i := 127) (by decide +kernel)), rfl⟩
theorem kF_X2_17 : Cond.fieldLink RX2 17 RX2 "length" "I" ∈ zG := List.mem_filter.mpr ⟨List.mem_append_right _ (List.mem_of_getElem? (i := 129) (by decide +kernel)), rfl⟩
theorem kF_X2_21 : Cond.fieldLink RX2 21 RX2 "hand" "I" ∈ zG := List.mem_filter.mpr ⟨List.mem_append_right _ (List.mem_of_getElem? (i := 131) (by decide +kernel)), rfl⟩
theorem kF_X2_24 : Cond.fieldLink RX2 24 RX2 "pace" "I" ∈ zG := List.mem_filter.mpr ⟨List.mem_append_right _ (List.mem_of_getElem? (i := 133) (by decide +kernel)), rfl⟩
theorem kF_X2_30 : Cond.fieldLink RX2 30 RX2 "law" "LDoorCreaks$Text;" ∈ zG := List.mem_filter.mpr ⟨List.mem_append_right _ (List.mem_of_getElem? (i := 135) (by decide +kernel)), rfl⟩
theorem kF_X2_34 : Cond.fieldLink RX2 34 RX2 "size" "I" ∈ zG := List.mem_filter.mpr ⟨List.mem_append_right _ (List.mem_of_getElem? (i := 137) (by decide +kernel)), rfl⟩
theorem kF_X2_37 : Cond.fieldLink RX2 37 RX2 "wide" "I" ∈ zG := List.mem_filter.mpr ⟨List.mem_append_right _ (List.mem_of_getElem? (i := 140) (by decide +kernel)), rfl⟩
theorem kF_X2_40 : Cond.fieldLink RX2 40 RX2 "noise" "I" ∈ zG := List.mem_filter.mpr ⟨List.mem_append_right _ (List.mem_of_getElem? (i := 143) (by decide +kernel)), rfl⟩
theorem kF_X2_43 : Cond.fieldLink RX2 43 RX2 "chatters" "Z" ∈ zG := List.mem_filter.mpr ⟨List.mem_append_right _ (List.mem_of_getElem? (i := 146) (by decide +kernel)), rfl⟩
theorem kL_X5_22 : Cond.classLink RX5 22 RX1 ∈ zG := List.mem_filter.mpr ⟨List.mem_append_right _ (List.mem_of_getElem? (i := 167) (by decide +kernel)), rfl⟩
theorem kO_X1 : Cond.instantiable RX1 8 ∈ zG := List.mem_filter.mpr ⟨List.mem_append_right _ (List.mem_of_getElem? (i := 168) (by decide +kernel)), rfl⟩
theorem kI_X1_init : Cond.instanceMethod yX1_init ∈ zG := List.mem_filter.mpr ⟨List.mem_append_right _ (List.mem_of_getElem? (i := 170) (by decide +kernel)), rfl⟩
theorem kD_X1_init : Cond.code yX1_init cX1_init 1 none ∈ zG := List.mem_filter.mpr ⟨List.mem_append_right _ (List.mem_of_getElem? (i := 171) (by decide +kernel)), rfl⟩
theorem kM_X1_3 : Cond.methodLink RX1 3 objectInit ∈ zG := List.mem_filter.mpr ⟨List.mem_append_right _ (List.mem_of_getElem? (i := 172) (by decide +kernel)), rfl⟩
theorem kF_X1_9 : Cond.fieldLink RX1 9 RX1 "sizes" "[I" ∈ zG := List.mem_filter.mpr ⟨List.mem_append_right _ (List.mem_of_getElem? (i := 173) (by decide +kernel)), rfl⟩
theorem kF_X1_15 : Cond.fieldLink RX1 15 RX1 "wides" "[I" ∈ zG := List.mem_filter.mpr ⟨List.mem_append_right _ (List.mem_of_getElem? (i := 175) (by decide +kernel)), rfl⟩
theorem kF_X1_18 : Cond.fieldLink RX1 18 RX1 "noises" "[I" ∈ zG := List.mem_filter.mpr ⟨List.mem_append_right _ (List.mem_of_getElem? (i := 177) (by decide +kernel)), rfl⟩
theorem kF_X1_21 : Cond.fieldLink RX1 21 RX1 "classes" "[I" ∈ zG := List.mem_filter.mpr ⟨List.mem_append_right _ (List.mem_of_getElem? (i := 179) (by decide +kernel)), rfl⟩
theorem kF_X1_24 : Cond.fieldLink RX1 24 RX1 "length" "I" ∈ zG := List.mem_filter.mpr ⟨List.mem_append_right _ (List.mem_of_getElem? (i := 181) (by decide +kernel)), rfl⟩
theorem kF_X1_28 : Cond.fieldLink RX1 28 RX1 "next" "I" ∈ zG := List.mem_filter.mpr ⟨List.mem_append_right _ (List.mem_of_getElem? (i := 183) (by decide +kernel)), rfl⟩
theorem kF_X1_31 : Cond.fieldLink RX1 31 RX1 "ticks" "I" ∈ zG := List.mem_filter.mpr ⟨List.mem_append_right _ (List.mem_of_getElem? (i := 184) (by decide +kernel)), rfl⟩
theorem kF_X1_34 : Cond.fieldLink RX1 34 RX1 "chattered" "I" ∈ zG := List.mem_filter.mpr ⟨List.mem_append_right _ (List.mem_of_getElem? (i := 186) (by decide +kernel)), rfl⟩
theorem kL_X5_36 : Cond.classLink RX5 36 RX4 ∈ zG := List.mem_filter.mpr ⟨List.mem_append_right _ (List.mem_of_getElem? (i := 205) (by decide +kernel)), rfl⟩
theorem kL_X5_43 : Cond.classLink RX5 43 RX3 ∈ zG := List.mem_filter.mpr ⟨List.mem_append_right _ (List.mem_of_getElem? (i := 207) (by decide +kernel)), rfl⟩
theorem kO_X3 : Cond.instantiable RX3 3 ∈ zG := List.mem_filter.mpr ⟨List.mem_append_right _ (List.mem_of_getElem? (i := 209) (by decide +kernel)), rfl⟩
theorem kI_X3_init : Cond.instanceMethod yX3_init ∈ zG := List.mem_filter.mpr ⟨List.mem_append_right _ (List.mem_of_getElem? (i := 211) (by decide +kernel)), rfl⟩
theorem kD_X3_init : Cond.code yX3_init cX3_init 1 none ∈ zG := List.mem_filter.mpr ⟨List.mem_append_right _ (List.mem_of_getElem? (i := 212) (by decide +kernel)), rfl⟩
theorem kM_X3_3 : Cond.methodLink RX3 3 objectInit ∈ zG := List.mem_filter.mpr ⟨List.mem_append_right _ (List.mem_of_getElem? (i := 213) (by decide +kernel)), rfl⟩
theorem kF_X3_9 : Cond.fieldLink RX3 9 RX3 "numbers" "[J" ∈ zG := List.mem_filter.mpr ⟨List.mem_append_right _ (List.mem_of_getElem? (i := 214) (by decide +kernel)), rfl⟩
theorem kF_X3_15 : Cond.fieldLink RX3 15 RX3 "bits" "I" ∈ zG := List.mem_filter.mpr ⟨List.mem_append_right _ (List.mem_of_getElem? (i := 216) (by decide +kernel)), rfl⟩
theorem kF_X3_19 : Cond.fieldLink RX3 19 RX3 "length" "I" ∈ zG := List.mem_filter.mpr ⟨List.mem_append_right _ (List.mem_of_getElem? (i := 218) (by decide +kernel)), rfl⟩
theorem kA_227 : Cond.arrayClass FieldType.long ∈ zG := List.mem_filter.mpr ⟨List.mem_append_right _ (List.mem_of_getElem? (i := 227) (by decide +kernel)), rfl⟩
theorem kF_X5_12 : Cond.fieldLink RX5 12 RX5 "live" "LDoorCreaks$Row;" ∈ zG := List.mem_filter.mpr ⟨List.mem_append_right _ (List.mem_of_getElem? (i := 228) (by decide +kernel)), rfl⟩
theorem kF_X5_16 : Cond.fieldLink RX5 16 RX5 "kept" "LDoorCreaks$Row;" ∈ zG := List.mem_filter.mpr ⟨List.mem_append_right _ (List.mem_of_getElem? (i := 229) (by decide +kernel)), rfl⟩
theorem kF_X5_19 : Cond.fieldLink RX5 19 RX5 "trial" "LDoorCreaks$Row;" ∈ zG := List.mem_filter.mpr ⟨List.mem_append_right _ (List.mem_of_getElem? (i := 230) (by decide +kernel)), rfl⟩
theorem kF_X5_25 : Cond.fieldLink RX5 25 RX5 "book" "LDoorCreaks$Book;" ∈ zG := List.mem_filter.mpr ⟨List.mem_append_right _ (List.mem_of_getElem? (i := 231) (by decide +kernel)), rfl⟩
theorem kF_X5_29 : Cond.fieldLink RX5 29 RX5 "keptBook" "LDoorCreaks$Book;" ∈ zG := List.mem_filter.mpr ⟨List.mem_append_right _ (List.mem_of_getElem? (i := 232) (by decide +kernel)), rfl⟩
theorem kF_X5_32 : Cond.fieldLink RX5 32 RX5 "isKept" "Z" ∈ zG := List.mem_filter.mpr ⟨List.mem_append_right _ (List.mem_of_getElem? (i := 233) (by decide +kernel)), rfl⟩
theorem kF_X5_39 : Cond.fieldLink RX5 39 RX5 "tape" "LDoorCreaks$Text;" ∈ zG := List.mem_filter.mpr ⟨List.mem_append_right _ (List.mem_of_getElem? (i := 234) (by decide +kernel)), rfl⟩
theorem kF_X5_45 : Cond.fieldLink RX5 45 RX5 "sheets" "[LDoorCreaks$Sheet;" ∈ zG := List.mem_filter.mpr ⟨List.mem_append_right _ (List.mem_of_getElem? (i := 235) (by decide +kernel)), rfl⟩
theorem kF_X5_49 : Cond.fieldLink RX5 49 RX5 "found" "[I" ∈ zG := List.mem_filter.mpr ⟨List.mem_append_right _ (List.mem_of_getElem? (i := 236) (by decide +kernel)), rfl⟩
theorem kM_L_13 : Cond.methodLink RL 13 yX5_block ∈ zG := List.mem_filter.mpr ⟨List.mem_append_right _ (List.mem_of_getElem? (i := 256) (by decide +kernel)), rfl⟩
theorem kI_X5_block : Cond.instanceMethod yX5_block ∈ zG := List.mem_filter.mpr ⟨List.mem_append_right _ (List.mem_of_getElem? (i := 257) (by decide +kernel)), rfl⟩
theorem kS_X5_block : Cond.selects RX5 yX5_block yX5_block ∈ zG := List.mem_filter.mpr ⟨List.mem_append_right _ (List.mem_of_getElem? (i := 258) (by decide +kernel)), rfl⟩
theorem kD_X5_block : Cond.code yX5_block cX5_block 6 (some .int) ∈ zG := List.mem_filter.mpr ⟨List.mem_append_right _ (List.mem_of_getElem? (i := 259) (by decide +kernel)), rfl⟩
theorem kM_X5_54 : Cond.methodLink RX5 54 yX5_within ∈ zG := List.mem_filter.mpr ⟨List.mem_append_right _ (List.mem_of_getElem? (i := 260) (by decide +kernel)), rfl⟩
theorem kT_X5_within : Cond.static yX5_within ∈ zG := List.mem_filter.mpr ⟨List.mem_append_right _ (List.mem_of_getElem? (i := 261) (by decide +kernel)), rfl⟩
theorem kD_X5_within : Cond.code yX5_within cX5_within 3 (some .boolean) ∈ zG := List.mem_filter.mpr ⟨List.mem_append_right _ (List.mem_of_getElem? (i := 262) (by decide +kernel)), rfl⟩
theorem kK_X5_58 : Cond.constant RX5 58 (-1000000001 : Int32) ∈ zG := List.mem_filter.mpr ⟨List.mem_append_right _ (List.mem_of_getElem? (i := 263) (by decide +kernel)), rfl⟩
theorem kM_X5_59 : Cond.methodLink RX5 59 yX5_finding ∈ zG := List.mem_filter.mpr ⟨List.mem_append_right _ (List.mem_of_getElem? (i := 264) (by decide +kernel)), rfl⟩
theorem kI_X5_finding : Cond.instanceMethod yX5_finding ∈ zG := List.mem_filter.mpr ⟨List.mem_append_right _ (List.mem_of_getElem? (i := 266) (by decide +kernel)), rfl⟩
theorem kD_X5_finding : Cond.code yX5_finding cX5_finding 3 (some .int) ∈ zG := List.mem_filter.mpr ⟨List.mem_append_right _ (List.mem_of_getElem? (i := 267) (by decide +kernel)), rfl⟩
theorem kK_X5_67 : Cond.constant RX5 67 (-1000000002 : Int32) ∈ zG := List.mem_filter.mpr ⟨List.mem_append_right _ (List.mem_of_getElem? (i := 268) (by decide +kernel)), rfl⟩
theorem kM_X5_72 : Cond.methodLink RX5 72 yX0_begin ∈ zG := List.mem_filter.mpr ⟨List.mem_append_right _ (List.mem_of_getElem? (i := 269) (by decide +kernel)), rfl⟩
theorem kI_X0_begin : Cond.instanceMethod yX0_begin ∈ zG := List.mem_filter.mpr ⟨List.mem_append_right _ (List.mem_of_getElem? (i := 270) (by decide +kernel)), rfl⟩
theorem kS_X0_begin : Cond.selects RX0 yX0_begin yX0_begin ∈ zG := List.mem_filter.mpr ⟨List.mem_append_right _ (List.mem_of_getElem? (i := 271) (by decide +kernel)), rfl⟩
theorem kD_X0_begin : Cond.code yX0_begin cX0_begin 5 none ∈ zG := List.mem_filter.mpr ⟨List.mem_append_right _ (List.mem_of_getElem? (i := 272) (by decide +kernel)), rfl⟩
theorem kM_L_18 : Cond.methodLink RL 18 yX5_of ∈ zG := List.mem_filter.mpr ⟨List.mem_append_right _ (List.mem_of_getElem? (i := 273) (by decide +kernel)), rfl⟩
theorem kI_X5_of : Cond.instanceMethod yX5_of ∈ zG := List.mem_filter.mpr ⟨List.mem_append_right _ (List.mem_of_getElem? (i := 274) (by decide +kernel)), rfl⟩
theorem kS_X5_of : Cond.selects RX5 yX5_of yX5_of ∈ zG := List.mem_filter.mpr ⟨List.mem_append_right _ (List.mem_of_getElem? (i := 275) (by decide +kernel)), rfl⟩
theorem kD_X5_of : Cond.code yX5_of cX5_of 4 (some .int) ∈ zG := List.mem_filter.mpr ⟨List.mem_append_right _ (List.mem_of_getElem? (i := 276) (by decide +kernel)), rfl⟩
theorem kM_X5_78 : Cond.methodLink RX5 78 yX2_has ∈ zG := List.mem_filter.mpr ⟨List.mem_append_right _ (List.mem_of_getElem? (i := 277) (by decide +kernel)), rfl⟩
theorem kI_X2_has : Cond.instanceMethod yX2_has ∈ zG := List.mem_filter.mpr ⟨List.mem_append_right _ (List.mem_of_getElem? (i := 278) (by decide +kernel)), rfl⟩
theorem kS_X2_has : Cond.selects RX2 yX2_has yX2_has ∈ zG := List.mem_filter.mpr ⟨List.mem_append_right _ (List.mem_of_getElem? (i := 279) (by decide +kernel)), rfl⟩
theorem kD_X2_has : Cond.code yX2_has cX2_has 2 (some .boolean) ∈ zG := List.mem_filter.mpr ⟨List.mem_append_right _ (List.mem_of_getElem? (i := 280) (by decide +kernel)), rfl⟩
theorem kM_X5_103 : Cond.methodLink RX5 103 yX2_pullOf ∈ zG := List.mem_filter.mpr ⟨List.mem_append_right _ (List.mem_of_getElem? (i := 281) (by decide +kernel)), rfl⟩
theorem kI_X2_pullOf : Cond.instanceMethod yX2_pullOf ∈ zG := List.mem_filter.mpr ⟨List.mem_append_right _ (List.mem_of_getElem? (i := 282) (by decide +kernel)), rfl⟩
theorem kS_X2_pullOf : Cond.selects RX2 yX2_pullOf yX2_pullOf ∈ zG := List.mem_filter.mpr ⟨List.mem_append_right _ (List.mem_of_getElem? (i := 283) (by decide +kernel)), rfl⟩
theorem kD_X2_pullOf : Cond.code yX2_pullOf cX2_pullOf 6 (some .int) ∈ zG := List.mem_filter.mpr ⟨List.mem_append_right _ (List.mem_of_getElem? (i := 284) (by decide +kernel)), rfl⟩
theorem kM_X5_106 : Cond.methodLink RX5 106 yX2_holdsOf ∈ zG := List.mem_filter.mpr ⟨List.mem_append_right _ (List.mem_of_getElem? (i := 285) (by decide +kernel)), rfl⟩
theorem kI_X2_holdsOf : Cond.instanceMethod yX2_holdsOf ∈ zG := List.mem_filter.mpr ⟨List.mem_append_right _ (List.mem_of_getElem? (i := 286) (by decide +kernel)), rfl⟩
theorem kS_X2_holdsOf : Cond.selects RX2 yX2_holdsOf yX2_holdsOf ∈ zG := List.mem_filter.mpr ⟨List.mem_append_right _ (List.mem_of_getElem? (i := 287) (by decide +kernel)), rfl⟩
theorem kD_X2_holdsOf : Cond.code yX2_holdsOf cX2_holdsOf 4 (some .int) ∈ zG := List.mem_filter.mpr ⟨List.mem_append_right _ (List.mem_of_getElem? (i := 288) (by decide +kernel)), rfl⟩
theorem kM_X2_64 : Cond.methodLink RX2 64 yX0_rustyHolds ∈ zG := List.mem_filter.mpr ⟨List.mem_append_right _ (List.mem_of_getElem? (i := 289) (by decide +kernel)), rfl⟩
theorem kI_X0_rustyHolds : Cond.instanceMethod yX0_rustyHolds ∈ zG := List.mem_filter.mpr ⟨List.mem_append_right _ (List.mem_of_getElem? (i := 290) (by decide +kernel)), rfl⟩
theorem kS_X0_rustyHolds : Cond.selects RX0 yX0_rustyHolds yX0_rustyHolds ∈ zG := List.mem_filter.mpr ⟨List.mem_append_right _ (List.mem_of_getElem? (i := 291) (by decide +kernel)), rfl⟩
theorem kD_X0_rustyHolds : Cond.code yX0_rustyHolds cX0_rustyHolds 2 (some .int) ∈ zG := List.mem_filter.mpr ⟨List.mem_append_right _ (List.mem_of_getElem? (i := 292) (by decide +kernel)), rfl⟩
theorem kM_X0_39 : Cond.methodLink RX0 39 yX0_plainHolds ∈ zG := List.mem_filter.mpr ⟨List.mem_append_right _ (List.mem_of_getElem? (i := 293) (by decide +kernel)), rfl⟩
theorem kI_X0_plainHolds : Cond.instanceMethod yX0_plainHolds ∈ zG := List.mem_filter.mpr ⟨List.mem_append_right _ (List.mem_of_getElem? (i := 294) (by decide +kernel)), rfl⟩
theorem kS_X0_plainHolds : Cond.selects RX0 yX0_plainHolds yX0_plainHolds ∈ zG := List.mem_filter.mpr ⟨List.mem_append_right _ (List.mem_of_getElem? (i := 295) (by decide +kernel)), rfl⟩
theorem kD_X0_plainHolds : Cond.code yX0_plainHolds cX0_plainHolds 2 (some .int) ∈ zG := List.mem_filter.mpr ⟨List.mem_append_right _ (List.mem_of_getElem? (i := 296) (by decide +kernel)), rfl⟩
theorem kM_X0_33 : Cond.methodLink RX0 33 Lib.Math.min.name ∈ zG := List.mem_filter.mpr ⟨List.mem_append_right _ (List.mem_of_getElem? (i := 297) (by decide +kernel)), rfl⟩
theorem kT_J_min : Cond.static Lib.Math.min.name ∈ zG := List.mem_filter.mpr ⟨List.mem_append_right _ (List.mem_of_getElem? (i := 298) (by decide +kernel)), rfl⟩
theorem kD_J_min : Cond.code Lib.Math.min.name Lib.Math.min.code 2 (some .int) ∈ zG := List.mem_filter.mpr ⟨List.mem_append_right _ (List.mem_of_getElem? (i := 299) (by decide +kernel)), rfl⟩
theorem kM_X2_68 : Cond.methodLink RX2 68 yX0_oiledHolds ∈ zG := List.mem_filter.mpr ⟨List.mem_append_right _ (List.mem_of_getElem? (i := 300) (by decide +kernel)), rfl⟩
theorem kI_X0_oiledHolds : Cond.instanceMethod yX0_oiledHolds ∈ zG := List.mem_filter.mpr ⟨List.mem_append_right _ (List.mem_of_getElem? (i := 301) (by decide +kernel)), rfl⟩
theorem kS_X0_oiledHolds : Cond.selects RX0 yX0_oiledHolds yX0_oiledHolds ∈ zG := List.mem_filter.mpr ⟨List.mem_append_right _ (List.mem_of_getElem? (i := 302) (by decide +kernel)), rfl⟩
theorem kD_X0_oiledHolds : Cond.code yX0_oiledHolds cX0_oiledHolds 2 (some .int) ∈ zG := List.mem_filter.mpr ⟨List.mem_append_right _ (List.mem_of_getElem? (i := 303) (by decide +kernel)), rfl⟩
theorem kM_X0_43 : Cond.methodLink RX0 43 Lib.Math.max.name ∈ zG := List.mem_filter.mpr ⟨List.mem_append_right _ (List.mem_of_getElem? (i := 304) (by decide +kernel)), rfl⟩
theorem kT_J_max : Cond.static Lib.Math.max.name ∈ zG := List.mem_filter.mpr ⟨List.mem_append_right _ (List.mem_of_getElem? (i := 305) (by decide +kernel)), rfl⟩
theorem kD_J_max : Cond.code Lib.Math.max.name Lib.Math.max.code 2 (some .int) ∈ zG := List.mem_filter.mpr ⟨List.mem_append_right _ (List.mem_of_getElem? (i := 306) (by decide +kernel)), rfl⟩
theorem kM_X2_75 : Cond.methodLink RX2 75 yX4_valueFor ∈ zG := List.mem_filter.mpr ⟨List.mem_append_right _ (List.mem_of_getElem? (i := 307) (by decide +kernel)), rfl⟩
theorem kI_X4_valueFor : Cond.instanceMethod yX4_valueFor ∈ zG := List.mem_filter.mpr ⟨List.mem_append_right _ (List.mem_of_getElem? (i := 308) (by decide +kernel)), rfl⟩
theorem kS_X4_valueFor : Cond.selects RX4 yX4_valueFor yX4_valueFor ∈ zG := List.mem_filter.mpr ⟨List.mem_append_right _ (List.mem_of_getElem? (i := 309) (by decide +kernel)), rfl⟩
theorem kD_X4_valueFor : Cond.code yX4_valueFor cX4_valueFor 5 (some .int) ∈ zG := List.mem_filter.mpr ⟨List.mem_append_right _ (List.mem_of_getElem? (i := 310) (by decide +kernel)), rfl⟩
theorem kM_X4_25 : Cond.methodLink RX4 25 yX4_begin ∈ zG := List.mem_filter.mpr ⟨List.mem_append_right _ (List.mem_of_getElem? (i := 311) (by decide +kernel)), rfl⟩
theorem kI_X4_begin : Cond.instanceMethod yX4_begin ∈ zG := List.mem_filter.mpr ⟨List.mem_append_right _ (List.mem_of_getElem? (i := 313) (by decide +kernel)), rfl⟩
theorem kD_X4_begin : Cond.code yX4_begin cX4_begin 1 none ∈ zG := List.mem_filter.mpr ⟨List.mem_append_right _ (List.mem_of_getElem? (i := 314) (by decide +kernel)), rfl⟩
theorem kM_X4_28 : Cond.methodLink RX4 28 yX4_sum ∈ zG := List.mem_filter.mpr ⟨List.mem_append_right _ (List.mem_of_getElem? (i := 315) (by decide +kernel)), rfl⟩
theorem kI_X4_sum : Cond.instanceMethod yX4_sum ∈ zG := List.mem_filter.mpr ⟨List.mem_append_right _ (List.mem_of_getElem? (i := 317) (by decide +kernel)), rfl⟩
theorem kD_X4_sum : Cond.code yX4_sum cX4_sum 6 (some .int) ∈ zG := List.mem_filter.mpr ⟨List.mem_append_right _ (List.mem_of_getElem? (i := 318) (by decide +kernel)), rfl⟩
theorem kM_X4_64 : Cond.methodLink RX4 64 yX4_product ∈ zG := List.mem_filter.mpr ⟨List.mem_append_right _ (List.mem_of_getElem? (i := 319) (by decide +kernel)), rfl⟩
theorem kI_X4_product : Cond.instanceMethod yX4_product ∈ zG := List.mem_filter.mpr ⟨List.mem_append_right _ (List.mem_of_getElem? (i := 321) (by decide +kernel)), rfl⟩
theorem kD_X4_product : Cond.code yX4_product cX4_product 6 (some .int) ∈ zG := List.mem_filter.mpr ⟨List.mem_append_right _ (List.mem_of_getElem? (i := 322) (by decide +kernel)), rfl⟩
theorem kM_X4_71 : Cond.methodLink RX4 71 yX4_factor ∈ zG := List.mem_filter.mpr ⟨List.mem_append_right _ (List.mem_of_getElem? (i := 323) (by decide +kernel)), rfl⟩
theorem kI_X4_factor : Cond.instanceMethod yX4_factor ∈ zG := List.mem_filter.mpr ⟨List.mem_append_right _ (List.mem_of_getElem? (i := 325) (by decide +kernel)), rfl⟩
theorem kD_X4_factor : Cond.code yX4_factor cX4_factor 5 (some .int) ∈ zG := List.mem_filter.mpr ⟨List.mem_append_right _ (List.mem_of_getElem? (i := 326) (by decide +kernel)), rfl⟩
theorem kM_X4_67 : Cond.methodLink RX4 67 yX4_pass ∈ zG := List.mem_filter.mpr ⟨List.mem_append_right _ (List.mem_of_getElem? (i := 327) (by decide +kernel)), rfl⟩
theorem kI_X4_pass : Cond.instanceMethod yX4_pass ∈ zG := List.mem_filter.mpr ⟨List.mem_append_right _ (List.mem_of_getElem? (i := 329) (by decide +kernel)), rfl⟩
theorem kD_X4_pass : Cond.code yX4_pass cX4_pass 2 none ∈ zG := List.mem_filter.mpr ⟨List.mem_append_right _ (List.mem_of_getElem? (i := 330) (by decide +kernel)), rfl⟩
theorem kM_X4_74 : Cond.methodLink RX4 74 Lib.Math.max.name ∈ zG := List.mem_filter.mpr ⟨List.mem_append_right _ (List.mem_of_getElem? (i := 331) (by decide +kernel)), rfl⟩
theorem kM_X4_80 : Cond.methodLink RX4 80 yX4_named ∈ zG := List.mem_filter.mpr ⟨List.mem_append_right _ (List.mem_of_getElem? (i := 332) (by decide +kernel)), rfl⟩
theorem kI_X4_named : Cond.instanceMethod yX4_named ∈ zG := List.mem_filter.mpr ⟨List.mem_append_right _ (List.mem_of_getElem? (i := 334) (by decide +kernel)), rfl⟩
theorem kD_X4_named : Cond.code yX4_named cX4_named 2 (some .int) ∈ zG := List.mem_filter.mpr ⟨List.mem_append_right _ (List.mem_of_getElem? (i := 335) (by decide +kernel)), rfl⟩
theorem kM_X4_83 : Cond.methodLink RX4 83 yX4_isName ∈ zG := List.mem_filter.mpr ⟨List.mem_append_right _ (List.mem_of_getElem? (i := 336) (by decide +kernel)), rfl⟩
theorem kT_X4_isName : Cond.static yX4_isName ∈ zG := List.mem_filter.mpr ⟨List.mem_append_right _ (List.mem_of_getElem? (i := 337) (by decide +kernel)), rfl⟩
theorem kD_X4_isName : Cond.code yX4_isName cX4_isName 1 (some .boolean) ∈ zG := List.mem_filter.mpr ⟨List.mem_append_right _ (List.mem_of_getElem? (i := 338) (by decide +kernel)), rfl⟩
theorem kM_X2_79 : Cond.methodLink RX2 79 Lib.Math.min.name ∈ zG := List.mem_filter.mpr ⟨List.mem_append_right _ (List.mem_of_getElem? (i := 339) (by decide +kernel)), rfl⟩
theorem kM_X2_85 : Cond.methodLink RX2 85 Lib.Math.max.name ∈ zG := List.mem_filter.mpr ⟨List.mem_append_right _ (List.mem_of_getElem? (i := 340) (by decide +kernel)), rfl⟩
theorem kM_X2_91 : Cond.methodLink RX2 91 yX0_plainHolds ∈ zG := List.mem_filter.mpr ⟨List.mem_append_right _ (List.mem_of_getElem? (i := 341) (by decide +kernel)), rfl⟩
theorem kM_L_23 : Cond.methodLink RL 23 yX5_set ∈ zG := List.mem_filter.mpr ⟨List.mem_append_right _ (List.mem_of_getElem? (i := 342) (by decide +kernel)), rfl⟩
theorem kI_X5_set : Cond.instanceMethod yX5_set ∈ zG := List.mem_filter.mpr ⟨List.mem_append_right _ (List.mem_of_getElem? (i := 343) (by decide +kernel)), rfl⟩
theorem kS_X5_set : Cond.selects RX5 yX5_set yX5_set ∈ zG := List.mem_filter.mpr ⟨List.mem_append_right _ (List.mem_of_getElem? (i := 344) (by decide +kernel)), rfl⟩
theorem kD_X5_set : Cond.code yX5_set cX5_set 6 (some .int) ∈ zG := List.mem_filter.mpr ⟨List.mem_append_right _ (List.mem_of_getElem? (i := 345) (by decide +kernel)), rfl⟩
theorem kM_X5_110 : Cond.methodLink RX5 110 yX5_canBecome ∈ zG := List.mem_filter.mpr ⟨List.mem_append_right _ (List.mem_of_getElem? (i := 346) (by decide +kernel)), rfl⟩
theorem kT_X5_canBecome : Cond.static yX5_canBecome ∈ zG := List.mem_filter.mpr ⟨List.mem_append_right _ (List.mem_of_getElem? (i := 347) (by decide +kernel)), rfl⟩
theorem kD_X5_canBecome : Cond.code yX5_canBecome cX5_canBecome 2 (some .boolean) ∈ zG := List.mem_filter.mpr ⟨List.mem_append_right _ (List.mem_of_getElem? (i := 348) (by decide +kernel)), rfl⟩
theorem kM_L_28 : Cond.methodLink RL 28 yX5_as ∈ zG := List.mem_filter.mpr ⟨List.mem_append_right _ (List.mem_of_getElem? (i := 349) (by decide +kernel)), rfl⟩
theorem kI_X5_as : Cond.instanceMethod yX5_as ∈ zG := List.mem_filter.mpr ⟨List.mem_append_right _ (List.mem_of_getElem? (i := 350) (by decide +kernel)), rfl⟩
theorem kS_X5_as : Cond.selects RX5 yX5_as yX5_as ∈ zG := List.mem_filter.mpr ⟨List.mem_append_right _ (List.mem_of_getElem? (i := 351) (by decide +kernel)), rfl⟩
theorem kD_X5_as : Cond.code yX5_as cX5_as 4 (some .int) ∈ zG := List.mem_filter.mpr ⟨List.mem_append_right _ (List.mem_of_getElem? (i := 352) (by decide +kernel)), rfl⟩
theorem kM_X5_114 : Cond.methodLink RX5 114 yX5_isOf ∈ zG := List.mem_filter.mpr ⟨List.mem_append_right _ (List.mem_of_getElem? (i := 353) (by decide +kernel)), rfl⟩
theorem kT_X5_isOf : Cond.static yX5_isOf ∈ zG := List.mem_filter.mpr ⟨List.mem_append_right _ (List.mem_of_getElem? (i := 354) (by decide +kernel)), rfl⟩
theorem kD_X5_isOf : Cond.code yX5_isOf cX5_isOf 4 (some .boolean) ∈ zG := List.mem_filter.mpr ⟨List.mem_append_right _ (List.mem_of_getElem? (i := 355) (by decide +kernel)), rfl⟩
theorem kF_X5_232 : Cond.fieldLink RX5 232 RX5 "UNDER" "[I" ∈ zG := List.mem_filter.mpr ⟨List.mem_append_right _ (List.mem_of_getElem? (i := 356) (by decide +kernel)), rfl⟩
theorem kK_X5_117 : Cond.constant RX5 117 (-1000000003 : Int32) ∈ zG := List.mem_filter.mpr ⟨List.mem_append_right _ (List.mem_of_getElem? (i := 358) (by decide +kernel)), rfl⟩
theorem kM_L_32 : Cond.methodLink RL 32 yX5_holds ∈ zG := List.mem_filter.mpr ⟨List.mem_append_right _ (List.mem_of_getElem? (i := 359) (by decide +kernel)), rfl⟩
theorem kI_X5_holds : Cond.instanceMethod yX5_holds ∈ zG := List.mem_filter.mpr ⟨List.mem_append_right _ (List.mem_of_getElem? (i := 360) (by decide +kernel)), rfl⟩
theorem kS_X5_holds : Cond.selects RX5 yX5_holds yX5_holds ∈ zG := List.mem_filter.mpr ⟨List.mem_append_right _ (List.mem_of_getElem? (i := 361) (by decide +kernel)), rfl⟩
theorem kD_X5_holds : Cond.code yX5_holds cX5_holds 3 (some .int) ∈ zG := List.mem_filter.mpr ⟨List.mem_append_right _ (List.mem_of_getElem? (i := 362) (by decide +kernel)), rfl⟩
theorem kM_L_36 : Cond.methodLink RL 36 yX5_rubs ∈ zG := List.mem_filter.mpr ⟨List.mem_append_right _ (List.mem_of_getElem? (i := 363) (by decide +kernel)), rfl⟩
theorem kI_X5_rubs : Cond.instanceMethod yX5_rubs ∈ zG := List.mem_filter.mpr ⟨List.mem_append_right _ (List.mem_of_getElem? (i := 364) (by decide +kernel)), rfl⟩
theorem kS_X5_rubs : Cond.selects RX5 yX5_rubs yX5_rubs ∈ zG := List.mem_filter.mpr ⟨List.mem_append_right _ (List.mem_of_getElem? (i := 365) (by decide +kernel)), rfl⟩
theorem kD_X5_rubs : Cond.code yX5_rubs cX5_rubs 3 (some .int) ∈ zG := List.mem_filter.mpr ⟨List.mem_append_right _ (List.mem_of_getElem? (i := 366) (by decide +kernel)), rfl⟩
theorem kM_X5_118 : Cond.methodLink RX5 118 yX0_rubsBy ∈ zG := List.mem_filter.mpr ⟨List.mem_append_right _ (List.mem_of_getElem? (i := 367) (by decide +kernel)), rfl⟩
theorem kI_X0_rubsBy : Cond.instanceMethod yX0_rubsBy ∈ zG := List.mem_filter.mpr ⟨List.mem_append_right _ (List.mem_of_getElem? (i := 368) (by decide +kernel)), rfl⟩
theorem kS_X0_rubsBy : Cond.selects RX0 yX0_rubsBy yX0_rubsBy ∈ zG := List.mem_filter.mpr ⟨List.mem_append_right _ (List.mem_of_getElem? (i := 369) (by decide +kernel)), rfl⟩
theorem kD_X0_rubsBy : Cond.code yX0_rubsBy cX0_rubsBy 2 (some .int) ∈ zG := List.mem_filter.mpr ⟨List.mem_append_right _ (List.mem_of_getElem? (i := 370) (by decide +kernel)), rfl⟩
theorem kM_L_40 : Cond.methodLink RL 40 yX5_push ∈ zG := List.mem_filter.mpr ⟨List.mem_append_right _ (List.mem_of_getElem? (i := 371) (by decide +kernel)), rfl⟩
theorem kI_X5_push : Cond.instanceMethod yX5_push ∈ zG := List.mem_filter.mpr ⟨List.mem_append_right _ (List.mem_of_getElem? (i := 372) (by decide +kernel)), rfl⟩
theorem kS_X5_push : Cond.selects RX5 yX5_push yX5_push ∈ zG := List.mem_filter.mpr ⟨List.mem_append_right _ (List.mem_of_getElem? (i := 373) (by decide +kernel)), rfl⟩
theorem kD_X5_push : Cond.code yX5_push cX5_push 4 (some .int) ∈ zG := List.mem_filter.mpr ⟨List.mem_append_right _ (List.mem_of_getElem? (i := 374) (by decide +kernel)), rfl⟩
theorem kM_L_44 : Cond.methodLink RL 44 yX5_oil ∈ zG := List.mem_filter.mpr ⟨List.mem_append_right _ (List.mem_of_getElem? (i := 375) (by decide +kernel)), rfl⟩
theorem kI_X5_oil : Cond.instanceMethod yX5_oil ∈ zG := List.mem_filter.mpr ⟨List.mem_append_right _ (List.mem_of_getElem? (i := 376) (by decide +kernel)), rfl⟩
theorem kS_X5_oil : Cond.selects RX5 yX5_oil yX5_oil ∈ zG := List.mem_filter.mpr ⟨List.mem_append_right _ (List.mem_of_getElem? (i := 377) (by decide +kernel)), rfl⟩
theorem kD_X5_oil : Cond.code yX5_oil cX5_oil 4 (some .int) ∈ zG := List.mem_filter.mpr ⟨List.mem_append_right _ (List.mem_of_getElem? (i := 378) (by decide +kernel)), rfl⟩
theorem kM_X5_121 : Cond.methodLink RX5 121 Lib.Math.min.name ∈ zG := List.mem_filter.mpr ⟨List.mem_append_right _ (List.mem_of_getElem? (i := 379) (by decide +kernel)), rfl⟩
theorem kM_L_48 : Cond.methodLink RL 48 yX5_pace ∈ zG := List.mem_filter.mpr ⟨List.mem_append_right _ (List.mem_of_getElem? (i := 380) (by decide +kernel)), rfl⟩
theorem kI_X5_pace : Cond.instanceMethod yX5_pace ∈ zG := List.mem_filter.mpr ⟨List.mem_append_right _ (List.mem_of_getElem? (i := 381) (by decide +kernel)), rfl⟩
theorem kS_X5_pace : Cond.selects RX5 yX5_pace yX5_pace ∈ zG := List.mem_filter.mpr ⟨List.mem_append_right _ (List.mem_of_getElem? (i := 382) (by decide +kernel)), rfl⟩
theorem kD_X5_pace : Cond.code yX5_pace cX5_pace 3 (some .int) ∈ zG := List.mem_filter.mpr ⟨List.mem_append_right _ (List.mem_of_getElem? (i := 383) (by decide +kernel)), rfl⟩
theorem kM_L_53 : Cond.methodLink RL 53 yX5_ticks ∈ zG := List.mem_filter.mpr ⟨List.mem_append_right _ (List.mem_of_getElem? (i := 384) (by decide +kernel)), rfl⟩
theorem kI_X5_ticks : Cond.instanceMethod yX5_ticks ∈ zG := List.mem_filter.mpr ⟨List.mem_append_right _ (List.mem_of_getElem? (i := 385) (by decide +kernel)), rfl⟩
theorem kS_X5_ticks : Cond.selects RX5 yX5_ticks yX5_ticks ∈ zG := List.mem_filter.mpr ⟨List.mem_append_right _ (List.mem_of_getElem? (i := 386) (by decide +kernel)), rfl⟩
theorem kD_X5_ticks : Cond.code yX5_ticks cX5_ticks 3 (some .int) ∈ zG := List.mem_filter.mpr ⟨List.mem_append_right _ (List.mem_of_getElem? (i := 387) (by decide +kernel)), rfl⟩
theorem kM_X5_129 : Cond.methodLink RX5 129 yX2_tick ∈ zG := List.mem_filter.mpr ⟨List.mem_append_right _ (List.mem_of_getElem? (i := 388) (by decide +kernel)), rfl⟩
theorem kI_X2_tick : Cond.instanceMethod yX2_tick ∈ zG := List.mem_filter.mpr ⟨List.mem_append_right _ (List.mem_of_getElem? (i := 389) (by decide +kernel)), rfl⟩
theorem kS_X2_tick : Cond.selects RX2 yX2_tick yX2_tick ∈ zG := List.mem_filter.mpr ⟨List.mem_append_right _ (List.mem_of_getElem? (i := 390) (by decide +kernel)), rfl⟩
theorem kD_X2_tick : Cond.code yX2_tick cX2_tick 3 none ∈ zG := List.mem_filter.mpr ⟨List.mem_append_right _ (List.mem_of_getElem? (i := 391) (by decide +kernel)), rfl⟩
theorem kM_X2_97 : Cond.methodLink RX2 97 yX2_holdsOf ∈ zG := List.mem_filter.mpr ⟨List.mem_append_right _ (List.mem_of_getElem? (i := 392) (by decide +kernel)), rfl⟩
theorem kM_X2_100 : Cond.methodLink RX2 100 yX0_startTick ∈ zG := List.mem_filter.mpr ⟨List.mem_append_right _ (List.mem_of_getElem? (i := 393) (by decide +kernel)), rfl⟩
theorem kI_X0_startTick : Cond.instanceMethod yX0_startTick ∈ zG := List.mem_filter.mpr ⟨List.mem_append_right _ (List.mem_of_getElem? (i := 394) (by decide +kernel)), rfl⟩
theorem kS_X0_startTick : Cond.selects RX0 yX0_startTick yX0_startTick ∈ zG := List.mem_filter.mpr ⟨List.mem_append_right _ (List.mem_of_getElem? (i := 395) (by decide +kernel)), rfl⟩
theorem kD_X0_startTick : Cond.code yX0_startTick cX0_startTick 2 none ∈ zG := List.mem_filter.mpr ⟨List.mem_append_right _ (List.mem_of_getElem? (i := 396) (by decide +kernel)), rfl⟩
theorem kM_X2_104 : Cond.methodLink RX2 104 yX2_round ∈ zG := List.mem_filter.mpr ⟨List.mem_append_right _ (List.mem_of_getElem? (i := 397) (by decide +kernel)), rfl⟩
theorem kI_X2_round : Cond.instanceMethod yX2_round ∈ zG := List.mem_filter.mpr ⟨List.mem_append_right _ (List.mem_of_getElem? (i := 399) (by decide +kernel)), rfl⟩
theorem kD_X2_round : Cond.code yX2_round cX2_round 4 (some .boolean) ∈ zG := List.mem_filter.mpr ⟨List.mem_append_right _ (List.mem_of_getElem? (i := 400) (by decide +kernel)), rfl⟩
theorem kM_X2_111 : Cond.methodLink RX2 111 yX2_pullOf ∈ zG := List.mem_filter.mpr ⟨List.mem_append_right _ (List.mem_of_getElem? (i := 401) (by decide +kernel)), rfl⟩
theorem kM_X2_117 : Cond.methodLink RX2 117 yX0_move ∈ zG := List.mem_filter.mpr ⟨List.mem_append_right _ (List.mem_of_getElem? (i := 402) (by decide +kernel)), rfl⟩
theorem kI_X0_move : Cond.instanceMethod yX0_move ∈ zG := List.mem_filter.mpr ⟨List.mem_append_right _ (List.mem_of_getElem? (i := 403) (by decide +kernel)), rfl⟩
theorem kS_X0_move : Cond.selects RX0 yX0_move yX0_move ∈ zG := List.mem_filter.mpr ⟨List.mem_append_right _ (List.mem_of_getElem? (i := 404) (by decide +kernel)), rfl⟩
theorem kD_X0_move : Cond.code yX0_move cX0_move 7 none ∈ zG := List.mem_filter.mpr ⟨List.mem_append_right _ (List.mem_of_getElem? (i := 405) (by decide +kernel)), rfl⟩
theorem kM_X0_59 : Cond.methodLink RX0 59 Lib.MathLoose.abs_long.x ∈ zG := List.mem_filter.mpr ⟨List.mem_append_right _ (List.mem_of_getElem? (i := 406) (by decide +kernel)), rfl⟩
theorem kT_J_abs_long : Cond.static Lib.MathLoose.abs_long.x ∈ zG := List.mem_filter.mpr ⟨List.mem_append_right _ (List.mem_of_getElem? (i := 407) (by decide +kernel)), rfl⟩
theorem kD_J_abs_long : Cond.code Lib.MathLoose.abs_long.x Lib.MathLoose.abs_long.code 2 (some .long) ∈ zG := List.mem_filter.mpr ⟨List.mem_append_right _ (List.mem_of_getElem? (i := 408) (by decide +kernel)), rfl⟩
theorem kM_X0_63 : Cond.methodLink RX0 63 yX0_rubsBy ∈ zG := List.mem_filter.mpr ⟨List.mem_append_right _ (List.mem_of_getElem? (i := 409) (by decide +kernel)), rfl⟩
theorem kK_X0_66 : Cond.constantLong RX0 66 (999 : Int64) ∈ zG := List.mem_filter.mpr ⟨List.mem_append_right _ (List.mem_of_getElem? (i := 410) (by decide +kernel)), rfl⟩
theorem kM_X0_68 : Cond.methodLink RX0 68 Lib.MathLoose.min_long.x ∈ zG := List.mem_filter.mpr ⟨List.mem_append_right _ (List.mem_of_getElem? (i := 411) (by decide +kernel)), rfl⟩
theorem kT_J_min_long : Cond.static Lib.MathLoose.min_long.x ∈ zG := List.mem_filter.mpr ⟨List.mem_append_right _ (List.mem_of_getElem? (i := 412) (by decide +kernel)), rfl⟩
theorem kD_J_min_long : Cond.code Lib.MathLoose.min_long.x Lib.MathLoose.min_long.code 4 (some .long) ∈ zG := List.mem_filter.mpr ⟨List.mem_append_right _ (List.mem_of_getElem? (i := 413) (by decide +kernel)), rfl⟩
theorem kM_X0_71 : Cond.methodLink RX0 71 Lib.MathLoose.max_long.x ∈ zG := List.mem_filter.mpr ⟨List.mem_append_right _ (List.mem_of_getElem? (i := 414) (by decide +kernel)), rfl⟩
theorem kT_J_max_long : Cond.static Lib.MathLoose.max_long.x ∈ zG := List.mem_filter.mpr ⟨List.mem_append_right _ (List.mem_of_getElem? (i := 415) (by decide +kernel)), rfl⟩
theorem kD_J_max_long : Cond.code Lib.MathLoose.max_long.x Lib.MathLoose.max_long.code 4 (some .long) ∈ zG := List.mem_filter.mpr ⟨List.mem_append_right _ (List.mem_of_getElem? (i := 416) (by decide +kernel)), rfl⟩
theorem kM_X2_108 : Cond.methodLink RX2 108 yX0_endTick ∈ zG := List.mem_filter.mpr ⟨List.mem_append_right _ (List.mem_of_getElem? (i := 417) (by decide +kernel)), rfl⟩
theorem kI_X0_endTick : Cond.instanceMethod yX0_endTick ∈ zG := List.mem_filter.mpr ⟨List.mem_append_right _ (List.mem_of_getElem? (i := 418) (by decide +kernel)), rfl⟩
theorem kS_X0_endTick : Cond.selects RX0 yX0_endTick yX0_endTick ∈ zG := List.mem_filter.mpr ⟨List.mem_append_right _ (List.mem_of_getElem? (i := 419) (by decide +kernel)), rfl⟩
theorem kD_X0_endTick : Cond.code yX0_endTick cX0_endTick 1 none ∈ zG := List.mem_filter.mpr ⟨List.mem_append_right _ (List.mem_of_getElem? (i := 420) (by decide +kernel)), rfl⟩
theorem kM_X5_132 : Cond.methodLink RX5 132 yX1_enter ∈ zG := List.mem_filter.mpr ⟨List.mem_append_right _ (List.mem_of_getElem? (i := 421) (by decide +kernel)), rfl⟩
theorem kI_X1_enter : Cond.instanceMethod yX1_enter ∈ zG := List.mem_filter.mpr ⟨List.mem_append_right _ (List.mem_of_getElem? (i := 422) (by decide +kernel)), rfl⟩
theorem kS_X1_enter : Cond.selects RX1 yX1_enter yX1_enter ∈ zG := List.mem_filter.mpr ⟨List.mem_append_right _ (List.mem_of_getElem? (i := 423) (by decide +kernel)), rfl⟩
theorem kD_X1_enter : Cond.code yX1_enter cX1_enter 2 none ∈ zG := List.mem_filter.mpr ⟨List.mem_append_right _ (List.mem_of_getElem? (i := 424) (by decide +kernel)), rfl⟩
theorem kM_X1_60 : Cond.methodLink RX1 60 Lib.Math.min.name ∈ zG := List.mem_filter.mpr ⟨List.mem_append_right _ (List.mem_of_getElem? (i := 425) (by decide +kernel)), rfl⟩
theorem kM_X1_63 : Cond.methodLink RX1 63 yX1_classOf ∈ zG := List.mem_filter.mpr ⟨List.mem_append_right _ (List.mem_of_getElem? (i := 426) (by decide +kernel)), rfl⟩
theorem kT_X1_classOf : Cond.static yX1_classOf ∈ zG := List.mem_filter.mpr ⟨List.mem_append_right _ (List.mem_of_getElem? (i := 427) (by decide +kernel)), rfl⟩
theorem kD_X1_classOf : Cond.code yX1_classOf cX1_classOf 2 (some .int) ∈ zG := List.mem_filter.mpr ⟨List.mem_append_right _ (List.mem_of_getElem? (i := 428) (by decide +kernel)), rfl⟩
theorem kM_L_57 : Cond.methodLink RL 57 yX5_until ∈ zG := List.mem_filter.mpr ⟨List.mem_append_right _ (List.mem_of_getElem? (i := 429) (by decide +kernel)), rfl⟩
theorem kI_X5_until : Cond.instanceMethod yX5_until ∈ zG := List.mem_filter.mpr ⟨List.mem_append_right _ (List.mem_of_getElem? (i := 430) (by decide +kernel)), rfl⟩
theorem kS_X5_until : Cond.selects RX5 yX5_until yX5_until ∈ zG := List.mem_filter.mpr ⟨List.mem_append_right _ (List.mem_of_getElem? (i := 431) (by decide +kernel)), rfl⟩
theorem kD_X5_until : Cond.code yX5_until cX5_until 4 (some .int) ∈ zG := List.mem_filter.mpr ⟨List.mem_append_right _ (List.mem_of_getElem? (i := 432) (by decide +kernel)), rfl⟩
theorem kM_L_61 : Cond.methodLink RL 61 yX5_book ∈ zG := List.mem_filter.mpr ⟨List.mem_append_right _ (List.mem_of_getElem? (i := 433) (by decide +kernel)), rfl⟩
theorem kI_X5_book : Cond.instanceMethod yX5_book ∈ zG := List.mem_filter.mpr ⟨List.mem_append_right _ (List.mem_of_getElem? (i := 434) (by decide +kernel)), rfl⟩
theorem kS_X5_book : Cond.selects RX5 yX5_book yX5_book ∈ zG := List.mem_filter.mpr ⟨List.mem_append_right _ (List.mem_of_getElem? (i := 435) (by decide +kernel)), rfl⟩
theorem kD_X5_book : Cond.code yX5_book cX5_book 3 (some .int) ∈ zG := List.mem_filter.mpr ⟨List.mem_append_right _ (List.mem_of_getElem? (i := 436) (by decide +kernel)), rfl⟩
theorem kM_X5_143 : Cond.methodLink RX5 143 yX1_slot ∈ zG := List.mem_filter.mpr ⟨List.mem_append_right _ (List.mem_of_getElem? (i := 437) (by decide +kernel)), rfl⟩
theorem kI_X1_slot : Cond.instanceMethod yX1_slot ∈ zG := List.mem_filter.mpr ⟨List.mem_append_right _ (List.mem_of_getElem? (i := 438) (by decide +kernel)), rfl⟩
theorem kS_X1_slot : Cond.selects RX1 yX1_slot yX1_slot ∈ zG := List.mem_filter.mpr ⟨List.mem_append_right _ (List.mem_of_getElem? (i := 439) (by decide +kernel)), rfl⟩
theorem kD_X1_slot : Cond.code yX1_slot cX1_slot 2 (some .int) ∈ zG := List.mem_filter.mpr ⟨List.mem_append_right _ (List.mem_of_getElem? (i := 440) (by decide +kernel)), rfl⟩
theorem kM_X1_43 : Cond.methodLink RX1 43 yJ9_floorMod_7cf53 ∈ zG := List.mem_filter.mpr ⟨List.mem_append_right _ (List.mem_of_getElem? (i := 441) (by decide +kernel)), rfl⟩
theorem kT_J_floorMod : Cond.static yJ9_floorMod_7cf53 ∈ zG := List.mem_filter.mpr ⟨List.mem_append_right _ (List.mem_of_getElem? (i := 442) (by decide +kernel)), rfl⟩
theorem kD_J_floorMod : Cond.code yJ9_floorMod_7cf53 cJ9_floorMod_7cf53 3 (some .int) ∈ zG := List.mem_filter.mpr ⟨List.mem_append_right _ (List.mem_of_getElem? (i := 443) (by decide +kernel)), rfl⟩
theorem kM_L_65 : Cond.methodLink RL 65 yX5_counts ∈ zG := List.mem_filter.mpr ⟨List.mem_append_right _ (List.mem_of_getElem? (i := 444) (by decide +kernel)), rfl⟩
theorem kI_X5_counts : Cond.instanceMethod yX5_counts ∈ zG := List.mem_filter.mpr ⟨List.mem_append_right _ (List.mem_of_getElem? (i := 445) (by decide +kernel)), rfl⟩
theorem kS_X5_counts : Cond.selects RX5 yX5_counts yX5_counts ∈ zG := List.mem_filter.mpr ⟨List.mem_append_right _ (List.mem_of_getElem? (i := 446) (by decide +kernel)), rfl⟩
theorem kD_X5_counts : Cond.code yX5_counts cX5_counts 2 (some .int) ∈ zG := List.mem_filter.mpr ⟨List.mem_append_right _ (List.mem_of_getElem? (i := 447) (by decide +kernel)), rfl⟩
theorem kM_L_69 : Cond.methodLink RL 69 yX5_power ∈ zG := List.mem_filter.mpr ⟨List.mem_append_right _ (List.mem_of_getElem? (i := 448) (by decide +kernel)), rfl⟩
theorem kI_X5_power : Cond.instanceMethod yX5_power ∈ zG := List.mem_filter.mpr ⟨List.mem_append_right _ (List.mem_of_getElem? (i := 449) (by decide +kernel)), rfl⟩
theorem kS_X5_power : Cond.selects RX5 yX5_power yX5_power ∈ zG := List.mem_filter.mpr ⟨List.mem_append_right _ (List.mem_of_getElem? (i := 450) (by decide +kernel)), rfl⟩
theorem kD_X5_power : Cond.code yX5_power cX5_power 2 (some .int) ∈ zG := List.mem_filter.mpr ⟨List.mem_append_right _ (List.mem_of_getElem? (i := 451) (by decide +kernel)), rfl⟩
theorem kM_L_74 : Cond.methodLink RL 74 yX5_tone ∈ zG := List.mem_filter.mpr ⟨List.mem_append_right _ (List.mem_of_getElem? (i := 452) (by decide +kernel)), rfl⟩
theorem kI_X5_tone : Cond.instanceMethod yX5_tone ∈ zG := List.mem_filter.mpr ⟨List.mem_append_right _ (List.mem_of_getElem? (i := 453) (by decide +kernel)), rfl⟩
theorem kS_X5_tone : Cond.selects RX5 yX5_tone yX5_tone ∈ zG := List.mem_filter.mpr ⟨List.mem_append_right _ (List.mem_of_getElem? (i := 454) (by decide +kernel)), rfl⟩
theorem kD_X5_tone : Cond.code yX5_tone cX5_tone 3 (some .int) ∈ zG := List.mem_filter.mpr ⟨List.mem_append_right _ (List.mem_of_getElem? (i := 455) (by decide +kernel)), rfl⟩
theorem kK_X5_155 : Cond.constant RX5 155 (-1000000004 : Int32) ∈ zG := List.mem_filter.mpr ⟨List.mem_append_right _ (List.mem_of_getElem? (i := 456) (by decide +kernel)), rfl⟩
theorem kM_L_78 : Cond.methodLink RL 78 yX5_great ∈ zG := List.mem_filter.mpr ⟨List.mem_append_right _ (List.mem_of_getElem? (i := 457) (by decide +kernel)), rfl⟩
theorem kI_X5_great : Cond.instanceMethod yX5_great ∈ zG := List.mem_filter.mpr ⟨List.mem_append_right _ (List.mem_of_getElem? (i := 458) (by decide +kernel)), rfl⟩
theorem kS_X5_great : Cond.selects RX5 yX5_great yX5_great ∈ zG := List.mem_filter.mpr ⟨List.mem_append_right _ (List.mem_of_getElem? (i := 459) (by decide +kernel)), rfl⟩
theorem kD_X5_great : Cond.code yX5_great cX5_great 6 (some .int) ∈ zG := List.mem_filter.mpr ⟨List.mem_append_right _ (List.mem_of_getElem? (i := 460) (by decide +kernel)), rfl⟩
theorem kM_L_82 : Cond.methodLink RL 82 yX5_noise ∈ zG := List.mem_filter.mpr ⟨List.mem_append_right _ (List.mem_of_getElem? (i := 461) (by decide +kernel)), rfl⟩
theorem kI_X5_noise : Cond.instanceMethod yX5_noise ∈ zG := List.mem_filter.mpr ⟨List.mem_append_right _ (List.mem_of_getElem? (i := 462) (by decide +kernel)), rfl⟩
theorem kS_X5_noise : Cond.selects RX5 yX5_noise yX5_noise ∈ zG := List.mem_filter.mpr ⟨List.mem_append_right _ (List.mem_of_getElem? (i := 463) (by decide +kernel)), rfl⟩
theorem kD_X5_noise : Cond.code yX5_noise cX5_noise 6 (some .long) ∈ zG := List.mem_filter.mpr ⟨List.mem_append_right _ (List.mem_of_getElem? (i := 464) (by decide +kernel)), rfl⟩
theorem kM_L_87 : Cond.methodLink RL 87 yX5_ahead ∈ zG := List.mem_filter.mpr ⟨List.mem_append_right _ (List.mem_of_getElem? (i := 465) (by decide +kernel)), rfl⟩
theorem kI_X5_ahead : Cond.instanceMethod yX5_ahead ∈ zG := List.mem_filter.mpr ⟨List.mem_append_right _ (List.mem_of_getElem? (i := 466) (by decide +kernel)), rfl⟩
theorem kS_X5_ahead : Cond.selects RX5 yX5_ahead yX5_ahead ∈ zG := List.mem_filter.mpr ⟨List.mem_append_right _ (List.mem_of_getElem? (i := 467) (by decide +kernel)), rfl⟩
theorem kD_X5_ahead : Cond.code yX5_ahead cX5_ahead 7 (some .int) ∈ zG := List.mem_filter.mpr ⟨List.mem_append_right _ (List.mem_of_getElem? (i := 468) (by decide +kernel)), rfl⟩
theorem kM_X5_156 : Cond.methodLink RX5 156 yX2_copyFrom ∈ zG := List.mem_filter.mpr ⟨List.mem_append_right _ (List.mem_of_getElem? (i := 469) (by decide +kernel)), rfl⟩
theorem kI_X2_copyFrom : Cond.instanceMethod yX2_copyFrom ∈ zG := List.mem_filter.mpr ⟨List.mem_append_right _ (List.mem_of_getElem? (i := 470) (by decide +kernel)), rfl⟩
theorem kS_X2_copyFrom : Cond.selects RX2 yX2_copyFrom yX2_copyFrom ∈ zG := List.mem_filter.mpr ⟨List.mem_append_right _ (List.mem_of_getElem? (i := 471) (by decide +kernel)), rfl⟩
theorem kD_X2_copyFrom : Cond.code yX2_copyFrom cX2_copyFrom 3 none ∈ zG := List.mem_filter.mpr ⟨List.mem_append_right _ (List.mem_of_getElem? (i := 472) (by decide +kernel)), rfl⟩
theorem kM_X2_48 : Cond.methodLink RX2 48 yX4_copyFrom ∈ zG := List.mem_filter.mpr ⟨List.mem_append_right _ (List.mem_of_getElem? (i := 473) (by decide +kernel)), rfl⟩
theorem kI_X4_copyFrom : Cond.instanceMethod yX4_copyFrom ∈ zG := List.mem_filter.mpr ⟨List.mem_append_right _ (List.mem_of_getElem? (i := 474) (by decide +kernel)), rfl⟩
theorem kS_X4_copyFrom : Cond.selects RX4 yX4_copyFrom yX4_copyFrom ∈ zG := List.mem_filter.mpr ⟨List.mem_append_right _ (List.mem_of_getElem? (i := 475) (by decide +kernel)), rfl⟩
theorem kD_X4_copyFrom : Cond.code yX4_copyFrom cX4_copyFrom 2 none ∈ zG := List.mem_filter.mpr ⟨List.mem_append_right _ (List.mem_of_getElem? (i := 476) (by decide +kernel)), rfl⟩
theorem kM_X4_19 : Cond.methodLink RX4 19 arraycopyName ∈ zG := List.mem_filter.mpr ⟨List.mem_append_right _ (List.mem_of_getElem? (i := 477) (by decide +kernel)), rfl⟩
theorem kT_J_arraycopy : Cond.static arraycopyName ∈ zG := List.mem_filter.mpr ⟨List.mem_append_right _ (List.mem_of_getElem? (i := 478) (by decide +kernel)), rfl⟩
theorem kB_J_arraycopy : Cond.native arraycopyName ∈ zG := List.mem_filter.mpr ⟨List.mem_append_right _ (List.mem_of_getElem? (i := 479) (by decide +kernel)), rfl⟩
theorem kM_X2_52 : Cond.methodLink RX2 52 yX0_copyFrom ∈ zG := List.mem_filter.mpr ⟨List.mem_append_right _ (List.mem_of_getElem? (i := 480) (by decide +kernel)), rfl⟩
theorem kI_X0_copyFrom : Cond.instanceMethod yX0_copyFrom ∈ zG := List.mem_filter.mpr ⟨List.mem_append_right _ (List.mem_of_getElem? (i := 481) (by decide +kernel)), rfl⟩
theorem kS_X0_copyFrom : Cond.selects RX0 yX0_copyFrom yX0_copyFrom ∈ zG := List.mem_filter.mpr ⟨List.mem_append_right _ (List.mem_of_getElem? (i := 482) (by decide +kernel)), rfl⟩
theorem kD_X0_copyFrom : Cond.code yX0_copyFrom cX0_copyFrom 2 none ∈ zG := List.mem_filter.mpr ⟨List.mem_append_right _ (List.mem_of_getElem? (i := 483) (by decide +kernel)), rfl⟩
theorem kM_X5_159 : Cond.methodLink RX5 159 Lib.Math.max.name ∈ zG := List.mem_filter.mpr ⟨List.mem_append_right _ (List.mem_of_getElem? (i := 484) (by decide +kernel)), rfl⟩
theorem kM_L_91 : Cond.methodLink RL 91 yX5_from ∈ zG := List.mem_filter.mpr ⟨List.mem_append_right _ (List.mem_of_getElem? (i := 485) (by decide +kernel)), rfl⟩
theorem kI_X5_from : Cond.instanceMethod yX5_from ∈ zG := List.mem_filter.mpr ⟨List.mem_append_right _ (List.mem_of_getElem? (i := 486) (by decide +kernel)), rfl⟩
theorem kS_X5_from : Cond.selects RX5 yX5_from yX5_from ∈ zG := List.mem_filter.mpr ⟨List.mem_append_right _ (List.mem_of_getElem? (i := 487) (by decide +kernel)), rfl⟩
theorem kD_X5_from : Cond.code yX5_from cX5_from 5 (some .int) ∈ zG := List.mem_filter.mpr ⟨List.mem_append_right _ (List.mem_of_getElem? (i := 488) (by decide +kernel)), rfl⟩
theorem kM_L_95 : Cond.methodLink RL 95 yX5_still ∈ zG := List.mem_filter.mpr ⟨List.mem_append_right _ (List.mem_of_getElem? (i := 489) (by decide +kernel)), rfl⟩
theorem kI_X5_still : Cond.instanceMethod yX5_still ∈ zG := List.mem_filter.mpr ⟨List.mem_append_right _ (List.mem_of_getElem? (i := 490) (by decide +kernel)), rfl⟩
theorem kS_X5_still : Cond.selects RX5 yX5_still yX5_still ∈ zG := List.mem_filter.mpr ⟨List.mem_append_right _ (List.mem_of_getElem? (i := 491) (by decide +kernel)), rfl⟩
theorem kD_X5_still : Cond.code yX5_still cX5_still 7 (some .int) ∈ zG := List.mem_filter.mpr ⟨List.mem_append_right _ (List.mem_of_getElem? (i := 492) (by decide +kernel)), rfl⟩
theorem kM_L_99 : Cond.methodLink RL 99 yX5_which ∈ zG := List.mem_filter.mpr ⟨List.mem_append_right _ (List.mem_of_getElem? (i := 493) (by decide +kernel)), rfl⟩
theorem kI_X5_which : Cond.instanceMethod yX5_which ∈ zG := List.mem_filter.mpr ⟨List.mem_append_right _ (List.mem_of_getElem? (i := 494) (by decide +kernel)), rfl⟩
theorem kS_X5_which : Cond.selects RX5 yX5_which yX5_which ∈ zG := List.mem_filter.mpr ⟨List.mem_append_right _ (List.mem_of_getElem? (i := 495) (by decide +kernel)), rfl⟩
theorem kD_X5_which : Cond.code yX5_which cX5_which 8 (some .int) ∈ zG := List.mem_filter.mpr ⟨List.mem_append_right _ (List.mem_of_getElem? (i := 496) (by decide +kernel)), rfl⟩
theorem kM_X5_165 : Cond.methodLink RX5 165 yX3_isMissing ∈ zG := List.mem_filter.mpr ⟨List.mem_append_right _ (List.mem_of_getElem? (i := 497) (by decide +kernel)), rfl⟩
theorem kI_X3_isMissing : Cond.instanceMethod yX3_isMissing ∈ zG := List.mem_filter.mpr ⟨List.mem_append_right _ (List.mem_of_getElem? (i := 498) (by decide +kernel)), rfl⟩
theorem kS_X3_isMissing : Cond.selects RX3 yX3_isMissing yX3_isMissing ∈ zG := List.mem_filter.mpr ⟨List.mem_append_right _ (List.mem_of_getElem? (i := 499) (by decide +kernel)), rfl⟩
theorem kD_X3_isMissing : Cond.code yX3_isMissing cX3_isMissing 1 (some .boolean) ∈ zG := List.mem_filter.mpr ⟨List.mem_append_right _ (List.mem_of_getElem? (i := 500) (by decide +kernel)), rfl⟩
theorem kK_X5_169 : Cond.constant RX5 169 (-1000000006 : Int32) ∈ zG := List.mem_filter.mpr ⟨List.mem_append_right _ (List.mem_of_getElem? (i := 501) (by decide +kernel)), rfl⟩
theorem kK_X5_171 : Cond.constant RX5 171 (-1000000007 : Int32) ∈ zG := List.mem_filter.mpr ⟨List.mem_append_right _ (List.mem_of_getElem? (i := 502) (by decide +kernel)), rfl⟩
theorem kM_L_103 : Cond.methodLink RL 103 yX5_together ∈ zG := List.mem_filter.mpr ⟨List.mem_append_right _ (List.mem_of_getElem? (i := 503) (by decide +kernel)), rfl⟩
theorem kI_X5_together : Cond.instanceMethod yX5_together ∈ zG := List.mem_filter.mpr ⟨List.mem_append_right _ (List.mem_of_getElem? (i := 504) (by decide +kernel)), rfl⟩
theorem kS_X5_together : Cond.selects RX5 yX5_together yX5_together ∈ zG := List.mem_filter.mpr ⟨List.mem_append_right _ (List.mem_of_getElem? (i := 505) (by decide +kernel)), rfl⟩
theorem kD_X5_together : Cond.code yX5_together cX5_together 6 (some .int) ∈ zG := List.mem_filter.mpr ⟨List.mem_append_right _ (List.mem_of_getElem? (i := 506) (by decide +kernel)), rfl⟩
theorem kM_L_107 : Cond.methodLink RL 107 yX5_feed ∈ zG := List.mem_filter.mpr ⟨List.mem_append_right _ (List.mem_of_getElem? (i := 507) (by decide +kernel)), rfl⟩
theorem kI_X5_feed : Cond.instanceMethod yX5_feed ∈ zG := List.mem_filter.mpr ⟨List.mem_append_right _ (List.mem_of_getElem? (i := 508) (by decide +kernel)), rfl⟩
theorem kS_X5_feed : Cond.selects RX5 yX5_feed yX5_feed ∈ zG := List.mem_filter.mpr ⟨List.mem_append_right _ (List.mem_of_getElem? (i := 509) (by decide +kernel)), rfl⟩
theorem kD_X5_feed : Cond.code yX5_feed cX5_feed 4 (some .int) ∈ zG := List.mem_filter.mpr ⟨List.mem_append_right _ (List.mem_of_getElem? (i := 510) (by decide +kernel)), rfl⟩
theorem kM_L_111 : Cond.methodLink RL 111 yX5_wipe ∈ zG := List.mem_filter.mpr ⟨List.mem_append_right _ (List.mem_of_getElem? (i := 511) (by decide +kernel)), rfl⟩
theorem kI_X5_wipe : Cond.instanceMethod yX5_wipe ∈ zG := List.mem_filter.mpr ⟨List.mem_append_right _ (List.mem_of_getElem? (i := 512) (by decide +kernel)), rfl⟩
theorem kS_X5_wipe : Cond.selects RX5 yX5_wipe yX5_wipe ∈ zG := List.mem_filter.mpr ⟨List.mem_append_right _ (List.mem_of_getElem? (i := 513) (by decide +kernel)), rfl⟩
theorem kD_X5_wipe : Cond.code yX5_wipe cX5_wipe 2 (some .int) ∈ zG := List.mem_filter.mpr ⟨List.mem_append_right _ (List.mem_of_getElem? (i := 514) (by decide +kernel)), rfl⟩
theorem kM_L_115 : Cond.methodLink RL 115 yX5_law ∈ zG := List.mem_filter.mpr ⟨List.mem_append_right _ (List.mem_of_getElem? (i := 515) (by decide +kernel)), rfl⟩
theorem kI_X5_law : Cond.instanceMethod yX5_law ∈ zG := List.mem_filter.mpr ⟨List.mem_append_right _ (List.mem_of_getElem? (i := 516) (by decide +kernel)), rfl⟩
theorem kS_X5_law : Cond.selects RX5 yX5_law yX5_law ∈ zG := List.mem_filter.mpr ⟨List.mem_append_right _ (List.mem_of_getElem? (i := 517) (by decide +kernel)), rfl⟩
theorem kD_X5_law : Cond.code yX5_law cX5_law 2 (some .int) ∈ zG := List.mem_filter.mpr ⟨List.mem_append_right _ (List.mem_of_getElem? (i := 518) (by decide +kernel)), rfl⟩
theorem kM_X5_183 : Cond.methodLink RX5 183 yX4_findFault ∈ zG := List.mem_filter.mpr ⟨List.mem_append_right _ (List.mem_of_getElem? (i := 519) (by decide +kernel)), rfl⟩
theorem kI_X4_findFault : Cond.instanceMethod yX4_findFault ∈ zG := List.mem_filter.mpr ⟨List.mem_append_right _ (List.mem_of_getElem? (i := 520) (by decide +kernel)), rfl⟩
theorem kS_X4_findFault : Cond.selects RX4 yX4_findFault yX4_findFault ∈ zG := List.mem_filter.mpr ⟨List.mem_append_right _ (List.mem_of_getElem? (i := 521) (by decide +kernel)), rfl⟩
theorem kD_X4_findFault : Cond.code yX4_findFault cX4_findFault 1 (some .int) ∈ zG := List.mem_filter.mpr ⟨List.mem_append_right _ (List.mem_of_getElem? (i := 522) (by decide +kernel)), rfl⟩
theorem kM_X5_190 : Cond.methodLink RX5 190 yX4_copyFrom ∈ zG := List.mem_filter.mpr ⟨List.mem_append_right _ (List.mem_of_getElem? (i := 523) (by decide +kernel)), rfl⟩
theorem kM_L_119 : Cond.methodLink RL 119 yX5_plain ∈ zG := List.mem_filter.mpr ⟨List.mem_append_right _ (List.mem_of_getElem? (i := 524) (by decide +kernel)), rfl⟩
theorem kI_X5_plain : Cond.instanceMethod yX5_plain ∈ zG := List.mem_filter.mpr ⟨List.mem_append_right _ (List.mem_of_getElem? (i := 525) (by decide +kernel)), rfl⟩
theorem kS_X5_plain : Cond.selects RX5 yX5_plain yX5_plain ∈ zG := List.mem_filter.mpr ⟨List.mem_append_right _ (List.mem_of_getElem? (i := 526) (by decide +kernel)), rfl⟩
theorem kD_X5_plain : Cond.code yX5_plain cX5_plain 2 (some .int) ∈ zG := List.mem_filter.mpr ⟨List.mem_append_right _ (List.mem_of_getElem? (i := 527) (by decide +kernel)), rfl⟩
theorem kM_L_123 : Cond.methodLink RL 123 yX5_says ∈ zG := List.mem_filter.mpr ⟨List.mem_append_right _ (List.mem_of_getElem? (i := 528) (by decide +kernel)), rfl⟩
theorem kI_X5_says : Cond.instanceMethod yX5_says ∈ zG := List.mem_filter.mpr ⟨List.mem_append_right _ (List.mem_of_getElem? (i := 529) (by decide +kernel)), rfl⟩
theorem kS_X5_says : Cond.selects RX5 yX5_says yX5_says ∈ zG := List.mem_filter.mpr ⟨List.mem_append_right _ (List.mem_of_getElem? (i := 530) (by decide +kernel)), rfl⟩
theorem kD_X5_says : Cond.code yX5_says cX5_says 3 (some .int) ∈ zG := List.mem_filter.mpr ⟨List.mem_append_right _ (List.mem_of_getElem? (i := 531) (by decide +kernel)), rfl⟩
theorem kM_X5_193 : Cond.methodLink RX5 193 yX4_valueFor ∈ zG := List.mem_filter.mpr ⟨List.mem_append_right _ (List.mem_of_getElem? (i := 532) (by decide +kernel)), rfl⟩
theorem kM_L_127 : Cond.methodLink RL 127 yX5_sheet ∈ zG := List.mem_filter.mpr ⟨List.mem_append_right _ (List.mem_of_getElem? (i := 533) (by decide +kernel)), rfl⟩
theorem kI_X5_sheet : Cond.instanceMethod yX5_sheet ∈ zG := List.mem_filter.mpr ⟨List.mem_append_right _ (List.mem_of_getElem? (i := 534) (by decide +kernel)), rfl⟩
theorem kS_X5_sheet : Cond.selects RX5 yX5_sheet yX5_sheet ∈ zG := List.mem_filter.mpr ⟨List.mem_append_right _ (List.mem_of_getElem? (i := 535) (by decide +kernel)), rfl⟩
theorem kD_X5_sheet : Cond.code yX5_sheet cX5_sheet 4 (some .int) ∈ zG := List.mem_filter.mpr ⟨List.mem_append_right _ (List.mem_of_getElem? (i := 536) (by decide +kernel)), rfl⟩
theorem kM_X5_197 : Cond.methodLink RX5 197 yX3_begin ∈ zG := List.mem_filter.mpr ⟨List.mem_append_right _ (List.mem_of_getElem? (i := 537) (by decide +kernel)), rfl⟩
theorem kI_X3_begin : Cond.instanceMethod yX3_begin ∈ zG := List.mem_filter.mpr ⟨List.mem_append_right _ (List.mem_of_getElem? (i := 538) (by decide +kernel)), rfl⟩
theorem kS_X3_begin : Cond.selects RX3 yX3_begin yX3_begin ∈ zG := List.mem_filter.mpr ⟨List.mem_append_right _ (List.mem_of_getElem? (i := 539) (by decide +kernel)), rfl⟩
theorem kD_X3_begin : Cond.code yX3_begin cX3_begin 4 none ∈ zG := List.mem_filter.mpr ⟨List.mem_append_right _ (List.mem_of_getElem? (i := 540) (by decide +kernel)), rfl⟩
theorem kM_L_133 : Cond.methodLink RL 133 yX5_write ∈ zG := List.mem_filter.mpr ⟨List.mem_append_right _ (List.mem_of_getElem? (i := 541) (by decide +kernel)), rfl⟩
theorem kI_X5_write : Cond.instanceMethod yX5_write ∈ zG := List.mem_filter.mpr ⟨List.mem_append_right _ (List.mem_of_getElem? (i := 542) (by decide +kernel)), rfl⟩
theorem kS_X5_write : Cond.selects RX5 yX5_write yX5_write ∈ zG := List.mem_filter.mpr ⟨List.mem_append_right _ (List.mem_of_getElem? (i := 543) (by decide +kernel)), rfl⟩
theorem kD_X5_write : Cond.code yX5_write cX5_write 8 (some .long) ∈ zG := List.mem_filter.mpr ⟨List.mem_append_right _ (List.mem_of_getElem? (i := 544) (by decide +kernel)), rfl⟩
theorem kM_X5_200 : Cond.methodLink RX5 200 yX3_lowestBits ∈ zG := List.mem_filter.mpr ⟨List.mem_append_right _ (List.mem_of_getElem? (i := 545) (by decide +kernel)), rfl⟩
theorem kI_X3_lowestBits : Cond.instanceMethod yX3_lowestBits ∈ zG := List.mem_filter.mpr ⟨List.mem_append_right _ (List.mem_of_getElem? (i := 546) (by decide +kernel)), rfl⟩
theorem kS_X3_lowestBits : Cond.selects RX3 yX3_lowestBits yX3_lowestBits ∈ zG := List.mem_filter.mpr ⟨List.mem_append_right _ (List.mem_of_getElem? (i := 547) (by decide +kernel)), rfl⟩
theorem kD_X3_lowestBits : Cond.code yX3_lowestBits cX3_lowestBits 3 (some .long) ∈ zG := List.mem_filter.mpr ⟨List.mem_append_right _ (List.mem_of_getElem? (i := 548) (by decide +kernel)), rfl⟩
theorem kM_L_138 : Cond.methodLink RL 138 yX5_copy ∈ zG := List.mem_filter.mpr ⟨List.mem_append_right _ (List.mem_of_getElem? (i := 549) (by decide +kernel)), rfl⟩
theorem kI_X5_copy : Cond.instanceMethod yX5_copy ∈ zG := List.mem_filter.mpr ⟨List.mem_append_right _ (List.mem_of_getElem? (i := 550) (by decide +kernel)), rfl⟩
theorem kS_X5_copy : Cond.selects RX5 yX5_copy yX5_copy ∈ zG := List.mem_filter.mpr ⟨List.mem_append_right _ (List.mem_of_getElem? (i := 551) (by decide +kernel)), rfl⟩
theorem kD_X5_copy : Cond.code yX5_copy cX5_copy 8 (some .int) ∈ zG := List.mem_filter.mpr ⟨List.mem_append_right _ (List.mem_of_getElem? (i := 552) (by decide +kernel)), rfl⟩
theorem kM_X5_207 : Cond.methodLink RX5 207 yX3_hasPart ∈ zG := List.mem_filter.mpr ⟨List.mem_append_right _ (List.mem_of_getElem? (i := 553) (by decide +kernel)), rfl⟩
theorem kI_X3_hasPart : Cond.instanceMethod yX3_hasPart ∈ zG := List.mem_filter.mpr ⟨List.mem_append_right _ (List.mem_of_getElem? (i := 554) (by decide +kernel)), rfl⟩
theorem kS_X3_hasPart : Cond.selects RX3 yX3_hasPart yX3_hasPart ∈ zG := List.mem_filter.mpr ⟨List.mem_append_right _ (List.mem_of_getElem? (i := 555) (by decide +kernel)), rfl⟩
theorem kD_X3_hasPart : Cond.code yX3_hasPart cX3_hasPart 3 (some .boolean) ∈ zG := List.mem_filter.mpr ⟨List.mem_append_right _ (List.mem_of_getElem? (i := 556) (by decide +kernel)), rfl⟩
theorem kM_X5_210 : Cond.methodLink RX5 210 arraycopyName ∈ zG := List.mem_filter.mpr ⟨List.mem_append_right _ (List.mem_of_getElem? (i := 557) (by decide +kernel)), rfl⟩
theorem kM_L_143 : Cond.methodLink RL 143 yX5_draws ∈ zG := List.mem_filter.mpr ⟨List.mem_append_right _ (List.mem_of_getElem? (i := 558) (by decide +kernel)), rfl⟩
theorem kI_X5_draws : Cond.instanceMethod yX5_draws ∈ zG := List.mem_filter.mpr ⟨List.mem_append_right _ (List.mem_of_getElem? (i := 559) (by decide +kernel)), rfl⟩
theorem kS_X5_draws : Cond.selects RX5 yX5_draws yX5_draws ∈ zG := List.mem_filter.mpr ⟨List.mem_append_right _ (List.mem_of_getElem? (i := 560) (by decide +kernel)), rfl⟩
theorem kD_X5_draws : Cond.code yX5_draws cX5_draws 8 (some .int) ∈ zG := List.mem_filter.mpr ⟨List.mem_append_right _ (List.mem_of_getElem? (i := 561) (by decide +kernel)), rfl⟩
theorem kK_X5_216 : Cond.constantLong RX5 216 (-99 : Int64) ∈ zG := List.mem_filter.mpr ⟨List.mem_append_right _ (List.mem_of_getElem? (i := 562) (by decide +kernel)), rfl⟩
theorem kK_X5_218 : Cond.constantLong RX5 218 (99 : Int64) ∈ zG := List.mem_filter.mpr ⟨List.mem_append_right _ (List.mem_of_getElem? (i := 563) (by decide +kernel)), rfl⟩
theorem kM_L_147 : Cond.methodLink RL 147 yX5_read ∈ zG := List.mem_filter.mpr ⟨List.mem_append_right _ (List.mem_of_getElem? (i := 564) (by decide +kernel)), rfl⟩
theorem kI_X5_read : Cond.instanceMethod yX5_read ∈ zG := List.mem_filter.mpr ⟨List.mem_append_right _ (List.mem_of_getElem? (i := 565) (by decide +kernel)), rfl⟩
theorem kS_X5_read : Cond.selects RX5 yX5_read yX5_read ∈ zG := List.mem_filter.mpr ⟨List.mem_append_right _ (List.mem_of_getElem? (i := 566) (by decide +kernel)), rfl⟩
theorem kD_X5_read : Cond.code yX5_read cX5_read 4 (some .int) ∈ zG := List.mem_filter.mpr ⟨List.mem_append_right _ (List.mem_of_getElem? (i := 567) (by decide +kernel)), rfl⟩
theorem kM_L_151 : Cond.methodLink RL 151 yX5_image ∈ zG := List.mem_filter.mpr ⟨List.mem_append_right _ (List.mem_of_getElem? (i := 568) (by decide +kernel)), rfl⟩
theorem kI_X5_image : Cond.instanceMethod yX5_image ∈ zG := List.mem_filter.mpr ⟨List.mem_append_right _ (List.mem_of_getElem? (i := 569) (by decide +kernel)), rfl⟩
theorem kS_X5_image : Cond.selects RX5 yX5_image yX5_image ∈ zG := List.mem_filter.mpr ⟨List.mem_append_right _ (List.mem_of_getElem? (i := 570) (by decide +kernel)), rfl⟩
theorem kD_X5_image : Cond.code yX5_image cX5_image 1 (some .int) ∈ zG := List.mem_filter.mpr ⟨List.mem_append_right _ (List.mem_of_getElem? (i := 571) (by decide +kernel)), rfl⟩
theorem kM_X5_220 : Cond.methodLink RX5 220 yX1_copyFrom ∈ zG := List.mem_filter.mpr ⟨List.mem_append_right _ (List.mem_of_getElem? (i := 572) (by decide +kernel)), rfl⟩
theorem kI_X1_copyFrom : Cond.instanceMethod yX1_copyFrom ∈ zG := List.mem_filter.mpr ⟨List.mem_append_right _ (List.mem_of_getElem? (i := 573) (by decide +kernel)), rfl⟩
theorem kS_X1_copyFrom : Cond.selects RX1 yX1_copyFrom yX1_copyFrom ∈ zG := List.mem_filter.mpr ⟨List.mem_append_right _ (List.mem_of_getElem? (i := 574) (by decide +kernel)), rfl⟩
theorem kD_X1_copyFrom : Cond.code yX1_copyFrom cX1_copyFrom 2 none ∈ zG := List.mem_filter.mpr ⟨List.mem_append_right _ (List.mem_of_getElem? (i := 575) (by decide +kernel)), rfl⟩
theorem kM_X1_37 : Cond.methodLink RX1 37 arraycopyName ∈ zG := List.mem_filter.mpr ⟨List.mem_append_right _ (List.mem_of_getElem? (i := 576) (by decide +kernel)), rfl⟩
theorem kM_L_155 : Cond.methodLink RL 155 yX5_undo ∈ zG := List.mem_filter.mpr ⟨List.mem_append_right _ (List.mem_of_getElem? (i := 577) (by decide +kernel)), rfl⟩
theorem kI_X5_undo : Cond.instanceMethod yX5_undo ∈ zG := List.mem_filter.mpr ⟨List.mem_append_right _ (List.mem_of_getElem? (i := 578) (by decide +kernel)), rfl⟩
theorem kS_X5_undo : Cond.selects RX5 yX5_undo yX5_undo ∈ zG := List.mem_filter.mpr ⟨List.mem_append_right _ (List.mem_of_getElem? (i := 579) (by decide +kernel)), rfl⟩
theorem kD_X5_undo : Cond.code yX5_undo cX5_undo 1 (some .int) ∈ zG := List.mem_filter.mpr ⟨List.mem_append_right _ (List.mem_of_getElem? (i := 580) (by decide +kernel)), rfl⟩
theorem kM_L_159 : Cond.methodLink RL 159 yX5_tear ∈ zG := List.mem_filter.mpr ⟨List.mem_append_right _ (List.mem_of_getElem? (i := 581) (by decide +kernel)), rfl⟩
theorem kI_X5_tear : Cond.instanceMethod yX5_tear ∈ zG := List.mem_filter.mpr ⟨List.mem_append_right _ (List.mem_of_getElem? (i := 582) (by decide +kernel)), rfl⟩
theorem kS_X5_tear : Cond.selects RX5 yX5_tear yX5_tear ∈ zG := List.mem_filter.mpr ⟨List.mem_append_right _ (List.mem_of_getElem? (i := 583) (by decide +kernel)), rfl⟩
theorem kD_X5_tear : Cond.code yX5_tear cX5_tear 2 (some .int) ∈ zG := List.mem_filter.mpr ⟨List.mem_append_right _ (List.mem_of_getElem? (i := 584) (by decide +kernel)), rfl⟩
theorem kM_L_163 : Cond.methodLink RL 163 yX5_count ∈ zG := List.mem_filter.mpr ⟨List.mem_append_right _ (List.mem_of_getElem? (i := 585) (by decide +kernel)), rfl⟩
theorem kI_X5_count : Cond.instanceMethod yX5_count ∈ zG := List.mem_filter.mpr ⟨List.mem_append_right _ (List.mem_of_getElem? (i := 586) (by decide +kernel)), rfl⟩
theorem kS_X5_count : Cond.selects RX5 yX5_count yX5_count ∈ zG := List.mem_filter.mpr ⟨List.mem_append_right _ (List.mem_of_getElem? (i := 587) (by decide +kernel)), rfl⟩
theorem kD_X5_count : Cond.code yX5_count cX5_count 2 (some .int) ∈ zG := List.mem_filter.mpr ⟨List.mem_append_right _ (List.mem_of_getElem? (i := 588) (by decide +kernel)), rfl⟩
theorem kM_L_167 : Cond.methodLink RL 167 yX5_status ∈ zG := List.mem_filter.mpr ⟨List.mem_append_right _ (List.mem_of_getElem? (i := 589) (by decide +kernel)), rfl⟩
theorem kI_X5_status : Cond.instanceMethod yX5_status ∈ zG := List.mem_filter.mpr ⟨List.mem_append_right _ (List.mem_of_getElem? (i := 590) (by decide +kernel)), rfl⟩
theorem kS_X5_status : Cond.selects RX5 yX5_status yX5_status ∈ zG := List.mem_filter.mpr ⟨List.mem_append_right _ (List.mem_of_getElem? (i := 591) (by decide +kernel)), rfl⟩
theorem kD_X5_status : Cond.code yX5_status cX5_status 4 (some .int) ∈ zG := List.mem_filter.mpr ⟨List.mem_append_right _ (List.mem_of_getElem? (i := 592) (by decide +kernel)), rfl⟩
theorem kL_L_10 : Cond.classLink RL 10 RX6 ∈ zG := List.mem_filter.mpr ⟨List.mem_append_right _ (List.mem_of_getElem? (i := 593) (by decide +kernel)), rfl⟩
theorem kO_X6 : Cond.instantiable RX6 25 ∈ zG := List.mem_filter.mpr ⟨List.mem_append_right _ (List.mem_of_getElem? (i := 594) (by decide +kernel)), rfl⟩
theorem kM_L_12 : Cond.methodLink RL 12 yX6_init ∈ zG := List.mem_filter.mpr ⟨List.mem_append_right _ (List.mem_of_getElem? (i := 595) (by decide +kernel)), rfl⟩
theorem kI_X6_init : Cond.instanceMethod yX6_init ∈ zG := List.mem_filter.mpr ⟨List.mem_append_right _ (List.mem_of_getElem? (i := 596) (by decide +kernel)), rfl⟩
theorem kD_X6_init : Cond.code yX6_init cX6_init 2 none ∈ zG := List.mem_filter.mpr ⟨List.mem_append_right _ (List.mem_of_getElem? (i := 597) (by decide +kernel)), rfl⟩
theorem kM_X6_1 : Cond.methodLink RX6 1 objectInit ∈ zG := List.mem_filter.mpr ⟨List.mem_append_right _ (List.mem_of_getElem? (i := 598) (by decide +kernel)), rfl⟩
theorem kF_X6_9 : Cond.fieldLink RX6 9 RX6 "s" "[I" ∈ zG := List.mem_filter.mpr ⟨List.mem_append_right _ (List.mem_of_getElem? (i := 599) (by decide +kernel)), rfl⟩
theorem kF_X6_13 : Cond.fieldLink RX6 13 RX6 "kept" "[I" ∈ zG := List.mem_filter.mpr ⟨List.mem_append_right _ (List.mem_of_getElem? (i := 600) (by decide +kernel)), rfl⟩
theorem kF_X6_16 : Cond.fieldLink RX6 16 RX6 "aside" "[I" ∈ zG := List.mem_filter.mpr ⟨List.mem_append_right _ (List.mem_of_getElem? (i := 601) (by decide +kernel)), rfl⟩
theorem kF_X6_242 : Cond.fieldLink RX6 242 RX6 "isKept" "Z" ∈ zG := List.mem_filter.mpr ⟨List.mem_append_right _ (List.mem_of_getElem? (i := 602) (by decide +kernel)), rfl⟩
theorem kF_X6_19 : Cond.fieldLink RX6 19 RX6 "tape" "[I" ∈ zG := List.mem_filter.mpr ⟨List.mem_append_right _ (List.mem_of_getElem? (i := 603) (by decide +kernel)), rfl⟩
theorem kF_X6_183 : Cond.fieldLink RX6 183 RX6 "taped" "I" ∈ zG := List.mem_filter.mpr ⟨List.mem_append_right _ (List.mem_of_getElem? (i := 604) (by decide +kernel)), rfl⟩
theorem kF_X6_22 : Cond.fieldLink RX6 22 RX6 "findings" "[I" ∈ zG := List.mem_filter.mpr ⟨List.mem_append_right _ (List.mem_of_getElem? (i := 605) (by decide +kernel)), rfl⟩
theorem kF_X6_25 : Cond.fieldLink RX6 25 RX6 "steps" "[I" ∈ zG := List.mem_filter.mpr ⟨List.mem_append_right _ (List.mem_of_getElem? (i := 606) (by decide +kernel)), rfl⟩
theorem kF_X6_28 : Cond.fieldLink RX6 28 RX6 "then" "[I" ∈ zG := List.mem_filter.mpr ⟨List.mem_append_right _ (List.mem_of_getElem? (i := 607) (by decide +kernel)), rfl⟩
theorem kF_X6_108 : Cond.fieldLink RX6 108 RX6 "moved" "I" ∈ zG := List.mem_filter.mpr ⟨List.mem_append_right _ (List.mem_of_getElem? (i := 608) (by decide +kernel)), rfl⟩
theorem kF_X6_124 : Cond.fieldLink RX6 124 RX6 "size" "I" ∈ zG := List.mem_filter.mpr ⟨List.mem_append_right _ (List.mem_of_getElem? (i := 609) (by decide +kernel)), rfl⟩
theorem kF_X6_127 : Cond.fieldLink RX6 127 RX6 "noise" "I" ∈ zG := List.mem_filter.mpr ⟨List.mem_append_right _ (List.mem_of_getElem? (i := 610) (by decide +kernel)), rfl⟩
theorem kF_X6_31 : Cond.fieldLink RX6 31 RX6 "sizes" "[I" ∈ zG := List.mem_filter.mpr ⟨List.mem_append_right _ (List.mem_of_getElem? (i := 611) (by decide +kernel)), rfl⟩
theorem kF_X6_34 : Cond.fieldLink RX6 34 RX6 "wides" "[I" ∈ zG := List.mem_filter.mpr ⟨List.mem_append_right _ (List.mem_of_getElem? (i := 612) (by decide +kernel)), rfl⟩
theorem kF_X6_143 : Cond.fieldLink RX6 143 RX6 "noises" "I" ∈ zG := List.mem_filter.mpr ⟨List.mem_append_right _ (List.mem_of_getElem? (i := 613) (by decide +kernel)), rfl⟩
theorem kF_X6_37 : Cond.fieldLink RX6 37 RX6 "code" "[I" ∈ zG := List.mem_filter.mpr ⟨List.mem_append_right _ (List.mem_of_getElem? (i := 614) (by decide +kernel)), rfl⟩
theorem kF_X6_199 : Cond.fieldLink RX6 199 RX6 "coded" "I" ∈ zG := List.mem_filter.mpr ⟨List.mem_append_right _ (List.mem_of_getElem? (i := 615) (by decide +kernel)), rfl⟩
theorem kF_X6_180 : Cond.fieldLink RX6 180 RX6 "here" "I" ∈ zG := List.mem_filter.mpr ⟨List.mem_append_right _ (List.mem_of_getElem? (i := 616) (by decide +kernel)), rfl⟩
theorem kF_X6_186 : Cond.fieldLink RX6 186 RX6 "fault" "I" ∈ zG := List.mem_filter.mpr ⟨List.mem_append_right _ (List.mem_of_getElem? (i := 617) (by decide +kernel)), rfl⟩
theorem kF_X6_208 : Cond.fieldLink RX6 208 RX6 "open" "I" ∈ zG := List.mem_filter.mpr ⟨List.mem_append_right _ (List.mem_of_getElem? (i := 618) (by decide +kernel)), rfl⟩
theorem kF_X6_40 : Cond.fieldLink RX6 40 RX6 "pile" "[I" ∈ zG := List.mem_filter.mpr ⟨List.mem_append_right _ (List.mem_of_getElem? (i := 619) (by decide +kernel)), rfl⟩
theorem kF_X6_43 : Cond.fieldLink RX6 43 RX6 "bits" "[I" ∈ zG := List.mem_filter.mpr ⟨List.mem_append_right _ (List.mem_of_getElem? (i := 620) (by decide +kernel)), rfl⟩
theorem kF_X6_46 : Cond.fieldLink RX6 46 RX6 "longs" "[I" ∈ zG := List.mem_filter.mpr ⟨List.mem_append_right _ (List.mem_of_getElem? (i := 621) (by decide +kernel)), rfl⟩
theorem kF_X6_49 : Cond.fieldLink RX6 49 RX6 "cells" "[J" ∈ zG := List.mem_filter.mpr ⟨List.mem_append_right _ (List.mem_of_getElem? (i := 622) (by decide +kernel)), rfl⟩
theorem kF_X6_53 : Cond.fieldLink RX6 53 RX6 "between" "[J" ∈ zG := List.mem_filter.mpr ⟨List.mem_append_right _ (List.mem_of_getElem? (i := 623) (by decide +kernel)), rfl⟩
theorem kM_L_17 : Cond.methodLink RL 17 yX6_block ∈ zG := List.mem_filter.mpr ⟨List.mem_append_right _ (List.mem_of_getElem? (i := 675) (by decide +kernel)), rfl⟩
theorem kI_X6_block : Cond.instanceMethod yX6_block ∈ zG := List.mem_filter.mpr ⟨List.mem_append_right _ (List.mem_of_getElem? (i := 676) (by decide +kernel)), rfl⟩
theorem kS_X6_block : Cond.selects RX6 yX6_block yX6_block ∈ zG := List.mem_filter.mpr ⟨List.mem_append_right _ (List.mem_of_getElem? (i := 677) (by decide +kernel)), rfl⟩
theorem kD_X6_block : Cond.code yX6_block cX6_block 6 (some .int) ∈ zG := List.mem_filter.mpr ⟨List.mem_append_right _ (List.mem_of_getElem? (i := 678) (by decide +kernel)), rfl⟩
theorem kM_X6_57 : Cond.methodLink RX6 57 yX6_in ∈ zG := List.mem_filter.mpr ⟨List.mem_append_right _ (List.mem_of_getElem? (i := 679) (by decide +kernel)), rfl⟩
theorem kT_X6_in : Cond.static yX6_in ∈ zG := List.mem_filter.mpr ⟨List.mem_append_right _ (List.mem_of_getElem? (i := 680) (by decide +kernel)), rfl⟩
theorem kD_X6_in : Cond.code yX6_in cX6_in 3 (some .boolean) ∈ zG := List.mem_filter.mpr ⟨List.mem_append_right _ (List.mem_of_getElem? (i := 681) (by decide +kernel)), rfl⟩
theorem kM_X6_85 : Cond.methodLink RX6 85 yX6_no ∈ zG := List.mem_filter.mpr ⟨List.mem_append_right _ (List.mem_of_getElem? (i := 682) (by decide +kernel)), rfl⟩
theorem kI_X6_no : Cond.instanceMethod yX6_no ∈ zG := List.mem_filter.mpr ⟨List.mem_append_right _ (List.mem_of_getElem? (i := 684) (by decide +kernel)), rfl⟩
theorem kD_X6_no : Cond.code yX6_no cX6_no 2 (some .int) ∈ zG := List.mem_filter.mpr ⟨List.mem_append_right _ (List.mem_of_getElem? (i := 685) (by decide +kernel)), rfl⟩
theorem kK_X6_56 : Cond.constant RX6 56 (-1000000001 : Int32) ∈ zG := List.mem_filter.mpr ⟨List.mem_append_right _ (List.mem_of_getElem? (i := 686) (by decide +kernel)), rfl⟩
theorem kM_X6_88 : Cond.methodLink RX6 88 yX6_become ∈ zG := List.mem_filter.mpr ⟨List.mem_append_right _ (List.mem_of_getElem? (i := 687) (by decide +kernel)), rfl⟩
theorem kI_X6_become : Cond.instanceMethod yX6_become ∈ zG := List.mem_filter.mpr ⟨List.mem_append_right _ (List.mem_of_getElem? (i := 689) (by decide +kernel)), rfl⟩
theorem kD_X6_become : Cond.code yX6_become cX6_become 5 (some .int) ∈ zG := List.mem_filter.mpr ⟨List.mem_append_right _ (List.mem_of_getElem? (i := 690) (by decide +kernel)), rfl⟩
theorem kM_X6_61 : Cond.methodLink RX6 61 yX6_at ∈ zG := List.mem_filter.mpr ⟨List.mem_append_right _ (List.mem_of_getElem? (i := 691) (by decide +kernel)), rfl⟩
theorem kI_X6_at : Cond.instanceMethod yX6_at ∈ zG := List.mem_filter.mpr ⟨List.mem_append_right _ (List.mem_of_getElem? (i := 693) (by decide +kernel)), rfl⟩
theorem kD_X6_at : Cond.code yX6_at cX6_at 3 (some .int) ∈ zG := List.mem_filter.mpr ⟨List.mem_append_right _ (List.mem_of_getElem? (i := 694) (by decide +kernel)), rfl⟩
theorem kM_L_22 : Cond.methodLink RL 22 yX6_of ∈ zG := List.mem_filter.mpr ⟨List.mem_append_right _ (List.mem_of_getElem? (i := 695) (by decide +kernel)), rfl⟩
theorem kI_X6_of : Cond.instanceMethod yX6_of ∈ zG := List.mem_filter.mpr ⟨List.mem_append_right _ (List.mem_of_getElem? (i := 696) (by decide +kernel)), rfl⟩
theorem kS_X6_of : Cond.selects RX6 yX6_of yX6_of ∈ zG := List.mem_filter.mpr ⟨List.mem_append_right _ (List.mem_of_getElem? (i := 697) (by decide +kernel)), rfl⟩
theorem kD_X6_of : Cond.code yX6_of cX6_of 3 (some .int) ∈ zG := List.mem_filter.mpr ⟨List.mem_append_right _ (List.mem_of_getElem? (i := 698) (by decide +kernel)), rfl⟩
theorem kM_X6_92 : Cond.methodLink RX6 92 yX6_isBlock ∈ zG := List.mem_filter.mpr ⟨List.mem_append_right _ (List.mem_of_getElem? (i := 699) (by decide +kernel)), rfl⟩
theorem kI_X6_isBlock : Cond.instanceMethod yX6_isBlock ∈ zG := List.mem_filter.mpr ⟨List.mem_append_right _ (List.mem_of_getElem? (i := 701) (by decide +kernel)), rfl⟩
theorem kD_X6_isBlock : Cond.code yX6_isBlock cX6_isBlock 2 (some .boolean) ∈ zG := List.mem_filter.mpr ⟨List.mem_append_right _ (List.mem_of_getElem? (i := 702) (by decide +kernel)), rfl⟩
theorem kM_X6_95 : Cond.methodLink RX6 95 yX6_pull ∈ zG := List.mem_filter.mpr ⟨List.mem_append_right _ (List.mem_of_getElem? (i := 703) (by decide +kernel)), rfl⟩
theorem kI_X6_pull : Cond.instanceMethod yX6_pull ∈ zG := List.mem_filter.mpr ⟨List.mem_append_right _ (List.mem_of_getElem? (i := 705) (by decide +kernel)), rfl⟩
theorem kD_X6_pull : Cond.code yX6_pull cX6_pull 3 (some .int) ∈ zG := List.mem_filter.mpr ⟨List.mem_append_right _ (List.mem_of_getElem? (i := 706) (by decide +kernel)), rfl⟩
theorem kM_X6_77 : Cond.methodLink RX6 77 yX6_placeOf ∈ zG := List.mem_filter.mpr ⟨List.mem_append_right _ (List.mem_of_getElem? (i := 707) (by decide +kernel)), rfl⟩
theorem kI_X6_placeOf : Cond.instanceMethod yX6_placeOf ∈ zG := List.mem_filter.mpr ⟨List.mem_append_right _ (List.mem_of_getElem? (i := 709) (by decide +kernel)), rfl⟩
theorem kD_X6_placeOf : Cond.code yX6_placeOf cX6_placeOf 2 (some .int) ∈ zG := List.mem_filter.mpr ⟨List.mem_append_right _ (List.mem_of_getElem? (i := 710) (by decide +kernel)), rfl⟩
theorem kM_X6_81 : Cond.methodLink RX6 81 yX6_isLast ∈ zG := List.mem_filter.mpr ⟨List.mem_append_right _ (List.mem_of_getElem? (i := 711) (by decide +kernel)), rfl⟩
theorem kI_X6_isLast : Cond.instanceMethod yX6_isLast ∈ zG := List.mem_filter.mpr ⟨List.mem_append_right _ (List.mem_of_getElem? (i := 713) (by decide +kernel)), rfl⟩
theorem kD_X6_isLast : Cond.code yX6_isLast cX6_isLast 2 (some .boolean) ∈ zG := List.mem_filter.mpr ⟨List.mem_append_right _ (List.mem_of_getElem? (i := 714) (by decide +kernel)), rfl⟩
theorem kM_X6_98 : Cond.methodLink RX6 98 yX6_holdsOf ∈ zG := List.mem_filter.mpr ⟨List.mem_append_right _ (List.mem_of_getElem? (i := 715) (by decide +kernel)), rfl⟩
theorem kI_X6_holdsOf : Cond.instanceMethod yX6_holdsOf ∈ zG := List.mem_filter.mpr ⟨List.mem_append_right _ (List.mem_of_getElem? (i := 717) (by decide +kernel)), rfl⟩
theorem kD_X6_holdsOf : Cond.code yX6_holdsOf cX6_holdsOf 4 (some .int) ∈ zG := List.mem_filter.mpr ⟨List.mem_append_right _ (List.mem_of_getElem? (i := 718) (by decide +kernel)), rfl⟩
theorem kM_X6_68 : Cond.methodLink RX6 68 yX6_plainHolds ∈ zG := List.mem_filter.mpr ⟨List.mem_append_right _ (List.mem_of_getElem? (i := 719) (by decide +kernel)), rfl⟩
theorem kI_X6_plainHolds : Cond.instanceMethod yX6_plainHolds ∈ zG := List.mem_filter.mpr ⟨List.mem_append_right _ (List.mem_of_getElem? (i := 721) (by decide +kernel)), rfl⟩
theorem kD_X6_plainHolds : Cond.code yX6_plainHolds cX6_plainHolds 3 (some .int) ∈ zG := List.mem_filter.mpr ⟨List.mem_append_right _ (List.mem_of_getElem? (i := 722) (by decide +kernel)), rfl⟩
theorem kM_X6_65 : Cond.methodLink RX6 65 yX6_lesser ∈ zG := List.mem_filter.mpr ⟨List.mem_append_right _ (List.mem_of_getElem? (i := 723) (by decide +kernel)), rfl⟩
theorem kT_X6_lesser : Cond.static yX6_lesser ∈ zG := List.mem_filter.mpr ⟨List.mem_append_right _ (List.mem_of_getElem? (i := 724) (by decide +kernel)), rfl⟩
theorem kD_X6_lesser : Cond.code yX6_lesser cX6_lesser 2 (some .int) ∈ zG := List.mem_filter.mpr ⟨List.mem_append_right _ (List.mem_of_getElem? (i := 725) (by decide +kernel)), rfl⟩
theorem kM_X6_71 : Cond.methodLink RX6 71 yX6_greater ∈ zG := List.mem_filter.mpr ⟨List.mem_append_right _ (List.mem_of_getElem? (i := 726) (by decide +kernel)), rfl⟩
theorem kT_X6_greater : Cond.static yX6_greater ∈ zG := List.mem_filter.mpr ⟨List.mem_append_right _ (List.mem_of_getElem? (i := 727) (by decide +kernel)), rfl⟩
theorem kD_X6_greater : Cond.code yX6_greater cX6_greater 2 (some .int) ∈ zG := List.mem_filter.mpr ⟨List.mem_append_right _ (List.mem_of_getElem? (i := 728) (by decide +kernel)), rfl⟩
theorem kM_X6_74 : Cond.methodLink RX6 74 yX6_given ∈ zG := List.mem_filter.mpr ⟨List.mem_append_right _ (List.mem_of_getElem? (i := 729) (by decide +kernel)), rfl⟩
theorem kI_X6_given : Cond.instanceMethod yX6_given ∈ zG := List.mem_filter.mpr ⟨List.mem_append_right _ (List.mem_of_getElem? (i := 731) (by decide +kernel)), rfl⟩
theorem kD_X6_given : Cond.code yX6_given cX6_given 6 (some .int) ∈ zG := List.mem_filter.mpr ⟨List.mem_append_right _ (List.mem_of_getElem? (i := 732) (by decide +kernel)), rfl⟩
theorem kM_X6_232 : Cond.methodLink RX6 232 yX6_worthOf ∈ zG := List.mem_filter.mpr ⟨List.mem_append_right _ (List.mem_of_getElem? (i := 733) (by decide +kernel)), rfl⟩
theorem kI_X6_worthOf : Cond.instanceMethod yX6_worthOf ∈ zG := List.mem_filter.mpr ⟨List.mem_append_right _ (List.mem_of_getElem? (i := 735) (by decide +kernel)), rfl⟩
theorem kD_X6_worthOf : Cond.code yX6_worthOf cX6_worthOf 4 (some .int) ∈ zG := List.mem_filter.mpr ⟨List.mem_append_right _ (List.mem_of_getElem? (i := 736) (by decide +kernel)), rfl⟩
theorem kM_X6_235 : Cond.methodLink RX6 235 yX6_done ∈ zG := List.mem_filter.mpr ⟨List.mem_append_right _ (List.mem_of_getElem? (i := 737) (by decide +kernel)), rfl⟩
theorem kT_X6_done : Cond.static yX6_done ∈ zG := List.mem_filter.mpr ⟨List.mem_append_right _ (List.mem_of_getElem? (i := 738) (by decide +kernel)), rfl⟩
theorem kD_X6_done : Cond.code yX6_done cX6_done 3 (some .int) ∈ zG := List.mem_filter.mpr ⟨List.mem_append_right _ (List.mem_of_getElem? (i := 739) (by decide +kernel)), rfl⟩
theorem kM_L_27 : Cond.methodLink RL 27 yX6_set ∈ zG := List.mem_filter.mpr ⟨List.mem_append_right _ (List.mem_of_getElem? (i := 740) (by decide +kernel)), rfl⟩
theorem kI_X6_set : Cond.instanceMethod yX6_set ∈ zG := List.mem_filter.mpr ⟨List.mem_append_right _ (List.mem_of_getElem? (i := 741) (by decide +kernel)), rfl⟩
theorem kS_X6_set : Cond.selects RX6 yX6_set yX6_set ∈ zG := List.mem_filter.mpr ⟨List.mem_append_right _ (List.mem_of_getElem? (i := 742) (by decide +kernel)), rfl⟩
theorem kD_X6_set : Cond.code yX6_set cX6_set 4 (some .int) ∈ zG := List.mem_filter.mpr ⟨List.mem_append_right _ (List.mem_of_getElem? (i := 743) (by decide +kernel)), rfl⟩
theorem kM_L_31 : Cond.methodLink RL 31 yX6_as ∈ zG := List.mem_filter.mpr ⟨List.mem_append_right _ (List.mem_of_getElem? (i := 744) (by decide +kernel)), rfl⟩
theorem kI_X6_as : Cond.instanceMethod yX6_as ∈ zG := List.mem_filter.mpr ⟨List.mem_append_right _ (List.mem_of_getElem? (i := 745) (by decide +kernel)), rfl⟩
theorem kS_X6_as : Cond.selects RX6 yX6_as yX6_as ∈ zG := List.mem_filter.mpr ⟨List.mem_append_right _ (List.mem_of_getElem? (i := 746) (by decide +kernel)), rfl⟩
theorem kD_X6_as : Cond.code yX6_as cX6_as 3 (some .int) ∈ zG := List.mem_filter.mpr ⟨List.mem_append_right _ (List.mem_of_getElem? (i := 747) (by decide +kernel)), rfl⟩
theorem kM_X6_101 : Cond.methodLink RX6 101 yX6_isUnder ∈ zG := List.mem_filter.mpr ⟨List.mem_append_right _ (List.mem_of_getElem? (i := 748) (by decide +kernel)), rfl⟩
theorem kT_X6_isUnder : Cond.static yX6_isUnder ∈ zG := List.mem_filter.mpr ⟨List.mem_append_right _ (List.mem_of_getElem? (i := 749) (by decide +kernel)), rfl⟩
theorem kD_X6_isUnder : Cond.code yX6_isUnder cX6_isUnder 2 (some .boolean) ∈ zG := List.mem_filter.mpr ⟨List.mem_append_right _ (List.mem_of_getElem? (i := 750) (by decide +kernel)), rfl⟩
theorem kM_L_35 : Cond.methodLink RL 35 yX6_holds ∈ zG := List.mem_filter.mpr ⟨List.mem_append_right _ (List.mem_of_getElem? (i := 751) (by decide +kernel)), rfl⟩
theorem kI_X6_holds : Cond.instanceMethod yX6_holds ∈ zG := List.mem_filter.mpr ⟨List.mem_append_right _ (List.mem_of_getElem? (i := 752) (by decide +kernel)), rfl⟩
theorem kS_X6_holds : Cond.selects RX6 yX6_holds yX6_holds ∈ zG := List.mem_filter.mpr ⟨List.mem_append_right _ (List.mem_of_getElem? (i := 753) (by decide +kernel)), rfl⟩
theorem kD_X6_holds : Cond.code yX6_holds cX6_holds 3 (some .int) ∈ zG := List.mem_filter.mpr ⟨List.mem_append_right _ (List.mem_of_getElem? (i := 754) (by decide +kernel)), rfl⟩
theorem kM_L_39 : Cond.methodLink RL 39 yX6_rubs ∈ zG := List.mem_filter.mpr ⟨List.mem_append_right _ (List.mem_of_getElem? (i := 755) (by decide +kernel)), rfl⟩
theorem kI_X6_rubs : Cond.instanceMethod yX6_rubs ∈ zG := List.mem_filter.mpr ⟨List.mem_append_right _ (List.mem_of_getElem? (i := 756) (by decide +kernel)), rfl⟩
theorem kS_X6_rubs : Cond.selects RX6 yX6_rubs yX6_rubs ∈ zG := List.mem_filter.mpr ⟨List.mem_append_right _ (List.mem_of_getElem? (i := 757) (by decide +kernel)), rfl⟩
theorem kD_X6_rubs : Cond.code yX6_rubs cX6_rubs 3 (some .int) ∈ zG := List.mem_filter.mpr ⟨List.mem_append_right _ (List.mem_of_getElem? (i := 758) (by decide +kernel)), rfl⟩
theorem kM_X6_105 : Cond.methodLink RX6 105 yX6_rubsOf ∈ zG := List.mem_filter.mpr ⟨List.mem_append_right _ (List.mem_of_getElem? (i := 759) (by decide +kernel)), rfl⟩
theorem kI_X6_rubsOf : Cond.instanceMethod yX6_rubsOf ∈ zG := List.mem_filter.mpr ⟨List.mem_append_right _ (List.mem_of_getElem? (i := 761) (by decide +kernel)), rfl⟩
theorem kD_X6_rubsOf : Cond.code yX6_rubsOf cX6_rubsOf 4 (some .int) ∈ zG := List.mem_filter.mpr ⟨List.mem_append_right _ (List.mem_of_getElem? (i := 762) (by decide +kernel)), rfl⟩
theorem kM_L_43 : Cond.methodLink RL 43 yX6_push ∈ zG := List.mem_filter.mpr ⟨List.mem_append_right _ (List.mem_of_getElem? (i := 763) (by decide +kernel)), rfl⟩
theorem kI_X6_push : Cond.instanceMethod yX6_push ∈ zG := List.mem_filter.mpr ⟨List.mem_append_right _ (List.mem_of_getElem? (i := 764) (by decide +kernel)), rfl⟩
theorem kS_X6_push : Cond.selects RX6 yX6_push yX6_push ∈ zG := List.mem_filter.mpr ⟨List.mem_append_right _ (List.mem_of_getElem? (i := 765) (by decide +kernel)), rfl⟩
theorem kD_X6_push : Cond.code yX6_push cX6_push 3 (some .int) ∈ zG := List.mem_filter.mpr ⟨List.mem_append_right _ (List.mem_of_getElem? (i := 766) (by decide +kernel)), rfl⟩
theorem kM_L_47 : Cond.methodLink RL 47 yX6_oil ∈ zG := List.mem_filter.mpr ⟨List.mem_append_right _ (List.mem_of_getElem? (i := 767) (by decide +kernel)), rfl⟩
theorem kI_X6_oil : Cond.instanceMethod yX6_oil ∈ zG := List.mem_filter.mpr ⟨List.mem_append_right _ (List.mem_of_getElem? (i := 768) (by decide +kernel)), rfl⟩
theorem kS_X6_oil : Cond.selects RX6 yX6_oil yX6_oil ∈ zG := List.mem_filter.mpr ⟨List.mem_append_right _ (List.mem_of_getElem? (i := 769) (by decide +kernel)), rfl⟩
theorem kD_X6_oil : Cond.code yX6_oil cX6_oil 3 (some .int) ∈ zG := List.mem_filter.mpr ⟨List.mem_append_right _ (List.mem_of_getElem? (i := 770) (by decide +kernel)), rfl⟩
theorem kM_L_52 : Cond.methodLink RL 52 yX6_pace ∈ zG := List.mem_filter.mpr ⟨List.mem_append_right _ (List.mem_of_getElem? (i := 771) (by decide +kernel)), rfl⟩
theorem kI_X6_pace : Cond.instanceMethod yX6_pace ∈ zG := List.mem_filter.mpr ⟨List.mem_append_right _ (List.mem_of_getElem? (i := 772) (by decide +kernel)), rfl⟩
theorem kS_X6_pace : Cond.selects RX6 yX6_pace yX6_pace ∈ zG := List.mem_filter.mpr ⟨List.mem_append_right _ (List.mem_of_getElem? (i := 773) (by decide +kernel)), rfl⟩
theorem kD_X6_pace : Cond.code yX6_pace cX6_pace 3 (some .int) ∈ zG := List.mem_filter.mpr ⟨List.mem_append_right _ (List.mem_of_getElem? (i := 774) (by decide +kernel)), rfl⟩
theorem kM_L_56 : Cond.methodLink RL 56 yX6_ticks ∈ zG := List.mem_filter.mpr ⟨List.mem_append_right _ (List.mem_of_getElem? (i := 775) (by decide +kernel)), rfl⟩
theorem kI_X6_ticks : Cond.instanceMethod yX6_ticks ∈ zG := List.mem_filter.mpr ⟨List.mem_append_right _ (List.mem_of_getElem? (i := 776) (by decide +kernel)), rfl⟩
theorem kS_X6_ticks : Cond.selects RX6 yX6_ticks yX6_ticks ∈ zG := List.mem_filter.mpr ⟨List.mem_append_right _ (List.mem_of_getElem? (i := 777) (by decide +kernel)), rfl⟩
theorem kD_X6_ticks : Cond.code yX6_ticks cX6_ticks 3 (some .int) ∈ zG := List.mem_filter.mpr ⟨List.mem_append_right _ (List.mem_of_getElem? (i := 778) (by decide +kernel)), rfl⟩
theorem kM_X6_140 : Cond.methodLink RX6 140 yX6_tick ∈ zG := List.mem_filter.mpr ⟨List.mem_append_right _ (List.mem_of_getElem? (i := 779) (by decide +kernel)), rfl⟩
theorem kI_X6_tick : Cond.instanceMethod yX6_tick ∈ zG := List.mem_filter.mpr ⟨List.mem_append_right _ (List.mem_of_getElem? (i := 781) (by decide +kernel)), rfl⟩
theorem kD_X6_tick : Cond.code yX6_tick cX6_tick 5 none ∈ zG := List.mem_filter.mpr ⟨List.mem_append_right _ (List.mem_of_getElem? (i := 782) (by decide +kernel)), rfl⟩
theorem kM_X6_130 : Cond.methodLink RX6 130 yX6_round ∈ zG := List.mem_filter.mpr ⟨List.mem_append_right _ (List.mem_of_getElem? (i := 783) (by decide +kernel)), rfl⟩
theorem kI_X6_round : Cond.instanceMethod yX6_round ∈ zG := List.mem_filter.mpr ⟨List.mem_append_right _ (List.mem_of_getElem? (i := 785) (by decide +kernel)), rfl⟩
theorem kD_X6_round : Cond.code yX6_round cX6_round 3 (some .boolean) ∈ zG := List.mem_filter.mpr ⟨List.mem_append_right _ (List.mem_of_getElem? (i := 786) (by decide +kernel)), rfl⟩
theorem kM_X6_121 : Cond.methodLink RX6 121 yX6_stepsOf ∈ zG := List.mem_filter.mpr ⟨List.mem_append_right _ (List.mem_of_getElem? (i := 787) (by decide +kernel)), rfl⟩
theorem kI_X6_stepsOf : Cond.instanceMethod yX6_stepsOf ∈ zG := List.mem_filter.mpr ⟨List.mem_append_right _ (List.mem_of_getElem? (i := 789) (by decide +kernel)), rfl⟩
theorem kD_X6_stepsOf : Cond.code yX6_stepsOf cX6_stepsOf 9 (some .int) ∈ zG := List.mem_filter.mpr ⟨List.mem_append_right _ (List.mem_of_getElem? (i := 790) (by decide +kernel)), rfl⟩
theorem kM_X6_112 : Cond.methodLink RX6 112 yX6_without ∈ zG := List.mem_filter.mpr ⟨List.mem_append_right _ (List.mem_of_getElem? (i := 791) (by decide +kernel)), rfl⟩
theorem kT_X6_without : Cond.static yX6_without ∈ zG := List.mem_filter.mpr ⟨List.mem_append_right _ (List.mem_of_getElem? (i := 792) (by decide +kernel)), rfl⟩
theorem kD_X6_without : Cond.code yX6_without cX6_without 1 (some .long) ∈ zG := List.mem_filter.mpr ⟨List.mem_append_right _ (List.mem_of_getElem? (i := 793) (by decide +kernel)), rfl⟩
theorem kM_X6_116 : Cond.methodLink RX6 116 yX6_springs ∈ zG := List.mem_filter.mpr ⟨List.mem_append_right _ (List.mem_of_getElem? (i := 794) (by decide +kernel)), rfl⟩
theorem kI_X6_springs : Cond.instanceMethod yX6_springs ∈ zG := List.mem_filter.mpr ⟨List.mem_append_right _ (List.mem_of_getElem? (i := 796) (by decide +kernel)), rfl⟩
theorem kD_X6_springs : Cond.code yX6_springs cX6_springs 2 (some .int) ∈ zG := List.mem_filter.mpr ⟨List.mem_append_right _ (List.mem_of_getElem? (i := 797) (by decide +kernel)), rfl⟩
theorem kK_X6_119 : Cond.constantLong RX6 119 (999 : Int64) ∈ zG := List.mem_filter.mpr ⟨List.mem_append_right _ (List.mem_of_getElem? (i := 798) (by decide +kernel)), rfl⟩
theorem kM_X6_134 : Cond.methodLink RX6 134 yX6_classOf ∈ zG := List.mem_filter.mpr ⟨List.mem_append_right _ (List.mem_of_getElem? (i := 799) (by decide +kernel)), rfl⟩
theorem kT_X6_classOf : Cond.static yX6_classOf ∈ zG := List.mem_filter.mpr ⟨List.mem_append_right _ (List.mem_of_getElem? (i := 800) (by decide +kernel)), rfl⟩
theorem kD_X6_classOf : Cond.code yX6_classOf cX6_classOf 3 (some .int) ∈ zG := List.mem_filter.mpr ⟨List.mem_append_right _ (List.mem_of_getElem? (i := 801) (by decide +kernel)), rfl⟩
theorem kM_X6_137 : Cond.methodLink RX6 137 yX6_books ∈ zG := List.mem_filter.mpr ⟨List.mem_append_right _ (List.mem_of_getElem? (i := 802) (by decide +kernel)), rfl⟩
theorem kI_X6_books : Cond.instanceMethod yX6_books ∈ zG := List.mem_filter.mpr ⟨List.mem_append_right _ (List.mem_of_getElem? (i := 804) (by decide +kernel)), rfl⟩
theorem kD_X6_books : Cond.code yX6_books cX6_books 2 none ∈ zG := List.mem_filter.mpr ⟨List.mem_append_right _ (List.mem_of_getElem? (i := 805) (by decide +kernel)), rfl⟩
theorem kM_L_60 : Cond.methodLink RL 60 yX6_until ∈ zG := List.mem_filter.mpr ⟨List.mem_append_right _ (List.mem_of_getElem? (i := 806) (by decide +kernel)), rfl⟩
theorem kI_X6_until : Cond.instanceMethod yX6_until ∈ zG := List.mem_filter.mpr ⟨List.mem_append_right _ (List.mem_of_getElem? (i := 807) (by decide +kernel)), rfl⟩
theorem kS_X6_until : Cond.selects RX6 yX6_until yX6_until ∈ zG := List.mem_filter.mpr ⟨List.mem_append_right _ (List.mem_of_getElem? (i := 808) (by decide +kernel)), rfl⟩
theorem kD_X6_until : Cond.code yX6_until cX6_until 5 (some .int) ∈ zG := List.mem_filter.mpr ⟨List.mem_append_right _ (List.mem_of_getElem? (i := 809) (by decide +kernel)), rfl⟩
theorem kM_L_64 : Cond.methodLink RL 64 yX6_book ∈ zG := List.mem_filter.mpr ⟨List.mem_append_right _ (List.mem_of_getElem? (i := 810) (by decide +kernel)), rfl⟩
theorem kI_X6_book : Cond.instanceMethod yX6_book ∈ zG := List.mem_filter.mpr ⟨List.mem_append_right _ (List.mem_of_getElem? (i := 811) (by decide +kernel)), rfl⟩
theorem kS_X6_book : Cond.selects RX6 yX6_book yX6_book ∈ zG := List.mem_filter.mpr ⟨List.mem_append_right _ (List.mem_of_getElem? (i := 812) (by decide +kernel)), rfl⟩
theorem kD_X6_book : Cond.code yX6_book cX6_book 3 (some .int) ∈ zG := List.mem_filter.mpr ⟨List.mem_append_right _ (List.mem_of_getElem? (i := 813) (by decide +kernel)), rfl⟩
theorem kM_L_68 : Cond.methodLink RL 68 yX6_counts ∈ zG := List.mem_filter.mpr ⟨List.mem_append_right _ (List.mem_of_getElem? (i := 814) (by decide +kernel)), rfl⟩
theorem kI_X6_counts : Cond.instanceMethod yX6_counts ∈ zG := List.mem_filter.mpr ⟨List.mem_append_right _ (List.mem_of_getElem? (i := 815) (by decide +kernel)), rfl⟩
theorem kS_X6_counts : Cond.selects RX6 yX6_counts yX6_counts ∈ zG := List.mem_filter.mpr ⟨List.mem_append_right _ (List.mem_of_getElem? (i := 816) (by decide +kernel)), rfl⟩
theorem kD_X6_counts : Cond.code yX6_counts cX6_counts 2 (some .int) ∈ zG := List.mem_filter.mpr ⟨List.mem_append_right _ (List.mem_of_getElem? (i := 817) (by decide +kernel)), rfl⟩
theorem kM_L_73 : Cond.methodLink RL 73 yX6_power ∈ zG := List.mem_filter.mpr ⟨List.mem_append_right _ (List.mem_of_getElem? (i := 818) (by decide +kernel)), rfl⟩
theorem kI_X6_power : Cond.instanceMethod yX6_power ∈ zG := List.mem_filter.mpr ⟨List.mem_append_right _ (List.mem_of_getElem? (i := 819) (by decide +kernel)), rfl⟩
theorem kS_X6_power : Cond.selects RX6 yX6_power yX6_power ∈ zG := List.mem_filter.mpr ⟨List.mem_append_right _ (List.mem_of_getElem? (i := 820) (by decide +kernel)), rfl⟩
theorem kD_X6_power : Cond.code yX6_power cX6_power 3 (some .int) ∈ zG := List.mem_filter.mpr ⟨List.mem_append_right _ (List.mem_of_getElem? (i := 821) (by decide +kernel)), rfl⟩
theorem kM_L_77 : Cond.methodLink RL 77 yX6_tone ∈ zG := List.mem_filter.mpr ⟨List.mem_append_right _ (List.mem_of_getElem? (i := 822) (by decide +kernel)), rfl⟩
theorem kI_X6_tone : Cond.instanceMethod yX6_tone ∈ zG := List.mem_filter.mpr ⟨List.mem_append_right _ (List.mem_of_getElem? (i := 823) (by decide +kernel)), rfl⟩
theorem kS_X6_tone : Cond.selects RX6 yX6_tone yX6_tone ∈ zG := List.mem_filter.mpr ⟨List.mem_append_right _ (List.mem_of_getElem? (i := 824) (by decide +kernel)), rfl⟩
theorem kD_X6_tone : Cond.code yX6_tone cX6_tone 3 (some .int) ∈ zG := List.mem_filter.mpr ⟨List.mem_append_right _ (List.mem_of_getElem? (i := 825) (by decide +kernel)), rfl⟩
theorem kM_L_81 : Cond.methodLink RL 81 yX6_great ∈ zG := List.mem_filter.mpr ⟨List.mem_append_right _ (List.mem_of_getElem? (i := 826) (by decide +kernel)), rfl⟩
theorem kI_X6_great : Cond.instanceMethod yX6_great ∈ zG := List.mem_filter.mpr ⟨List.mem_append_right _ (List.mem_of_getElem? (i := 827) (by decide +kernel)), rfl⟩
theorem kS_X6_great : Cond.selects RX6 yX6_great yX6_great ∈ zG := List.mem_filter.mpr ⟨List.mem_append_right _ (List.mem_of_getElem? (i := 828) (by decide +kernel)), rfl⟩
theorem kD_X6_great : Cond.code yX6_great cX6_great 7 (some .int) ∈ zG := List.mem_filter.mpr ⟨List.mem_append_right _ (List.mem_of_getElem? (i := 829) (by decide +kernel)), rfl⟩
theorem kM_L_86 : Cond.methodLink RL 86 yX6_noise ∈ zG := List.mem_filter.mpr ⟨List.mem_append_right _ (List.mem_of_getElem? (i := 830) (by decide +kernel)), rfl⟩
theorem kI_X6_noise : Cond.instanceMethod yX6_noise ∈ zG := List.mem_filter.mpr ⟨List.mem_append_right _ (List.mem_of_getElem? (i := 831) (by decide +kernel)), rfl⟩
theorem kS_X6_noise : Cond.selects RX6 yX6_noise yX6_noise ∈ zG := List.mem_filter.mpr ⟨List.mem_append_right _ (List.mem_of_getElem? (i := 832) (by decide +kernel)), rfl⟩
theorem kD_X6_noise : Cond.code yX6_noise cX6_noise 5 (some .long) ∈ zG := List.mem_filter.mpr ⟨List.mem_append_right _ (List.mem_of_getElem? (i := 833) (by decide +kernel)), rfl⟩
theorem kM_L_90 : Cond.methodLink RL 90 yX6_ahead ∈ zG := List.mem_filter.mpr ⟨List.mem_append_right _ (List.mem_of_getElem? (i := 834) (by decide +kernel)), rfl⟩
theorem kI_X6_ahead : Cond.instanceMethod yX6_ahead ∈ zG := List.mem_filter.mpr ⟨List.mem_append_right _ (List.mem_of_getElem? (i := 835) (by decide +kernel)), rfl⟩
theorem kS_X6_ahead : Cond.selects RX6 yX6_ahead yX6_ahead ∈ zG := List.mem_filter.mpr ⟨List.mem_append_right _ (List.mem_of_getElem? (i := 836) (by decide +kernel)), rfl⟩
theorem kD_X6_ahead : Cond.code yX6_ahead cX6_ahead 4 (some .int) ∈ zG := List.mem_filter.mpr ⟨List.mem_append_right _ (List.mem_of_getElem? (i := 837) (by decide +kernel)), rfl⟩
theorem kM_X6_146 : Cond.methodLink RX6 146 yX6_isAhead ∈ zG := List.mem_filter.mpr ⟨List.mem_append_right _ (List.mem_of_getElem? (i := 838) (by decide +kernel)), rfl⟩
theorem kT_X6_isAhead : Cond.static yX6_isAhead ∈ zG := List.mem_filter.mpr ⟨List.mem_append_right _ (List.mem_of_getElem? (i := 839) (by decide +kernel)), rfl⟩
theorem kD_X6_isAhead : Cond.code yX6_isAhead cX6_isAhead 1 (some .boolean) ∈ zG := List.mem_filter.mpr ⟨List.mem_append_right _ (List.mem_of_getElem? (i := 840) (by decide +kernel)), rfl⟩
theorem kM_X6_149 : Cond.methodLink RX6 149 yX6_lay ∈ zG := List.mem_filter.mpr ⟨List.mem_append_right _ (List.mem_of_getElem? (i := 841) (by decide +kernel)), rfl⟩
theorem kT_X6_lay : Cond.static yX6_lay ∈ zG := List.mem_filter.mpr ⟨List.mem_append_right _ (List.mem_of_getElem? (i := 842) (by decide +kernel)), rfl⟩
theorem kD_X6_lay : Cond.code yX6_lay cX6_lay 3 none ∈ zG := List.mem_filter.mpr ⟨List.mem_append_right _ (List.mem_of_getElem? (i := 843) (by decide +kernel)), rfl⟩
theorem kM_X6_153 : Cond.methodLink RX6 153 yX6_goes ∈ zG := List.mem_filter.mpr ⟨List.mem_append_right _ (List.mem_of_getElem? (i := 844) (by decide +kernel)), rfl⟩
theorem kI_X6_goes : Cond.instanceMethod yX6_goes ∈ zG := List.mem_filter.mpr ⟨List.mem_append_right _ (List.mem_of_getElem? (i := 846) (by decide +kernel)), rfl⟩
theorem kD_X6_goes : Cond.code yX6_goes cX6_goes 3 none ∈ zG := List.mem_filter.mpr ⟨List.mem_append_right _ (List.mem_of_getElem? (i := 847) (by decide +kernel)), rfl⟩
theorem kM_X6_157 : Cond.methodLink RX6 157 yX6_jumps ∈ zG := List.mem_filter.mpr ⟨List.mem_append_right _ (List.mem_of_getElem? (i := 848) (by decide +kernel)), rfl⟩
theorem kI_X6_jumps : Cond.instanceMethod yX6_jumps ∈ zG := List.mem_filter.mpr ⟨List.mem_append_right _ (List.mem_of_getElem? (i := 850) (by decide +kernel)), rfl⟩
theorem kD_X6_jumps : Cond.code yX6_jumps cX6_jumps 4 (some .int) ∈ zG := List.mem_filter.mpr ⟨List.mem_append_right _ (List.mem_of_getElem? (i := 851) (by decide +kernel)), rfl⟩
theorem kM_X6_160 : Cond.methodLink RX6 160 yX6_greatest ∈ zG := List.mem_filter.mpr ⟨List.mem_append_right _ (List.mem_of_getElem? (i := 852) (by decide +kernel)), rfl⟩
theorem kI_X6_greatest : Cond.instanceMethod yX6_greatest ∈ zG := List.mem_filter.mpr ⟨List.mem_append_right _ (List.mem_of_getElem? (i := 854) (by decide +kernel)), rfl⟩
theorem kD_X6_greatest : Cond.code yX6_greatest cX6_greatest 4 (some .int) ∈ zG := List.mem_filter.mpr ⟨List.mem_append_right _ (List.mem_of_getElem? (i := 855) (by decide +kernel)), rfl⟩
theorem kM_L_94 : Cond.methodLink RL 94 yX6_from ∈ zG := List.mem_filter.mpr ⟨List.mem_append_right _ (List.mem_of_getElem? (i := 856) (by decide +kernel)), rfl⟩
theorem kI_X6_from : Cond.instanceMethod yX6_from ∈ zG := List.mem_filter.mpr ⟨List.mem_append_right _ (List.mem_of_getElem? (i := 857) (by decide +kernel)), rfl⟩
theorem kS_X6_from : Cond.selects RX6 yX6_from yX6_from ∈ zG := List.mem_filter.mpr ⟨List.mem_append_right _ (List.mem_of_getElem? (i := 858) (by decide +kernel)), rfl⟩
theorem kD_X6_from : Cond.code yX6_from cX6_from 2 (some .int) ∈ zG := List.mem_filter.mpr ⟨List.mem_append_right _ (List.mem_of_getElem? (i := 859) (by decide +kernel)), rfl⟩
theorem kM_X6_167 : Cond.methodLink RX6 167 yX6_leastSo ∈ zG := List.mem_filter.mpr ⟨List.mem_append_right _ (List.mem_of_getElem? (i := 860) (by decide +kernel)), rfl⟩
theorem kI_X6_leastSo : Cond.instanceMethod yX6_leastSo ∈ zG := List.mem_filter.mpr ⟨List.mem_append_right _ (List.mem_of_getElem? (i := 862) (by decide +kernel)), rfl⟩
theorem kD_X6_leastSo : Cond.code yX6_leastSo cX6_leastSo 6 (some .int) ∈ zG := List.mem_filter.mpr ⟨List.mem_append_right _ (List.mem_of_getElem? (i := 863) (by decide +kernel)), rfl⟩
theorem kM_X6_163 : Cond.methodLink RX6 163 yX6_isSo ∈ zG := List.mem_filter.mpr ⟨List.mem_append_right _ (List.mem_of_getElem? (i := 864) (by decide +kernel)), rfl⟩
theorem kI_X6_isSo : Cond.instanceMethod yX6_isSo ∈ zG := List.mem_filter.mpr ⟨List.mem_append_right _ (List.mem_of_getElem? (i := 866) (by decide +kernel)), rfl⟩
theorem kD_X6_isSo : Cond.code yX6_isSo cX6_isSo 6 (some .boolean) ∈ zG := List.mem_filter.mpr ⟨List.mem_append_right _ (List.mem_of_getElem? (i := 867) (by decide +kernel)), rfl⟩
theorem kM_L_98 : Cond.methodLink RL 98 yX6_still ∈ zG := List.mem_filter.mpr ⟨List.mem_append_right _ (List.mem_of_getElem? (i := 868) (by decide +kernel)), rfl⟩
theorem kI_X6_still : Cond.instanceMethod yX6_still ∈ zG := List.mem_filter.mpr ⟨List.mem_append_right _ (List.mem_of_getElem? (i := 869) (by decide +kernel)), rfl⟩
theorem kS_X6_still : Cond.selects RX6 yX6_still yX6_still ∈ zG := List.mem_filter.mpr ⟨List.mem_append_right _ (List.mem_of_getElem? (i := 870) (by decide +kernel)), rfl⟩
theorem kD_X6_still : Cond.code yX6_still cX6_still 4 (some .int) ∈ zG := List.mem_filter.mpr ⟨List.mem_append_right _ (List.mem_of_getElem? (i := 871) (by decide +kernel)), rfl⟩
theorem kM_L_102 : Cond.methodLink RL 102 yX6_which ∈ zG := List.mem_filter.mpr ⟨List.mem_append_right _ (List.mem_of_getElem? (i := 872) (by decide +kernel)), rfl⟩
theorem kI_X6_which : Cond.instanceMethod yX6_which ∈ zG := List.mem_filter.mpr ⟨List.mem_append_right _ (List.mem_of_getElem? (i := 873) (by decide +kernel)), rfl⟩
theorem kS_X6_which : Cond.selects RX6 yX6_which yX6_which ∈ zG := List.mem_filter.mpr ⟨List.mem_append_right _ (List.mem_of_getElem? (i := 874) (by decide +kernel)), rfl⟩
theorem kD_X6_which : Cond.code yX6_which cX6_which 5 (some .int) ∈ zG := List.mem_filter.mpr ⟨List.mem_append_right _ (List.mem_of_getElem? (i := 875) (by decide +kernel)), rfl⟩
theorem kM_X6_174 : Cond.methodLink RX6 174 yX6_isSheet ∈ zG := List.mem_filter.mpr ⟨List.mem_append_right _ (List.mem_of_getElem? (i := 876) (by decide +kernel)), rfl⟩
theorem kT_X6_isSheet : Cond.static yX6_isSheet ∈ zG := List.mem_filter.mpr ⟨List.mem_append_right _ (List.mem_of_getElem? (i := 877) (by decide +kernel)), rfl⟩
theorem kD_X6_isSheet : Cond.code yX6_isSheet cX6_isSheet 1 (some .boolean) ∈ zG := List.mem_filter.mpr ⟨List.mem_append_right _ (List.mem_of_getElem? (i := 878) (by decide +kernel)), rfl⟩
theorem kM_X6_171 : Cond.methodLink RX6 171 yX6_longOf ∈ zG := List.mem_filter.mpr ⟨List.mem_append_right _ (List.mem_of_getElem? (i := 879) (by decide +kernel)), rfl⟩
theorem kI_X6_longOf : Cond.instanceMethod yX6_longOf ∈ zG := List.mem_filter.mpr ⟨List.mem_append_right _ (List.mem_of_getElem? (i := 881) (by decide +kernel)), rfl⟩
theorem kD_X6_longOf : Cond.code yX6_longOf cX6_longOf 2 (some .int) ∈ zG := List.mem_filter.mpr ⟨List.mem_append_right _ (List.mem_of_getElem? (i := 882) (by decide +kernel)), rfl⟩
theorem kM_X6_177 : Cond.methodLink RX6 177 yX6_gives ∈ zG := List.mem_filter.mpr ⟨List.mem_append_right _ (List.mem_of_getElem? (i := 883) (by decide +kernel)), rfl⟩
theorem kI_X6_gives : Cond.instanceMethod yX6_gives ∈ zG := List.mem_filter.mpr ⟨List.mem_append_right _ (List.mem_of_getElem? (i := 885) (by decide +kernel)), rfl⟩
theorem kD_X6_gives : Cond.code yX6_gives cX6_gives 7 (some .boolean) ∈ zG := List.mem_filter.mpr ⟨List.mem_append_right _ (List.mem_of_getElem? (i := 886) (by decide +kernel)), rfl⟩
theorem kM_L_106 : Cond.methodLink RL 106 yX6_together ∈ zG := List.mem_filter.mpr ⟨List.mem_append_right _ (List.mem_of_getElem? (i := 887) (by decide +kernel)), rfl⟩
theorem kI_X6_together : Cond.instanceMethod yX6_together ∈ zG := List.mem_filter.mpr ⟨List.mem_append_right _ (List.mem_of_getElem? (i := 888) (by decide +kernel)), rfl⟩
theorem kS_X6_together : Cond.selects RX6 yX6_together yX6_together ∈ zG := List.mem_filter.mpr ⟨List.mem_append_right _ (List.mem_of_getElem? (i := 889) (by decide +kernel)), rfl⟩
theorem kD_X6_together : Cond.code yX6_together cX6_together 6 (some .int) ∈ zG := List.mem_filter.mpr ⟨List.mem_append_right _ (List.mem_of_getElem? (i := 890) (by decide +kernel)), rfl⟩
theorem kM_L_110 : Cond.methodLink RL 110 yX6_feed ∈ zG := List.mem_filter.mpr ⟨List.mem_append_right _ (List.mem_of_getElem? (i := 891) (by decide +kernel)), rfl⟩
theorem kI_X6_feed : Cond.instanceMethod yX6_feed ∈ zG := List.mem_filter.mpr ⟨List.mem_append_right _ (List.mem_of_getElem? (i := 892) (by decide +kernel)), rfl⟩
theorem kS_X6_feed : Cond.selects RX6 yX6_feed yX6_feed ∈ zG := List.mem_filter.mpr ⟨List.mem_append_right _ (List.mem_of_getElem? (i := 893) (by decide +kernel)), rfl⟩
theorem kD_X6_feed : Cond.code yX6_feed cX6_feed 4 (some .int) ∈ zG := List.mem_filter.mpr ⟨List.mem_append_right _ (List.mem_of_getElem? (i := 894) (by decide +kernel)), rfl⟩
theorem kM_L_114 : Cond.methodLink RL 114 yX6_wipe ∈ zG := List.mem_filter.mpr ⟨List.mem_append_right _ (List.mem_of_getElem? (i := 895) (by decide +kernel)), rfl⟩
theorem kI_X6_wipe : Cond.instanceMethod yX6_wipe ∈ zG := List.mem_filter.mpr ⟨List.mem_append_right _ (List.mem_of_getElem? (i := 896) (by decide +kernel)), rfl⟩
theorem kS_X6_wipe : Cond.selects RX6 yX6_wipe yX6_wipe ∈ zG := List.mem_filter.mpr ⟨List.mem_append_right _ (List.mem_of_getElem? (i := 897) (by decide +kernel)), rfl⟩
theorem kD_X6_wipe : Cond.code yX6_wipe cX6_wipe 2 (some .int) ∈ zG := List.mem_filter.mpr ⟨List.mem_append_right _ (List.mem_of_getElem? (i := 898) (by decide +kernel)), rfl⟩
theorem kM_L_118 : Cond.methodLink RL 118 yX6_law ∈ zG := List.mem_filter.mpr ⟨List.mem_append_right _ (List.mem_of_getElem? (i := 899) (by decide +kernel)), rfl⟩
theorem kI_X6_law : Cond.instanceMethod yX6_law ∈ zG := List.mem_filter.mpr ⟨List.mem_append_right _ (List.mem_of_getElem? (i := 900) (by decide +kernel)), rfl⟩
theorem kS_X6_law : Cond.selects RX6 yX6_law yX6_law ∈ zG := List.mem_filter.mpr ⟨List.mem_append_right _ (List.mem_of_getElem? (i := 901) (by decide +kernel)), rfl⟩
theorem kD_X6_law : Cond.code yX6_law cX6_law 2 (some .int) ∈ zG := List.mem_filter.mpr ⟨List.mem_append_right _ (List.mem_of_getElem? (i := 902) (by decide +kernel)), rfl⟩
theorem kM_X6_223 : Cond.methodLink RX6 223 yX6_sum ∈ zG := List.mem_filter.mpr ⟨List.mem_append_right _ (List.mem_of_getElem? (i := 903) (by decide +kernel)), rfl⟩
theorem kI_X6_sum : Cond.instanceMethod yX6_sum ∈ zG := List.mem_filter.mpr ⟨List.mem_append_right _ (List.mem_of_getElem? (i := 905) (by decide +kernel)), rfl⟩
theorem kD_X6_sum : Cond.code yX6_sum cX6_sum 3 none ∈ zG := List.mem_filter.mpr ⟨List.mem_append_right _ (List.mem_of_getElem? (i := 906) (by decide +kernel)), rfl⟩
theorem kM_X6_229 : Cond.methodLink RX6 229 yX6_term ∈ zG := List.mem_filter.mpr ⟨List.mem_append_right _ (List.mem_of_getElem? (i := 907) (by decide +kernel)), rfl⟩
theorem kI_X6_term : Cond.instanceMethod yX6_term ∈ zG := List.mem_filter.mpr ⟨List.mem_append_right _ (List.mem_of_getElem? (i := 909) (by decide +kernel)), rfl⟩
theorem kD_X6_term : Cond.code yX6_term cX6_term 3 none ∈ zG := List.mem_filter.mpr ⟨List.mem_append_right _ (List.mem_of_getElem? (i := 910) (by decide +kernel)), rfl⟩
theorem kM_X6_220 : Cond.methodLink RX6 220 yX6_factor ∈ zG := List.mem_filter.mpr ⟨List.mem_append_right _ (List.mem_of_getElem? (i := 911) (by decide +kernel)), rfl⟩
theorem kI_X6_factor : Cond.instanceMethod yX6_factor ∈ zG := List.mem_filter.mpr ⟨List.mem_append_right _ (List.mem_of_getElem? (i := 913) (by decide +kernel)), rfl⟩
theorem kD_X6_factor : Cond.code yX6_factor cX6_factor 1 none ∈ zG := List.mem_filter.mpr ⟨List.mem_append_right _ (List.mem_of_getElem? (i := 914) (by decide +kernel)), rfl⟩
theorem kM_X6_189 : Cond.methodLink RX6 189 yX6_byteAt ∈ zG := List.mem_filter.mpr ⟨List.mem_append_right _ (List.mem_of_getElem? (i := 915) (by decide +kernel)), rfl⟩
theorem kI_X6_byteAt : Cond.instanceMethod yX6_byteAt ∈ zG := List.mem_filter.mpr ⟨List.mem_append_right _ (List.mem_of_getElem? (i := 917) (by decide +kernel)), rfl⟩
theorem kD_X6_byteAt : Cond.code yX6_byteAt cX6_byteAt 1 (some .int) ∈ zG := List.mem_filter.mpr ⟨List.mem_append_right _ (List.mem_of_getElem? (i := 918) (by decide +kernel)), rfl⟩
theorem kM_X6_202 : Cond.methodLink RX6 202 yX6_isDigit ∈ zG := List.mem_filter.mpr ⟨List.mem_append_right _ (List.mem_of_getElem? (i := 919) (by decide +kernel)), rfl⟩
theorem kT_X6_isDigit : Cond.static yX6_isDigit ∈ zG := List.mem_filter.mpr ⟨List.mem_append_right _ (List.mem_of_getElem? (i := 920) (by decide +kernel)), rfl⟩
theorem kD_X6_isDigit : Cond.code yX6_isDigit cX6_isDigit 1 (some .boolean) ∈ zG := List.mem_filter.mpr ⟨List.mem_append_right _ (List.mem_of_getElem? (i := 921) (by decide +kernel)), rfl⟩
theorem kM_X6_211 : Cond.methodLink RX6 211 yX6_number ∈ zG := List.mem_filter.mpr ⟨List.mem_append_right _ (List.mem_of_getElem? (i := 922) (by decide +kernel)), rfl⟩
theorem kI_X6_number : Cond.instanceMethod yX6_number ∈ zG := List.mem_filter.mpr ⟨List.mem_append_right _ (List.mem_of_getElem? (i := 924) (by decide +kernel)), rfl⟩
theorem kD_X6_number : Cond.code yX6_number cX6_number 3 none ∈ zG := List.mem_filter.mpr ⟨List.mem_append_right _ (List.mem_of_getElem? (i := 925) (by decide +kernel)), rfl⟩
theorem kM_X6_205 : Cond.methodLink RX6 205 yX6_emit ∈ zG := List.mem_filter.mpr ⟨List.mem_append_right _ (List.mem_of_getElem? (i := 926) (by decide +kernel)), rfl⟩
theorem kI_X6_emit : Cond.instanceMethod yX6_emit ∈ zG := List.mem_filter.mpr ⟨List.mem_append_right _ (List.mem_of_getElem? (i := 928) (by decide +kernel)), rfl⟩
theorem kD_X6_emit : Cond.code yX6_emit cX6_emit 2 none ∈ zG := List.mem_filter.mpr ⟨List.mem_append_right _ (List.mem_of_getElem? (i := 929) (by decide +kernel)), rfl⟩
theorem kM_X6_214 : Cond.methodLink RX6 214 yX6_nameOf ∈ zG := List.mem_filter.mpr ⟨List.mem_append_right _ (List.mem_of_getElem? (i := 930) (by decide +kernel)), rfl⟩
theorem kT_X6_nameOf : Cond.static yX6_nameOf ∈ zG := List.mem_filter.mpr ⟨List.mem_append_right _ (List.mem_of_getElem? (i := 931) (by decide +kernel)), rfl⟩
theorem kD_X6_nameOf : Cond.code yX6_nameOf cX6_nameOf 1 (some .int) ∈ zG := List.mem_filter.mpr ⟨List.mem_append_right _ (List.mem_of_getElem? (i := 932) (by decide +kernel)), rfl⟩
theorem kM_X6_217 : Cond.methodLink RX6 217 yX6_opens ∈ zG := List.mem_filter.mpr ⟨List.mem_append_right _ (List.mem_of_getElem? (i := 933) (by decide +kernel)), rfl⟩
theorem kI_X6_opens : Cond.instanceMethod yX6_opens ∈ zG := List.mem_filter.mpr ⟨List.mem_append_right _ (List.mem_of_getElem? (i := 935) (by decide +kernel)), rfl⟩
theorem kD_X6_opens : Cond.code yX6_opens cX6_opens 2 (some .boolean) ∈ zG := List.mem_filter.mpr ⟨List.mem_append_right _ (List.mem_of_getElem? (i := 936) (by decide +kernel)), rfl⟩
theorem kM_X6_196 : Cond.methodLink RX6 196 yX6_fails ∈ zG := List.mem_filter.mpr ⟨List.mem_append_right _ (List.mem_of_getElem? (i := 937) (by decide +kernel)), rfl⟩
theorem kI_X6_fails : Cond.instanceMethod yX6_fails ∈ zG := List.mem_filter.mpr ⟨List.mem_append_right _ (List.mem_of_getElem? (i := 939) (by decide +kernel)), rfl⟩
theorem kD_X6_fails : Cond.code yX6_fails cX6_fails 1 none ∈ zG := List.mem_filter.mpr ⟨List.mem_append_right _ (List.mem_of_getElem? (i := 940) (by decide +kernel)), rfl⟩
theorem kM_X6_226 : Cond.methodLink RX6 226 yX6_must ∈ zG := List.mem_filter.mpr ⟨List.mem_append_right _ (List.mem_of_getElem? (i := 941) (by decide +kernel)), rfl⟩
theorem kI_X6_must : Cond.instanceMethod yX6_must ∈ zG := List.mem_filter.mpr ⟨List.mem_append_right _ (List.mem_of_getElem? (i := 943) (by decide +kernel)), rfl⟩
theorem kD_X6_must : Cond.code yX6_must cX6_must 2 none ∈ zG := List.mem_filter.mpr ⟨List.mem_append_right _ (List.mem_of_getElem? (i := 944) (by decide +kernel)), rfl⟩
theorem kM_X6_193 : Cond.methodLink RX6 193 yX6_may ∈ zG := List.mem_filter.mpr ⟨List.mem_append_right _ (List.mem_of_getElem? (i := 945) (by decide +kernel)), rfl⟩
theorem kI_X6_may : Cond.instanceMethod yX6_may ∈ zG := List.mem_filter.mpr ⟨List.mem_append_right _ (List.mem_of_getElem? (i := 947) (by decide +kernel)), rfl⟩
theorem kD_X6_may : Cond.code yX6_may cX6_may 3 (some .boolean) ∈ zG := List.mem_filter.mpr ⟨List.mem_append_right _ (List.mem_of_getElem? (i := 948) (by decide +kernel)), rfl⟩
theorem kM_L_122 : Cond.methodLink RL 122 yX6_plain ∈ zG := List.mem_filter.mpr ⟨List.mem_append_right _ (List.mem_of_getElem? (i := 949) (by decide +kernel)), rfl⟩
theorem kI_X6_plain : Cond.instanceMethod yX6_plain ∈ zG := List.mem_filter.mpr ⟨List.mem_append_right _ (List.mem_of_getElem? (i := 950) (by decide +kernel)), rfl⟩
theorem kS_X6_plain : Cond.selects RX6 yX6_plain yX6_plain ∈ zG := List.mem_filter.mpr ⟨List.mem_append_right _ (List.mem_of_getElem? (i := 951) (by decide +kernel)), rfl⟩
theorem kD_X6_plain : Cond.code yX6_plain cX6_plain 2 (some .int) ∈ zG := List.mem_filter.mpr ⟨List.mem_append_right _ (List.mem_of_getElem? (i := 952) (by decide +kernel)), rfl⟩
theorem kM_L_126 : Cond.methodLink RL 126 yX6_says ∈ zG := List.mem_filter.mpr ⟨List.mem_append_right _ (List.mem_of_getElem? (i := 953) (by decide +kernel)), rfl⟩
theorem kI_X6_says : Cond.instanceMethod yX6_says ∈ zG := List.mem_filter.mpr ⟨List.mem_append_right _ (List.mem_of_getElem? (i := 954) (by decide +kernel)), rfl⟩
theorem kS_X6_says : Cond.selects RX6 yX6_says yX6_says ∈ zG := List.mem_filter.mpr ⟨List.mem_append_right _ (List.mem_of_getElem? (i := 955) (by decide +kernel)), rfl⟩
theorem kD_X6_says : Cond.code yX6_says cX6_says 2 (some .int) ∈ zG := List.mem_filter.mpr ⟨List.mem_append_right _ (List.mem_of_getElem? (i := 956) (by decide +kernel)), rfl⟩
theorem kM_L_130 : Cond.methodLink RL 130 yX6_sheet ∈ zG := List.mem_filter.mpr ⟨List.mem_append_right _ (List.mem_of_getElem? (i := 957) (by decide +kernel)), rfl⟩
theorem kI_X6_sheet : Cond.instanceMethod yX6_sheet ∈ zG := List.mem_filter.mpr ⟨List.mem_append_right _ (List.mem_of_getElem? (i := 958) (by decide +kernel)), rfl⟩
theorem kS_X6_sheet : Cond.selects RX6 yX6_sheet yX6_sheet ∈ zG := List.mem_filter.mpr ⟨List.mem_append_right _ (List.mem_of_getElem? (i := 959) (by decide +kernel)), rfl⟩
theorem kD_X6_sheet : Cond.code yX6_sheet cX6_sheet 5 (some .int) ∈ zG := List.mem_filter.mpr ⟨List.mem_append_right _ (List.mem_of_getElem? (i := 960) (by decide +kernel)), rfl⟩
theorem kM_L_137 : Cond.methodLink RL 137 yX6_write ∈ zG := List.mem_filter.mpr ⟨List.mem_append_right _ (List.mem_of_getElem? (i := 961) (by decide +kernel)), rfl⟩
theorem kI_X6_write : Cond.instanceMethod yX6_write ∈ zG := List.mem_filter.mpr ⟨List.mem_append_right _ (List.mem_of_getElem? (i := 962) (by decide +kernel)), rfl⟩
theorem kS_X6_write : Cond.selects RX6 yX6_write yX6_write ∈ zG := List.mem_filter.mpr ⟨List.mem_append_right _ (List.mem_of_getElem? (i := 963) (by decide +kernel)), rfl⟩
theorem kD_X6_write : Cond.code yX6_write cX6_write 7 (some .long) ∈ zG := List.mem_filter.mpr ⟨List.mem_append_right _ (List.mem_of_getElem? (i := 964) (by decide +kernel)), rfl⟩
theorem kM_L_142 : Cond.methodLink RL 142 yX6_copy ∈ zG := List.mem_filter.mpr ⟨List.mem_append_right _ (List.mem_of_getElem? (i := 965) (by decide +kernel)), rfl⟩
theorem kI_X6_copy : Cond.instanceMethod yX6_copy ∈ zG := List.mem_filter.mpr ⟨List.mem_append_right _ (List.mem_of_getElem? (i := 966) (by decide +kernel)), rfl⟩
theorem kS_X6_copy : Cond.selects RX6 yX6_copy yX6_copy ∈ zG := List.mem_filter.mpr ⟨List.mem_append_right _ (List.mem_of_getElem? (i := 967) (by decide +kernel)), rfl⟩
theorem kD_X6_copy : Cond.code yX6_copy cX6_copy 7 (some .int) ∈ zG := List.mem_filter.mpr ⟨List.mem_append_right _ (List.mem_of_getElem? (i := 968) (by decide +kernel)), rfl⟩
theorem kM_L_146 : Cond.methodLink RL 146 yX6_draws ∈ zG := List.mem_filter.mpr ⟨List.mem_append_right _ (List.mem_of_getElem? (i := 969) (by decide +kernel)), rfl⟩
theorem kI_X6_draws : Cond.instanceMethod yX6_draws ∈ zG := List.mem_filter.mpr ⟨List.mem_append_right _ (List.mem_of_getElem? (i := 970) (by decide +kernel)), rfl⟩
theorem kS_X6_draws : Cond.selects RX6 yX6_draws yX6_draws ∈ zG := List.mem_filter.mpr ⟨List.mem_append_right _ (List.mem_of_getElem? (i := 971) (by decide +kernel)), rfl⟩
theorem kD_X6_draws : Cond.code yX6_draws cX6_draws 7 (some .int) ∈ zG := List.mem_filter.mpr ⟨List.mem_append_right _ (List.mem_of_getElem? (i := 972) (by decide +kernel)), rfl⟩
theorem kK_X6_238 : Cond.constantLong RX6 238 (-99 : Int64) ∈ zG := List.mem_filter.mpr ⟨List.mem_append_right _ (List.mem_of_getElem? (i := 973) (by decide +kernel)), rfl⟩
theorem kK_X6_240 : Cond.constantLong RX6 240 (99 : Int64) ∈ zG := List.mem_filter.mpr ⟨List.mem_append_right _ (List.mem_of_getElem? (i := 974) (by decide +kernel)), rfl⟩
theorem kM_L_150 : Cond.methodLink RL 150 yX6_read ∈ zG := List.mem_filter.mpr ⟨List.mem_append_right _ (List.mem_of_getElem? (i := 975) (by decide +kernel)), rfl⟩
theorem kI_X6_read : Cond.instanceMethod yX6_read ∈ zG := List.mem_filter.mpr ⟨List.mem_append_right _ (List.mem_of_getElem? (i := 976) (by decide +kernel)), rfl⟩
theorem kS_X6_read : Cond.selects RX6 yX6_read yX6_read ∈ zG := List.mem_filter.mpr ⟨List.mem_append_right _ (List.mem_of_getElem? (i := 977) (by decide +kernel)), rfl⟩
theorem kD_X6_read : Cond.code yX6_read cX6_read 3 (some .int) ∈ zG := List.mem_filter.mpr ⟨List.mem_append_right _ (List.mem_of_getElem? (i := 978) (by decide +kernel)), rfl⟩
theorem kM_L_154 : Cond.methodLink RL 154 yX6_image ∈ zG := List.mem_filter.mpr ⟨List.mem_append_right _ (List.mem_of_getElem? (i := 979) (by decide +kernel)), rfl⟩
theorem kI_X6_image : Cond.instanceMethod yX6_image ∈ zG := List.mem_filter.mpr ⟨List.mem_append_right _ (List.mem_of_getElem? (i := 980) (by decide +kernel)), rfl⟩
theorem kS_X6_image : Cond.selects RX6 yX6_image yX6_image ∈ zG := List.mem_filter.mpr ⟨List.mem_append_right _ (List.mem_of_getElem? (i := 981) (by decide +kernel)), rfl⟩
theorem kD_X6_image : Cond.code yX6_image cX6_image 1 (some .int) ∈ zG := List.mem_filter.mpr ⟨List.mem_append_right _ (List.mem_of_getElem? (i := 982) (by decide +kernel)), rfl⟩
theorem kM_L_158 : Cond.methodLink RL 158 yX6_undo ∈ zG := List.mem_filter.mpr ⟨List.mem_append_right _ (List.mem_of_getElem? (i := 983) (by decide +kernel)), rfl⟩
theorem kI_X6_undo : Cond.instanceMethod yX6_undo ∈ zG := List.mem_filter.mpr ⟨List.mem_append_right _ (List.mem_of_getElem? (i := 984) (by decide +kernel)), rfl⟩
theorem kS_X6_undo : Cond.selects RX6 yX6_undo yX6_undo ∈ zG := List.mem_filter.mpr ⟨List.mem_append_right _ (List.mem_of_getElem? (i := 985) (by decide +kernel)), rfl⟩
theorem kD_X6_undo : Cond.code yX6_undo cX6_undo 1 (some .int) ∈ zG := List.mem_filter.mpr ⟨List.mem_append_right _ (List.mem_of_getElem? (i := 986) (by decide +kernel)), rfl⟩
theorem kM_L_162 : Cond.methodLink RL 162 yX6_tear ∈ zG := List.mem_filter.mpr ⟨List.mem_append_right _ (List.mem_of_getElem? (i := 987) (by decide +kernel)), rfl⟩
theorem kI_X6_tear : Cond.instanceMethod yX6_tear ∈ zG := List.mem_filter.mpr ⟨List.mem_append_right _ (List.mem_of_getElem? (i := 988) (by decide +kernel)), rfl⟩
theorem kS_X6_tear : Cond.selects RX6 yX6_tear yX6_tear ∈ zG := List.mem_filter.mpr ⟨List.mem_append_right _ (List.mem_of_getElem? (i := 989) (by decide +kernel)), rfl⟩
theorem kD_X6_tear : Cond.code yX6_tear cX6_tear 2 (some .int) ∈ zG := List.mem_filter.mpr ⟨List.mem_append_right _ (List.mem_of_getElem? (i := 990) (by decide +kernel)), rfl⟩
theorem kM_L_166 : Cond.methodLink RL 166 yX6_count ∈ zG := List.mem_filter.mpr ⟨List.mem_append_right _ (List.mem_of_getElem? (i := 991) (by decide +kernel)), rfl⟩
theorem kI_X6_count : Cond.instanceMethod yX6_count ∈ zG := List.mem_filter.mpr ⟨List.mem_append_right _ (List.mem_of_getElem? (i := 992) (by decide +kernel)), rfl⟩
theorem kS_X6_count : Cond.selects RX6 yX6_count yX6_count ∈ zG := List.mem_filter.mpr ⟨List.mem_append_right _ (List.mem_of_getElem? (i := 993) (by decide +kernel)), rfl⟩
theorem kD_X6_count : Cond.code yX6_count cX6_count 2 (some .int) ∈ zG := List.mem_filter.mpr ⟨List.mem_append_right _ (List.mem_of_getElem? (i := 994) (by decide +kernel)), rfl⟩
theorem kM_L_170 : Cond.methodLink RL 170 yX6_status ∈ zG := List.mem_filter.mpr ⟨List.mem_append_right _ (List.mem_of_getElem? (i := 995) (by decide +kernel)), rfl⟩
theorem kI_X6_status : Cond.instanceMethod yX6_status ∈ zG := List.mem_filter.mpr ⟨List.mem_append_right _ (List.mem_of_getElem? (i := 996) (by decide +kernel)), rfl⟩
theorem kS_X6_status : Cond.selects RX6 yX6_status yX6_status ∈ zG := List.mem_filter.mpr ⟨List.mem_append_right _ (List.mem_of_getElem? (i := 997) (by decide +kernel)), rfl⟩
theorem kD_X6_status : Cond.code yX6_status cX6_status 4 (some .int) ∈ zG := List.mem_filter.mpr ⟨List.mem_append_right _ (List.mem_of_getElem? (i := 998) (by decide +kernel)), rfl⟩
theorem kK_L_131 : Cond.constantLong RL 131 (4294967295 : Int64) ∈ zG := List.mem_filter.mpr ⟨List.mem_append_right _ (List.mem_of_getElem? (i := 999) (by decide +kernel)), rfl⟩
theorem kS_X5_finding : Cond.selects RX5 yX5_finding yX5_finding ∈ zG := List.mem_filter.mpr ⟨List.mem_append_left _ (List.mem_of_getElem? (i := 0) (by decide +kernel)), rfl⟩
theorem kS_X4_begin : Cond.selects RX4 yX4_begin yX4_begin ∈ zG := List.mem_filter.mpr ⟨List.mem_append_left _ (List.mem_of_getElem? (i := 1) (by decide +kernel)), rfl⟩
theorem kS_X4_sum : Cond.selects RX4 yX4_sum yX4_sum ∈ zG := List.mem_filter.mpr ⟨List.mem_append_left _ (List.mem_of_getElem? (i := 2) (by decide +kernel)), rfl⟩
theorem kS_X4_product : Cond.selects RX4 yX4_product yX4_product ∈ zG := List.mem_filter.mpr ⟨List.mem_append_left _ (List.mem_of_getElem? (i := 3) (by decide +kernel)), rfl⟩
theorem kS_X4_factor : Cond.selects RX4 yX4_factor yX4_factor ∈ zG := List.mem_filter.mpr ⟨List.mem_append_left _ (List.mem_of_getElem? (i := 4) (by decide +kernel)), rfl⟩
theorem kS_X4_pass : Cond.selects RX4 yX4_pass yX4_pass ∈ zG := List.mem_filter.mpr ⟨List.mem_append_left _ (List.mem_of_getElem? (i := 5) (by decide +kernel)), rfl⟩
theorem kS_X4_named : Cond.selects RX4 yX4_named yX4_named ∈ zG := List.mem_filter.mpr ⟨List.mem_append_left _ (List.mem_of_getElem? (i := 6) (by decide +kernel)), rfl⟩
theorem kS_X2_round : Cond.selects RX2 yX2_round yX2_round ∈ zG := List.mem_filter.mpr ⟨List.mem_append_left _ (List.mem_of_getElem? (i := 7) (by decide +kernel)), rfl⟩
theorem kS_X6_no : Cond.selects RX6 yX6_no yX6_no ∈ zG := List.mem_filter.mpr ⟨List.mem_append_left _ (List.mem_of_getElem? (i := 8) (by decide +kernel)), rfl⟩
theorem kS_X6_become : Cond.selects RX6 yX6_become yX6_become ∈ zG := List.mem_filter.mpr ⟨List.mem_append_left _ (List.mem_of_getElem? (i := 9) (by decide +kernel)), rfl⟩
theorem kS_X6_at : Cond.selects RX6 yX6_at yX6_at ∈ zG := List.mem_filter.mpr ⟨List.mem_append_left _ (List.mem_of_getElem? (i := 10) (by decide +kernel)), rfl⟩
theorem kS_X6_isBlock : Cond.selects RX6 yX6_isBlock yX6_isBlock ∈ zG := List.mem_filter.mpr ⟨List.mem_append_left _ (List.mem_of_getElem? (i := 11) (by decide +kernel)), rfl⟩
theorem kS_X6_pull : Cond.selects RX6 yX6_pull yX6_pull ∈ zG := List.mem_filter.mpr ⟨List.mem_append_left _ (List.mem_of_getElem? (i := 12) (by decide +kernel)), rfl⟩
theorem kS_X6_placeOf : Cond.selects RX6 yX6_placeOf yX6_placeOf ∈ zG := List.mem_filter.mpr ⟨List.mem_append_left _ (List.mem_of_getElem? (i := 13) (by decide +kernel)), rfl⟩
theorem kS_X6_isLast : Cond.selects RX6 yX6_isLast yX6_isLast ∈ zG := List.mem_filter.mpr ⟨List.mem_append_left _ (List.mem_of_getElem? (i := 14) (by decide +kernel)), rfl⟩
theorem kS_X6_holdsOf : Cond.selects RX6 yX6_holdsOf yX6_holdsOf ∈ zG := List.mem_filter.mpr ⟨List.mem_append_left _ (List.mem_of_getElem? (i := 15) (by decide +kernel)), rfl⟩
theorem kS_X6_plainHolds : Cond.selects RX6 yX6_plainHolds yX6_plainHolds ∈ zG := List.mem_filter.mpr ⟨List.mem_append_left _ (List.mem_of_getElem? (i := 16) (by decide +kernel)), rfl⟩
theorem kS_X6_given : Cond.selects RX6 yX6_given yX6_given ∈ zG := List.mem_filter.mpr ⟨List.mem_append_left _ (List.mem_of_getElem? (i := 17) (by decide +kernel)), rfl⟩
theorem kS_X6_worthOf : Cond.selects RX6 yX6_worthOf yX6_worthOf ∈ zG := List.mem_filter.mpr ⟨List.mem_append_left _ (List.mem_of_getElem? (i := 18) (by decide +kernel)), rfl⟩
theorem kS_X6_rubsOf : Cond.selects RX6 yX6_rubsOf yX6_rubsOf ∈ zG := List.mem_filter.mpr ⟨List.mem_append_left _ (List.mem_of_getElem? (i := 19) (by decide +kernel)), rfl⟩
theorem kS_X6_tick : Cond.selects RX6 yX6_tick yX6_tick ∈ zG := List.mem_filter.mpr ⟨List.mem_append_left _ (List.mem_of_getElem? (i := 20) (by decide +kernel)), rfl⟩
theorem kS_X6_round : Cond.selects RX6 yX6_round yX6_round ∈ zG := List.mem_filter.mpr ⟨List.mem_append_left _ (List.mem_of_getElem? (i := 21) (by decide +kernel)), rfl⟩
theorem kS_X6_stepsOf : Cond.selects RX6 yX6_stepsOf yX6_stepsOf ∈ zG := List.mem_filter.mpr ⟨List.mem_append_left _ (List.mem_of_getElem? (i := 22) (by decide +kernel)), rfl⟩
theorem kS_X6_springs : Cond.selects RX6 yX6_springs yX6_springs ∈ zG := List.mem_filter.mpr ⟨List.mem_append_left _ (List.mem_of_getElem? (i := 23) (by decide +kernel)), rfl⟩
theorem kS_X6_books : Cond.selects RX6 yX6_books yX6_books ∈ zG := List.mem_filter.mpr ⟨List.mem_append_left _ (List.mem_of_getElem? (i := 24) (by decide +kernel)), rfl⟩
theorem kS_X6_goes : Cond.selects RX6 yX6_goes yX6_goes ∈ zG := List.mem_filter.mpr ⟨List.mem_append_left _ (List.mem_of_getElem? (i := 25) (by decide +kernel)), rfl⟩
theorem kS_X6_jumps : Cond.selects RX6 yX6_jumps yX6_jumps ∈ zG := List.mem_filter.mpr ⟨List.mem_append_left _ (List.mem_of_getElem? (i := 26) (by decide +kernel)), rfl⟩
theorem kS_X6_greatest : Cond.selects RX6 yX6_greatest yX6_greatest ∈ zG := List.mem_filter.mpr ⟨List.mem_append_left _ (List.mem_of_getElem? (i := 27) (by decide +kernel)), rfl⟩
theorem kS_X6_leastSo : Cond.selects RX6 yX6_leastSo yX6_leastSo ∈ zG := List.mem_filter.mpr ⟨List.mem_append_left _ (List.mem_of_getElem? (i := 28) (by decide +kernel)), rfl⟩
theorem kS_X6_isSo : Cond.selects RX6 yX6_isSo yX6_isSo ∈ zG := List.mem_filter.mpr ⟨List.mem_append_left _ (List.mem_of_getElem? (i := 29) (by decide +kernel)), rfl⟩
theorem kS_X6_longOf : Cond.selects RX6 yX6_longOf yX6_longOf ∈ zG := List.mem_filter.mpr ⟨List.mem_append_left _ (List.mem_of_getElem? (i := 30) (by decide +kernel)), rfl⟩
theorem kS_X6_gives : Cond.selects RX6 yX6_gives yX6_gives ∈ zG := List.mem_filter.mpr ⟨List.mem_append_left _ (List.mem_of_getElem? (i := 31) (by decide +kernel)), rfl⟩
theorem kS_X6_sum : Cond.selects RX6 yX6_sum yX6_sum ∈ zG := List.mem_filter.mpr ⟨List.mem_append_left _ (List.mem_of_getElem? (i := 32) (by decide +kernel)), rfl⟩
theorem kS_X6_term : Cond.selects RX6 yX6_term yX6_term ∈ zG := List.mem_filter.mpr ⟨List.mem_append_left _ (List.mem_of_getElem? (i := 33) (by decide +kernel)), rfl⟩
theorem kS_X6_factor : Cond.selects RX6 yX6_factor yX6_factor ∈ zG := List.mem_filter.mpr ⟨List.mem_append_left _ (List.mem_of_getElem? (i := 34) (by decide +kernel)), rfl⟩
theorem kS_X6_byteAt : Cond.selects RX6 yX6_byteAt yX6_byteAt ∈ zG := List.mem_filter.mpr ⟨List.mem_append_left _ (List.mem_of_getElem? (i := 35) (by decide +kernel)), rfl⟩
theorem kS_X6_number : Cond.selects RX6 yX6_number yX6_number ∈ zG := List.mem_filter.mpr ⟨List.mem_append_left _ (List.mem_of_getElem? (i := 36) (by decide +kernel)), rfl⟩
theorem kS_X6_emit : Cond.selects RX6 yX6_emit yX6_emit ∈ zG := List.mem_filter.mpr ⟨List.mem_append_left _ (List.mem_of_getElem? (i := 37) (by decide +kernel)), rfl⟩
theorem kS_X6_opens : Cond.selects RX6 yX6_opens yX6_opens ∈ zG := List.mem_filter.mpr ⟨List.mem_append_left _ (List.mem_of_getElem? (i := 38) (by decide +kernel)), rfl⟩
theorem kS_X6_fails : Cond.selects RX6 yX6_fails yX6_fails ∈ zG := List.mem_filter.mpr ⟨List.mem_append_left _ (List.mem_of_getElem? (i := 39) (by decide +kernel)), rfl⟩
theorem kS_X6_must : Cond.selects RX6 yX6_must yX6_must ∈ zG := List.mem_filter.mpr ⟨List.mem_append_left _ (List.mem_of_getElem? (i := 40) (by decide +kernel)), rfl⟩
theorem kS_X6_may : Cond.selects RX6 yX6_may yX6_may ∈ zG := List.mem_filter.mpr ⟨List.mem_append_left _ (List.mem_of_getElem? (i := 41) (by decide +kernel)), rfl⟩
theorem kW_X0 : ∀ w ∈ wsX00, w ∈ zG := fun w h => List.mem_filter.mpr ⟨(by decide +kernel : ∀ w ∈ wsX00, w ∈ lw_tbl) w h, List.all_eq_true.mp (by decide +kernel : wsX00.all goodWord = true) w h⟩
theorem kW_X1 : ∀ w ∈ wsX10, w ∈ zG := fun w h => List.mem_filter.mpr ⟨(by decide +kernel : ∀ w ∈ wsX10, w ∈ lw_tbl) w h, List.all_eq_true.mp (by decide +kernel : wsX10.all goodWord = true) w h⟩
theorem kW_X2 : ∀ w ∈ wsX20, w ∈ zG := fun w h => List.mem_filter.mpr ⟨(by decide +kernel : ∀ w ∈ wsX20, w ∈ lw_tbl) w h, List.all_eq_true.mp (by decide +kernel : wsX20.all goodWord = true) w h⟩
theorem kW_X3 : ∀ w ∈ wsX30, w ∈ zG := fun w h => List.mem_filter.mpr ⟨(by decide +kernel : ∀ w ∈ wsX30, w ∈ lw_tbl) w h, List.all_eq_true.mp (by decide +kernel : wsX30.all goodWord = true) w h⟩
theorem kW_X4 : ∀ w ∈ wsX40, w ∈ zG := fun w h => List.mem_filter.mpr ⟨(by decide +kernel : ∀ w ∈ wsX40, w ∈ lw_tbl) w h, List.all_eq_true.mp (by decide +kernel : wsX40.all goodWord = true) w h⟩
theorem kW_X5 : ∀ w ∈ wsX50, w ∈ zG := fun w h => List.mem_filter.mpr ⟨(by decide +kernel : ∀ w ∈ wsX50, w ∈ lw_tbl) w h, List.all_eq_true.mp (by decide +kernel : wsX50.all goodWord = true) w h⟩
theorem kW_X6 : ∀ w ∈ wsX60, w ∈ zG := fun w h => List.mem_filter.mpr ⟨(by decide +kernel : ∀ w ∈ wsX60, w ∈ lw_tbl) w h, List.all_eq_true.mp (by decide +kernel : wsX60.all goodWord = true) w h⟩
/-- the words of nest mates: each about private members of another class of the same nest -/
def zNest : List Cond := [Cond.methodLinkNest RX2 29 yX4_init RX5,
  Cond.fieldLinkNest RX5 180 RX4 "bytes" "[I" RX5,
  Cond.fieldLinkNest RX2 71 RX4 "length" "I" RX5,
  Cond.fieldLinkNest RX5 179 RX4 "length" "I" RX5,
  Cond.methodLinkNest RX2 47 yX0_init RX5,
  Cond.fieldLinkNest RX5 82 RX0 "kind" "I" RX5,
  Cond.fieldLinkNest RX2 61 RX0 "kind" "I" RX5,
  Cond.fieldLinkNest RX5 85 RX0 "hold" "I" RX5,
  Cond.fieldLinkNest RX4 41 RX0 "hold" "I" RX5,
  Cond.fieldLinkNest RX2 72 RX0 "hold" "I" RX5,
  Cond.fieldLinkNest RX5 88 RX0 "go" "I" RX5,
  Cond.fieldLinkNest RX4 47 RX0 "go" "I" RX5,
  Cond.fieldLinkNest RX5 91 RX0 "stiff" "I" RX5,
  Cond.fieldLinkNest RX2 58 RX0 "stiff" "I" RX5,
  Cond.fieldLinkNest RX5 94 RX0 "drops" "I" RX5,
  Cond.fieldLinkNest RX4 54 RX0 "drops" "I" RX5,
  Cond.fieldLinkNest RX2 88 RX0 "drops" "I" RX5,
  Cond.fieldLinkNest RX5 97 RX0 "place" "I" RX5,
  Cond.fieldLinkNest RX2 55 RX0 "place" "I" RX5,
  Cond.fieldLinkNest RX5 100 RX0 "stood" "I" RX5,
  Cond.fieldLinkNest RX2 94 RX0 "stood" "I" RX5,
  Cond.fieldLinkNest RX2 114 RX0 "pull" "I" RX5,
  Cond.fieldLinkNest RX2 120 RX0 "steps" "I" RX5,
  Cond.fieldLinkNest RX5 68 RX2 "blocks" "[LDoorCreaks$Block;" RX5,
  Cond.fieldLinkNest RX5 63 RX2 "length" "I" RX5,
  Cond.fieldLinkNest RX5 229 RX2 "hand" "I" RX5,
  Cond.fieldLinkNest RX5 126 RX2 "pace" "I" RX5,
  Cond.fieldLinkNest RX5 187 RX2 "law" "LDoorCreaks$Text;" RX5,
  Cond.fieldLinkNest RX1 49 RX2 "size" "I" RX5,
  Cond.fieldLinkNest RX5 136 RX2 "size" "I" RX5,
  Cond.fieldLinkNest RX1 54 RX2 "wide" "I" RX5,
  Cond.fieldLinkNest RX5 176 RX2 "wide" "I" RX5,
  Cond.fieldLinkNest RX1 57 RX2 "noise" "I" RX5,
  Cond.fieldLinkNest RX5 162 RX2 "noise" "I" RX5,
  Cond.fieldLinkNest RX1 67 RX2 "chatters" "Z" RX5,
  Cond.methodLinkNest RX5 24 yX1_init RX5,
  Cond.fieldLinkNest RX5 140 RX1 "sizes" "[I" RX5,
  Cond.fieldLinkNest RX5 146 RX1 "wides" "[I" RX5,
  Cond.fieldLinkNest RX5 149 RX1 "noises" "[I" RX5,
  Cond.fieldLinkNest RX5 152 RX1 "classes" "[I" RX5,
  Cond.fieldLinkNest RX5 139 RX1 "length" "I" RX5,
  Cond.fieldLinkNest RX5 223 RX1 "ticks" "I" RX5,
  Cond.fieldLinkNest RX5 226 RX1 "chattered" "I" RX5,
  Cond.methodLinkNest RX5 38 yX4_init RX5,
  Cond.methodLinkNest RX5 53 yX3_init RX5,
  Cond.fieldLinkNest RX5 172 RX3 "numbers" "[J" RX5,
  Cond.fieldLinkNest RX5 204 RX3 "bits" "I" RX5,
  Cond.fieldLinkNest RX5 170 RX3 "length" "I" RX5]
theorem kN_X2_29 : Cond.methodLinkNest RX2 29 yX4_init RX5 ∈ zNest := List.mem_of_getElem? (i := 0) rfl
theorem kN_X5_180 : Cond.fieldLinkNest RX5 180 RX4 "bytes" "[I" RX5 ∈ zNest := List.mem_of_getElem? (i := 1) rfl
theorem kN_X2_71 : Cond.fieldLinkNest RX2 71 RX4 "length" "I" RX5 ∈ zNest := List.mem_of_getElem? (i := 2) rfl
theorem kN_X5_179 : Cond.fieldLinkNest RX5 179 RX4 "length" "I" RX5 ∈ zNest := List.mem_of_getElem? (i := 3) rfl
theorem kN_X2_47 : Cond.methodLinkNest RX2 47 yX0_init RX5 ∈ zNest := List.mem_of_getElem? (i := 4) rfl
theorem kN_X5_82 : Cond.fieldLinkNest RX5 82 RX0 "kind" "I" RX5 ∈ zNest := List.mem_of_getElem? (i := 5) rfl
theorem kN_X2_61 : Cond.fieldLinkNest RX2 61 RX0 "kind" "I" RX5 ∈ zNest := List.mem_of_getElem? (i := 6) rfl
theorem kN_X5_85 : Cond.fieldLinkNest RX5 85 RX0 "hold" "I" RX5 ∈ zNest := List.mem_of_getElem? (i := 7) rfl
theorem kN_X4_41 : Cond.fieldLinkNest RX4 41 RX0 "hold" "I" RX5 ∈ zNest := List.mem_of_getElem? (i := 8) rfl
theorem kN_X2_72 : Cond.fieldLinkNest RX2 72 RX0 "hold" "I" RX5 ∈ zNest := List.mem_of_getElem? (i := 9) rfl
theorem kN_X5_88 : Cond.fieldLinkNest RX5 88 RX0 "go" "I" RX5 ∈ zNest := List.mem_of_getElem? (i := 10) rfl
theorem kN_X4_47 : Cond.fieldLinkNest RX4 47 RX0 "go" "I" RX5 ∈ zNest := List.mem_of_getElem? (i := 11) rfl
theorem kN_X5_91 : Cond.fieldLinkNest RX5 91 RX0 "stiff" "I" RX5 ∈ zNest := List.mem_of_getElem? (i := 12) rfl
theorem kN_X2_58 : Cond.fieldLinkNest RX2 58 RX0 "stiff" "I" RX5 ∈ zNest := List.mem_of_getElem? (i := 13) rfl
theorem kN_X5_94 : Cond.fieldLinkNest RX5 94 RX0 "drops" "I" RX5 ∈ zNest := List.mem_of_getElem? (i := 14) rfl
theorem kN_X4_54 : Cond.fieldLinkNest RX4 54 RX0 "drops" "I" RX5 ∈ zNest := List.mem_of_getElem? (i := 15) rfl
theorem kN_X2_88 : Cond.fieldLinkNest RX2 88 RX0 "drops" "I" RX5 ∈ zNest := List.mem_of_getElem? (i := 16) rfl
theorem kN_X5_97 : Cond.fieldLinkNest RX5 97 RX0 "place" "I" RX5 ∈ zNest := List.mem_of_getElem? (i := 17) rfl
theorem kN_X2_55 : Cond.fieldLinkNest RX2 55 RX0 "place" "I" RX5 ∈ zNest := List.mem_of_getElem? (i := 18) rfl
theorem kN_X5_100 : Cond.fieldLinkNest RX5 100 RX0 "stood" "I" RX5 ∈ zNest := List.mem_of_getElem? (i := 19) rfl
theorem kN_X2_94 : Cond.fieldLinkNest RX2 94 RX0 "stood" "I" RX5 ∈ zNest := List.mem_of_getElem? (i := 20) rfl
theorem kN_X2_114 : Cond.fieldLinkNest RX2 114 RX0 "pull" "I" RX5 ∈ zNest := List.mem_of_getElem? (i := 21) rfl
theorem kN_X2_120 : Cond.fieldLinkNest RX2 120 RX0 "steps" "I" RX5 ∈ zNest := List.mem_of_getElem? (i := 22) rfl
theorem kN_X5_68 : Cond.fieldLinkNest RX5 68 RX2 "blocks" "[LDoorCreaks$Block;" RX5 ∈ zNest := List.mem_of_getElem? (i := 23) rfl
theorem kN_X5_63 : Cond.fieldLinkNest RX5 63 RX2 "length" "I" RX5 ∈ zNest := List.mem_of_getElem? (i := 24) rfl
theorem kN_X5_229 : Cond.fieldLinkNest RX5 229 RX2 "hand" "I" RX5 ∈ zNest := List.mem_of_getElem? (i := 25) rfl
theorem kN_X5_126 : Cond.fieldLinkNest RX5 126 RX2 "pace" "I" RX5 ∈ zNest := List.mem_of_getElem? (i := 26) rfl
theorem kN_X5_187 : Cond.fieldLinkNest RX5 187 RX2 "law" "LDoorCreaks$Text;" RX5 ∈ zNest := List.mem_of_getElem? (i := 27) rfl
theorem kN_X1_49 : Cond.fieldLinkNest RX1 49 RX2 "size" "I" RX5 ∈ zNest := List.mem_of_getElem? (i := 28) rfl
theorem kN_X5_136 : Cond.fieldLinkNest RX5 136 RX2 "size" "I" RX5 ∈ zNest := List.mem_of_getElem? (i := 29) rfl
theorem kN_X1_54 : Cond.fieldLinkNest RX1 54 RX2 "wide" "I" RX5 ∈ zNest := List.mem_of_getElem? (i := 30) rfl
theorem kN_X5_176 : Cond.fieldLinkNest RX5 176 RX2 "wide" "I" RX5 ∈ zNest := List.mem_of_getElem? (i := 31) rfl
theorem kN_X1_57 : Cond.fieldLinkNest RX1 57 RX2 "noise" "I" RX5 ∈ zNest := List.mem_of_getElem? (i := 32) rfl
theorem kN_X5_162 : Cond.fieldLinkNest RX5 162 RX2 "noise" "I" RX5 ∈ zNest := List.mem_of_getElem? (i := 33) rfl
theorem kN_X1_67 : Cond.fieldLinkNest RX1 67 RX2 "chatters" "Z" RX5 ∈ zNest := List.mem_of_getElem? (i := 34) rfl
theorem kN_X5_24 : Cond.methodLinkNest RX5 24 yX1_init RX5 ∈ zNest := List.mem_of_getElem? (i := 35) rfl
theorem kN_X5_140 : Cond.fieldLinkNest RX5 140 RX1 "sizes" "[I" RX5 ∈ zNest := List.mem_of_getElem? (i := 36) rfl
theorem kN_X5_146 : Cond.fieldLinkNest RX5 146 RX1 "wides" "[I" RX5 ∈ zNest := List.mem_of_getElem? (i := 37) rfl
theorem kN_X5_149 : Cond.fieldLinkNest RX5 149 RX1 "noises" "[I" RX5 ∈ zNest := List.mem_of_getElem? (i := 38) rfl
theorem kN_X5_152 : Cond.fieldLinkNest RX5 152 RX1 "classes" "[I" RX5 ∈ zNest := List.mem_of_getElem? (i := 39) rfl
theorem kN_X5_139 : Cond.fieldLinkNest RX5 139 RX1 "length" "I" RX5 ∈ zNest := List.mem_of_getElem? (i := 40) rfl
theorem kN_X5_223 : Cond.fieldLinkNest RX5 223 RX1 "ticks" "I" RX5 ∈ zNest := List.mem_of_getElem? (i := 41) rfl
theorem kN_X5_226 : Cond.fieldLinkNest RX5 226 RX1 "chattered" "I" RX5 ∈ zNest := List.mem_of_getElem? (i := 42) rfl
theorem kN_X5_38 : Cond.methodLinkNest RX5 38 yX4_init RX5 ∈ zNest := List.mem_of_getElem? (i := 43) rfl
theorem kN_X5_53 : Cond.methodLinkNest RX5 53 yX3_init RX5 ∈ zNest := List.mem_of_getElem? (i := 44) rfl
theorem kN_X5_172 : Cond.fieldLinkNest RX5 172 RX3 "numbers" "[J" RX5 ∈ zNest := List.mem_of_getElem? (i := 45) rfl
theorem kN_X5_204 : Cond.fieldLinkNest RX5 204 RX3 "bits" "I" RX5 ∈ zNest := List.mem_of_getElem? (i := 46) rfl
theorem kN_X5_170 : Cond.fieldLinkNest RX5 170 RX3 "length" "I" RX5 ∈ zNest := List.mem_of_getElem? (i := 47) rfl
theorem zNest_tbl : ∀ w ∈ zNest, w ∈ lw_tbl := by decide +kernel
def zIsN : Cond → Bool := fun w => match w with
  | .fieldLinkNest .. => true
  | .methodLinkNest .. => true
  | _ => false
theorem zNest_is : ∀ w ∈ zNest, zIsN w = true := fun w h => List.all_eq_true.mp (by decide +kernel : zNest.all zIsN = true) w h
