/-! the law's words: each in lw_tbl, by its place -/
theorem m_1 {w : Cond} (h : w ∈ tables_1_1) : w ∈ lw_tbl := List.mem_append_right _ (List.mem_append_left _ h)
theorem m_2 {w : Cond} (h : w ∈ tables_1_2) : w ∈ lw_tbl := List.mem_append_right _ (List.mem_append_right _ (List.mem_append_left _ h))
theorem m_3 {w : Cond} (h : w ∈ tables_1_3) : w ∈ lw_tbl := List.mem_append_right _ (List.mem_append_right _ (List.mem_append_right _ h))
theorem m_sel {q : MethodName × Nat} (h : q ∈ lw_privs) : Cond.selects q.1.cls q.1 q.1 ∈ lw_tbl := List.mem_append_left _ (List.mem_map.mpr ⟨q, h, rfl⟩)
theorem m_s1 {q : MethodName × Nat} (h : q ∈ lw_privs_1) : Cond.selects q.1.cls q.1 q.1 ∈ lw_tbl := m_sel (List.mem_append_left _ h)
theorem m_s2 {q : MethodName × Nat} (h : q ∈ lw_privs_2) : Cond.selects q.1.cls q.1 q.1 ∈ lw_tbl := m_sel (List.mem_append_right _ h)
theorem goodIn_m {big ws : List Cond} (h1 : ∀ w ∈ ws, w ∈ big) (h2 : ws.all goodWord = true) : GoodIn big ws := fun w hw => ⟨h1 w hw, good_of_word (List.all_eq_true.mp h2 w hw)⟩
set_option maxRecDepth 20000 in
theorem wm_0 : Cond.code yX4_init cX4_init 1 none ∈ lw_tbl := m_1 (List.mem_of_getElem? (i := 13) rfl)
set_option maxRecDepth 20000 in
theorem wm_1 : Cond.code yX0_init cX0_init 2 none ∈ lw_tbl := m_1 (List.mem_of_getElem? (i := 21) rfl)
set_option maxRecDepth 20000 in
theorem wm_2 : Cond.instanceMethod yX0_init ∈ lw_tbl := m_1 (List.mem_of_getElem? (i := 20) rfl)
set_option maxRecDepth 20000 in
theorem wm_3 : Cond.methodLink RX4 11 yX0_init ∈ lw_tbl := m_1 (List.mem_of_getElem? (i := 19) rfl)
set_option maxRecDepth 20000 in
theorem wm_4 : Cond.fieldLink RX4 40 "GrooveTurns" "slots" "[LGrooveTurns$Disc;" ∈ lw_tbl := m_1 (List.mem_of_getElem? (i := 130) rfl)
set_option maxRecDepth 20000 in
theorem wm_5 : Cond.fieldLink RX4 36 "GrooveTurns" "history" "LGrooveTurns$History;" ∈ lw_tbl := m_1 (List.mem_of_getElem? (i := 129) rfl)
set_option maxRecDepth 20000 in
theorem wm_6 : Cond.initialized RX1 ∈ lw_tbl := m_1 (List.mem_of_getElem? (i := 8) rfl)
set_option maxRecDepth 20000 in
theorem wm_7 : Cond.instantiable RX1 3 ∈ lw_tbl := m_1 (List.mem_of_getElem? (i := 107) rfl)
set_option maxRecDepth 20000 in
theorem wm_8 : Cond.classLink RX4 33 RX1 ∈ lw_tbl := m_1 (List.mem_of_getElem? (i := 106) rfl)
set_option maxRecDepth 20000 in
theorem wm_9 : Cond.fieldLink RX4 29 "GrooveTurns" "requests" "LGrooveTurns$Requests;" ∈ lw_tbl := m_1 (List.mem_of_getElem? (i := 128) rfl)
set_option maxRecDepth 20000 in
theorem wm_10 : Cond.initialized RX3 ∈ lw_tbl := m_1 (List.mem_of_getElem? (i := 7) rfl)
set_option maxRecDepth 20000 in
theorem wm_11 : Cond.instantiable RX3 5 ∈ lw_tbl := m_1 (List.mem_of_getElem? (i := 85) rfl)
set_option maxRecDepth 20000 in
theorem wm_12 : Cond.classLink RX4 26 RX3 ∈ lw_tbl := m_1 (List.mem_of_getElem? (i := 84) rfl)
set_option maxRecDepth 20000 in
theorem wm_13 : Cond.fieldLink RX4 22 "GrooveTurns" "pad" "LGrooveTurns$Pad;" ∈ lw_tbl := m_1 (List.mem_of_getElem? (i := 127) rfl)
set_option maxRecDepth 20000 in
theorem wm_14 : Cond.initialized RX2 ∈ lw_tbl := m_1 (List.mem_of_getElem? (i := 6) rfl)
set_option maxRecDepth 20000 in
theorem wm_15 : Cond.instantiable RX2 2 ∈ lw_tbl := m_1 (List.mem_of_getElem? (i := 70) rfl)
set_option maxRecDepth 20000 in
theorem wm_16 : Cond.classLink RX4 19 RX2 ∈ lw_tbl := m_1 (List.mem_of_getElem? (i := 69) rfl)
set_option maxRecDepth 20000 in
theorem wm_17 : Cond.fieldLink RX4 16 "GrooveTurns" "trial" "LGrooveTurns$Disc;" ∈ lw_tbl := m_1 (List.mem_of_getElem? (i := 126) rfl)
set_option maxRecDepth 20000 in
theorem wm_18 : Cond.fieldLink RX4 12 "GrooveTurns" "disc" "LGrooveTurns$Disc;" ∈ lw_tbl := m_1 (List.mem_of_getElem? (i := 125) rfl)
set_option maxRecDepth 20000 in
theorem wm_19 : Cond.initialized RX0 ∈ lw_tbl := m_1 (List.mem_of_getElem? (i := 2) rfl)
set_option maxRecDepth 20000 in
theorem wm_20 : Cond.instantiable RX0 9 ∈ lw_tbl := m_1 (List.mem_of_getElem? (i := 18) rfl)
set_option maxRecDepth 20000 in
theorem wm_21 : Cond.classLink RX4 9 RX0 ∈ lw_tbl := m_1 (List.mem_of_getElem? (i := 17) rfl)
set_option maxRecDepth 20000 in
theorem wm_22 : Cond.code objectInit ⟨#[0xb1]⟩ 1 none ∈ lw_tbl := m_1 (List.mem_of_getElem? (i := 16) rfl)
set_option maxRecDepth 20000 in
theorem wm_23 : Cond.instanceMethod objectInit ∈ lw_tbl := m_1 (List.mem_of_getElem? (i := 15) rfl)
set_option maxRecDepth 20000 in
theorem wm_24 : Cond.methodLink RX4 3 objectInit ∈ lw_tbl := m_1 (List.mem_of_getElem? (i := 14) rfl)
set_option maxRecDepth 20000 in
theorem wm_25 : Cond.static yJ7_fill_53178 ∈ lw_tbl := m_1 (List.mem_of_getElem? (i := 35) rfl)
set_option maxRecDepth 20000 in
theorem wm_26 : Cond.methodLink RX0 47 yJ7_fill_53178 ∈ lw_tbl := m_1 (List.mem_of_getElem? (i := 34) rfl)
set_option maxRecDepth 20000 in
theorem wm_27 : Cond.initialized "java/lang/System" ∈ lw_tbl := m_1 (List.mem_of_getElem? (i := 4) rfl)
set_option maxRecDepth 20000 in
theorem wm_28 : Cond.static arraycopyName ∈ lw_tbl := m_1 (List.mem_of_getElem? (i := 32) rfl)
set_option maxRecDepth 20000 in
theorem wm_29 : Cond.native arraycopyName ∈ lw_tbl := m_1 (List.mem_of_getElem? (i := 33) rfl)
set_option maxRecDepth 20000 in
theorem wm_30 : Cond.methodLink RX4 205 arraycopyName ∈ lw_tbl := m_1 (List.mem_of_getElem? (i := 31) rfl)
set_option maxRecDepth 20000 in
theorem wm_31 : Cond.code Lib.Math.min.name Lib.Math.min.code 2 (some .int) ∈ lw_tbl := m_1 (List.mem_of_getElem? (i := 30) rfl)
set_option maxRecDepth 20000 in
theorem wm_32 : Cond.initialized "java/lang/Math" ∈ lw_tbl := m_1 (List.mem_of_getElem? (i := 3) rfl)
set_option maxRecDepth 20000 in
theorem wm_33 : Cond.static Lib.Math.min.name ∈ lw_tbl := m_1 (List.mem_of_getElem? (i := 29) rfl)
set_option maxRecDepth 20000 in
theorem wm_34 : Cond.methodLink RX4 200 Lib.Math.min.name ∈ lw_tbl := m_1 (List.mem_of_getElem? (i := 28) rfl)
set_option maxRecDepth 20000 in
theorem wm_35 : Cond.code yX4_copyRow cX4_copyRow 2 none ∈ lw_tbl := m_1 (List.mem_of_getElem? (i := 27) rfl)
set_option maxRecDepth 20000 in
theorem wm_36 : Cond.initialized RX4 ∈ lw_tbl := m_1 (List.mem_of_getElem? (i := 1) rfl)
set_option maxRecDepth 20000 in
theorem wm_37 : Cond.static yX4_copyRow ∈ lw_tbl := m_1 (List.mem_of_getElem? (i := 26) rfl)
set_option maxRecDepth 20000 in
theorem wm_38 : Cond.fieldLink RX0 40 "GrooveTurns$Disc" "head" "I" ∈ lw_tbl := m_1 (List.mem_of_getElem? (i := 47) rfl)
set_option maxRecDepth 20000 in
theorem wm_39 : Cond.fieldLink RX0 37 "GrooveTurns$Disc" "ticks" "I" ∈ lw_tbl := m_1 (List.mem_of_getElem? (i := 45) rfl)
set_option maxRecDepth 20000 in
theorem wm_40 : Cond.fieldLink RX0 34 "GrooveTurns$Disc" "reads" "I" ∈ lw_tbl := m_1 (List.mem_of_getElem? (i := 43) rfl)
set_option maxRecDepth 20000 in
theorem wm_41 : Cond.fieldLink RX0 30 "GrooveTurns$Disc" "sparesTaken" "I" ∈ lw_tbl := m_1 (List.mem_of_getElem? (i := 42) rfl)
set_option maxRecDepth 20000 in
theorem wm_42 : Cond.fieldLink RX0 27 "GrooveTurns$Disc" "sectors" "[I" ∈ lw_tbl := m_1 (List.mem_of_getElem? (i := 41) rfl)
set_option maxRecDepth 20000 in
theorem wm_43 : Cond.fieldLink RX0 24 "GrooveTurns$Disc" "writings" "[I" ∈ lw_tbl := m_1 (List.mem_of_getElem? (i := 40) rfl)
set_option maxRecDepth 20000 in
theorem wm_44 : Cond.fieldLink RX0 21 "GrooveTurns$Disc" "blurs" "[I" ∈ lw_tbl := m_1 (List.mem_of_getElem? (i := 39) rfl)
set_option maxRecDepth 20000 in
theorem wm_45 : Cond.fieldLink RX0 18 "GrooveTurns$Disc" "numbers" "[I" ∈ lw_tbl := m_1 (List.mem_of_getElem? (i := 38) rfl)
set_option maxRecDepth 20000 in
theorem wm_46 : Cond.fieldLink RX0 13 "GrooveTurns$Disc" "settings" "[I" ∈ lw_tbl := m_1 (List.mem_of_getElem? (i := 37) rfl)
set_option maxRecDepth 20000 in
theorem wm_47 : Cond.arrayClass .int ∈ lw_tbl := m_1 (List.mem_of_getElem? (i := 68) rfl)
set_option maxRecDepth 20000 in
theorem wm_48 : Cond.methodLink RX0 3 objectInit ∈ lw_tbl := m_1 (List.mem_of_getElem? (i := 22) rfl)
set_option maxRecDepth 20000 in
theorem wm_49 : Cond.fieldLink RX1 21 "GrooveTurns$History" "size" "I" ∈ lw_tbl := m_1 (List.mem_of_getElem? (i := 116) rfl)
set_option maxRecDepth 20000 in
theorem wm_50 : Cond.fieldLink RX1 17 "GrooveTurns$History" "oldest" "I" ∈ lw_tbl := m_1 (List.mem_of_getElem? (i := 115) rfl)
set_option maxRecDepth 20000 in
theorem wm_51 : Cond.fieldLink RX1 11 "GrooveTurns$History" "ring" "[LGrooveTurns$Disc;" ∈ lw_tbl := m_1 (List.mem_of_getElem? (i := 114) rfl)
set_option maxRecDepth 20000 in
theorem wm_52 : Cond.classLink RX1 9 RX0 ∈ lw_tbl := m_1 (List.mem_of_getElem? (i := 112) rfl)
set_option maxRecDepth 20000 in
theorem wm_53 : Cond.methodLink RX1 3 objectInit ∈ lw_tbl := m_1 (List.mem_of_getElem? (i := 111) rfl)
set_option maxRecDepth 20000 in
theorem wm_54 : Cond.code yX1_init cX1_init 1 none ∈ lw_tbl := m_1 (List.mem_of_getElem? (i := 110) rfl)
set_option maxRecDepth 20000 in
theorem wm_55 : Cond.instanceMethod yX1_init ∈ lw_tbl := m_1 (List.mem_of_getElem? (i := 109) rfl)
set_option maxRecDepth 20000 in
theorem wm_56 : Cond.fieldLink RX3 25 "GrooveTurns$Requests" "place" "I" ∈ lw_tbl := m_1 (List.mem_of_getElem? (i := 94) rfl)
set_option maxRecDepth 20000 in
theorem wm_57 : Cond.fieldLink RX3 21 "GrooveTurns$Requests" "size" "I" ∈ lw_tbl := m_1 (List.mem_of_getElem? (i := 93) rfl)
set_option maxRecDepth 20000 in
theorem wm_58 : Cond.fieldLink RX3 18 "GrooveTurns$Requests" "tracks" "[I" ∈ lw_tbl := m_1 (List.mem_of_getElem? (i := 92) rfl)
set_option maxRecDepth 20000 in
theorem wm_59 : Cond.fieldLink RX3 15 "GrooveTurns$Requests" "numbers" "[I" ∈ lw_tbl := m_1 (List.mem_of_getElem? (i := 91) rfl)
set_option maxRecDepth 20000 in
theorem wm_60 : Cond.fieldLink RX3 9 "GrooveTurns$Requests" "addresses" "[I" ∈ lw_tbl := m_1 (List.mem_of_getElem? (i := 90) rfl)
set_option maxRecDepth 20000 in
theorem wm_61 : Cond.methodLink RX3 3 objectInit ∈ lw_tbl := m_1 (List.mem_of_getElem? (i := 89) rfl)
set_option maxRecDepth 20000 in
theorem wm_62 : Cond.code yX3_init cX3_init 1 none ∈ lw_tbl := m_1 (List.mem_of_getElem? (i := 88) rfl)
set_option maxRecDepth 20000 in
theorem wm_63 : Cond.instanceMethod yX3_init ∈ lw_tbl := m_1 (List.mem_of_getElem? (i := 87) rfl)
set_option maxRecDepth 20000 in
theorem wm_64 : Cond.fieldLink RX2 15 "GrooveTurns$Pad" "length" "I" ∈ lw_tbl := m_1 (List.mem_of_getElem? (i := 76) rfl)
set_option maxRecDepth 20000 in
theorem wm_65 : Cond.fieldLink RX2 9 "GrooveTurns$Pad" "signs" "[I" ∈ lw_tbl := m_1 (List.mem_of_getElem? (i := 75) rfl)
set_option maxRecDepth 20000 in
theorem wm_66 : Cond.methodLink RX2 3 objectInit ∈ lw_tbl := m_1 (List.mem_of_getElem? (i := 74) rfl)
set_option maxRecDepth 20000 in
theorem wm_67 : Cond.code yX2_init cX2_init 1 none ∈ lw_tbl := m_1 (List.mem_of_getElem? (i := 73) rfl)
set_option maxRecDepth 20000 in
theorem wm_68 : Cond.instanceMethod yX2_init ∈ lw_tbl := m_1 (List.mem_of_getElem? (i := 72) rfl)
set_option maxRecDepth 20000 in
theorem wm_69 : Cond.code yJ7_fill_53178 cJ7_fill_53178 4 none ∈ lw_tbl := m_1 (List.mem_of_getElem? (i := 36) rfl)
set_option maxRecDepth 20000 in
theorem wm_70 : Cond.initialized RJ7 ∈ lw_tbl := m_1 (List.mem_of_getElem? (i := 5) rfl)
set_option maxRecDepth 20000 in
theorem wm_71 : Cond.code yL_cell cL_cell 2 (some .int) ∈ lw_tbl := m_1 (List.mem_of_getElem? (i := 146) rfl)
set_option maxRecDepth 20000 in
theorem wm_72 : Cond.constant RL 7 (2144462787) ∈ lw_tbl := m_1 (List.mem_of_getElem? (i := 147) rfl)
set_option maxRecDepth 20000 in
theorem wm_73 : Cond.initialized RL ∈ lw_tbl := m_1 (List.mem_of_getElem? (i := 0) rfl)
set_option maxRecDepth 20000 in
theorem wm_74 : Cond.static yL_cell ∈ lw_tbl := m_1 (List.mem_of_getElem? (i := 145) rfl)
set_option maxRecDepth 20000 in
theorem wm_75 : Cond.methodLink RL 95 yL_cell ∈ lw_tbl := m_1 (List.mem_of_getElem? (i := 144) rfl)
set_option maxRecDepth 20000 in
theorem wm_76 : Cond.code yL_isStep cL_isStep 11 (some .boolean) ∈ lw_tbl := m_1 (List.mem_of_getElem? (i := 150) rfl)
set_option maxRecDepth 20000 in
theorem wm_77 : Cond.code yX0_settingOf cX0_settingOf 2 (some .int) ∈ lw_tbl := m_1 (List.mem_of_getElem? (i := 163) rfl)
set_option maxRecDepth 20000 in
theorem wm_78 : Cond.selects RX0 yX0_settingOf yX0_settingOf ∈ lw_tbl := m_1 (List.mem_of_getElem? (i := 162) rfl)
set_option maxRecDepth 20000 in
theorem wm_79 : Cond.instanceMethod yX0_settingOf ∈ lw_tbl := m_1 (List.mem_of_getElem? (i := 161) rfl)
set_option maxRecDepth 20000 in
theorem wm_80 : Cond.methodLink RX4 133 yX0_settingOf ∈ lw_tbl := m_1 (List.mem_of_getElem? (i := 160) rfl)
set_option maxRecDepth 20000 in
theorem wm_81 : Cond.fieldLink RX4 162 "GrooveTurns$History" "size" "I" ∈ lw_tbl := m_1 (List.mem_of_getElem? (i := 117) rfl)
set_option maxRecDepth 20000 in
theorem wm_82 : Cond.fieldLink RX4 159 "GrooveTurns$Pad" "length" "I" ∈ lw_tbl := m_1 (List.mem_of_getElem? (i := 78) rfl)
set_option maxRecDepth 20000 in
theorem wm_83 : Cond.fieldLink RX4 153 "GrooveTurns$Disc" "reads" "I" ∈ lw_tbl := m_1 (List.mem_of_getElem? (i := 44) rfl)
set_option maxRecDepth 20000 in
theorem wm_84 : Cond.fieldLink RX4 140 "GrooveTurns$Disc" "head" "I" ∈ lw_tbl := m_1 (List.mem_of_getElem? (i := 48) rfl)
set_option maxRecDepth 20000 in
theorem wm_85 : Cond.fieldLink RX4 136 "GrooveTurns$Disc" "ticks" "I" ∈ lw_tbl := m_1 (List.mem_of_getElem? (i := 46) rfl)
set_option maxRecDepth 20000 in
theorem wm_86 : Cond.fieldLink RX4 44 "GrooveTurns" "FIRST_SETTINGS" "[I" ∈ lw_tbl := m_1 (List.mem_of_getElem? (i := 159) rfl)
set_option maxRecDepth 20000 in
theorem wm_87 : Cond.code yX4_count cX4_count 2 (some .int) ∈ lw_tbl := m_1 (List.mem_of_getElem? (i := 158) rfl)
set_option maxRecDepth 20000 in
theorem wm_88 : Cond.selects RX4 yX4_count yX4_count ∈ lw_tbl := m_1 (List.mem_of_getElem? (i := 157) rfl)
set_option maxRecDepth 20000 in
theorem wm_89 : Cond.instanceMethod yX4_count ∈ lw_tbl := m_1 (List.mem_of_getElem? (i := 156) rfl)
set_option maxRecDepth 20000 in
theorem wm_90 : Cond.methodLink RL 42 yX4_count ∈ lw_tbl := m_1 (List.mem_of_getElem? (i := 155) rfl)
set_option maxRecDepth 20000 in
theorem wm_91 : Cond.constant RL 8 (2147483647) ∈ lw_tbl := m_1 (List.mem_of_getElem? (i := 154) rfl)
set_option maxRecDepth 20000 in
theorem wm_92 : Cond.code yL_up cL_up 2 (some .int) ∈ lw_tbl := m_1 (List.mem_of_getElem? (i := 153) rfl)
set_option maxRecDepth 20000 in
theorem wm_93 : Cond.static yL_up ∈ lw_tbl := m_1 (List.mem_of_getElem? (i := 152) rfl)
set_option maxRecDepth 20000 in
theorem wm_94 : Cond.methodLink RL 49 yL_up ∈ lw_tbl := m_1 (List.mem_of_getElem? (i := 151) rfl)
set_option maxRecDepth 20000 in
theorem wm_95 : Cond.static yX0_isWithin ∈ lw_tbl := m_1 (List.mem_of_getElem? (i := 184) rfl)
set_option maxRecDepth 20000 in
theorem wm_96 : Cond.methodLink RX0 138 yX0_isWithin ∈ lw_tbl := m_1 (List.mem_of_getElem? (i := 183) rfl)
set_option maxRecDepth 20000 in
theorem wm_97 : Cond.code yX0_sectorFor cX0_sectorFor 2 (some .int) ∈ lw_tbl := m_1 (List.mem_of_getElem? (i := 182) rfl)
set_option maxRecDepth 20000 in
theorem wm_98 : Cond.selects RX0 yX0_sectorFor yX0_sectorFor ∈ lw_tbl := m_1 (List.mem_of_getElem? (i := 181) rfl)
set_option maxRecDepth 20000 in
theorem wm_99 : Cond.instanceMethod yX0_sectorFor ∈ lw_tbl := m_1 (List.mem_of_getElem? (i := 180) rfl)
set_option maxRecDepth 20000 in
theorem wm_100 : Cond.methodLink RX0 82 yX0_sectorFor ∈ lw_tbl := m_1 (List.mem_of_getElem? (i := 179) rfl)
set_option maxRecDepth 20000 in
theorem wm_101 : Cond.code yX0_filledOn cX0_filledOn 6 (some .int) ∈ lw_tbl := m_1 (List.mem_of_getElem? (i := 178) rfl)
set_option maxRecDepth 20000 in
theorem wm_102 : Cond.selects RX0 yX0_filledOn yX0_filledOn ∈ lw_tbl := m_1 (List.mem_of_getElem? (i := 177) rfl)
set_option maxRecDepth 20000 in
theorem wm_103 : Cond.instanceMethod yX0_filledOn ∈ lw_tbl := m_1 (List.mem_of_getElem? (i := 176) rfl)
set_option maxRecDepth 20000 in
theorem wm_104 : Cond.methodLink RX4 121 yX0_filledOn ∈ lw_tbl := m_1 (List.mem_of_getElem? (i := 175) rfl)
set_option maxRecDepth 20000 in
theorem wm_105 : Cond.code yX0_sparesLeft cX0_sparesLeft 1 (some .int) ∈ lw_tbl := m_1 (List.mem_of_getElem? (i := 174) rfl)
set_option maxRecDepth 20000 in
theorem wm_106 : Cond.selects RX0 yX0_sparesLeft yX0_sparesLeft ∈ lw_tbl := m_1 (List.mem_of_getElem? (i := 173) rfl)
set_option maxRecDepth 20000 in
theorem wm_107 : Cond.instanceMethod yX0_sparesLeft ∈ lw_tbl := m_1 (List.mem_of_getElem? (i := 172) rfl)
set_option maxRecDepth 20000 in
theorem wm_108 : Cond.methodLink RX4 147 yX0_sparesLeft ∈ lw_tbl := m_1 (List.mem_of_getElem? (i := 171) rfl)
set_option maxRecDepth 20000 in
theorem wm_109 : Cond.code yX0_sectorUnderHead cX0_sectorUnderHead 1 (some .int) ∈ lw_tbl := m_1 (List.mem_of_getElem? (i := 170) rfl)
set_option maxRecDepth 20000 in
theorem wm_110 : Cond.selects RX0 yX0_sectorUnderHead yX0_sectorUnderHead ∈ lw_tbl := m_1 (List.mem_of_getElem? (i := 169) rfl)
set_option maxRecDepth 20000 in
theorem wm_111 : Cond.instanceMethod yX0_sectorUnderHead ∈ lw_tbl := m_1 (List.mem_of_getElem? (i := 168) rfl)
set_option maxRecDepth 20000 in
theorem wm_112 : Cond.methodLink RX4 143 yX0_sectorUnderHead ∈ lw_tbl := m_1 (List.mem_of_getElem? (i := 167) rfl)
set_option maxRecDepth 20000 in
theorem wm_113 : Cond.code yX4_at cX4_at 2 (some .int) ∈ lw_tbl := m_1 (List.mem_of_getElem? (i := 166) rfl)
set_option maxRecDepth 20000 in
theorem wm_114 : Cond.static yX4_at ∈ lw_tbl := m_1 (List.mem_of_getElem? (i := 165) rfl)
set_option maxRecDepth 20000 in
theorem wm_115 : Cond.instanceMethod yX0_writingsOnTracks ∈ lw_tbl := m_1 (List.mem_of_getElem? (i := 207) rfl)
set_option maxRecDepth 20000 in
theorem wm_116 : Cond.methodLink RX4 150 yX0_writingsOnTracks ∈ lw_tbl := m_1 (List.mem_of_getElem? (i := 206) rfl)
set_option maxRecDepth 20000 in
theorem wm_117 : Cond.methodLink RX0 104 yX0_settingOf ∈ lw_tbl := m_1 (List.mem_of_getElem? (i := 205) rfl)
set_option maxRecDepth 20000 in
theorem wm_118 : Cond.code yX0_blurOf cX0_blurOf 2 (some .int) ∈ lw_tbl := m_1 (List.mem_of_getElem? (i := 204) rfl)
set_option maxRecDepth 20000 in
theorem wm_119 : Cond.selects RX0 yX0_blurOf yX0_blurOf ∈ lw_tbl := m_1 (List.mem_of_getElem? (i := 203) rfl)
set_option maxRecDepth 20000 in
theorem wm_120 : Cond.instanceMethod yX0_blurOf ∈ lw_tbl := m_1 (List.mem_of_getElem? (i := 202) rfl)
set_option maxRecDepth 20000 in
theorem wm_121 : Cond.methodLink RX0 116 yX0_blurOf ∈ lw_tbl := m_1 (List.mem_of_getElem? (i := 201) rfl)
set_option maxRecDepth 20000 in
theorem wm_122 : Cond.code yX0_isReadable cX0_isReadable 2 (some .boolean) ∈ lw_tbl := m_1 (List.mem_of_getElem? (i := 200) rfl)
set_option maxRecDepth 20000 in
theorem wm_123 : Cond.selects RX0 yX0_isReadable yX0_isReadable ∈ lw_tbl := m_1 (List.mem_of_getElem? (i := 199) rfl)
set_option maxRecDepth 20000 in
theorem wm_124 : Cond.instanceMethod yX0_isReadable ∈ lw_tbl := m_1 (List.mem_of_getElem? (i := 198) rfl)
set_option maxRecDepth 20000 in
theorem wm_125 : Cond.methodLink RX0 85 yX0_isReadable ∈ lw_tbl := m_1 (List.mem_of_getElem? (i := 197) rfl)
set_option maxRecDepth 20000 in
theorem wm_126 : Cond.code yX0_unreadableOn cX0_unreadableOn 6 (some .int) ∈ lw_tbl := m_1 (List.mem_of_getElem? (i := 196) rfl)
set_option maxRecDepth 20000 in
theorem wm_127 : Cond.selects RX0 yX0_unreadableOn yX0_unreadableOn ∈ lw_tbl := m_1 (List.mem_of_getElem? (i := 195) rfl)
set_option maxRecDepth 20000 in
theorem wm_128 : Cond.instanceMethod yX0_unreadableOn ∈ lw_tbl := m_1 (List.mem_of_getElem? (i := 194) rfl)
set_option maxRecDepth 20000 in
theorem wm_129 : Cond.methodLink RX4 124 yX0_unreadableOn ∈ lw_tbl := m_1 (List.mem_of_getElem? (i := 193) rfl)
set_option maxRecDepth 20000 in
theorem wm_130 : Cond.code yX0_holdsNumber cX0_holdsNumber 2 (some .boolean) ∈ lw_tbl := m_1 (List.mem_of_getElem? (i := 192) rfl)
theorem wm_131 : Cond.selects RX0 yX0_holdsNumber yX0_holdsNumber ∈ lw_tbl := m_s1 (q := (⟨"GrooveTurns$Disc", "holdsNumber", "(I)Z"⟩, 9)) (List.mem_of_getElem? (i := 0) rfl)
set_option maxRecDepth 20000 in
theorem wm_132 : Cond.instanceMethod yX0_holdsNumber ∈ lw_tbl := m_1 (List.mem_of_getElem? (i := 191) rfl)
set_option maxRecDepth 20000 in
theorem wm_133 : Cond.methodLink RX0 113 yX0_holdsNumber ∈ lw_tbl := m_1 (List.mem_of_getElem? (i := 189) rfl)
set_option maxRecDepth 20000 in
theorem wm_134 : Cond.code yX4_trackOf cX4_trackOf 1 (some .int) ∈ lw_tbl := m_1 (List.mem_of_getElem? (i := 188) rfl)
set_option maxRecDepth 20000 in
theorem wm_135 : Cond.static yX4_trackOf ∈ lw_tbl := m_1 (List.mem_of_getElem? (i := 187) rfl)
set_option maxRecDepth 20000 in
theorem wm_136 : Cond.code yX0_isWithin cX0_isWithin 3 (some .boolean) ∈ lw_tbl := m_1 (List.mem_of_getElem? (i := 185) rfl)
set_option maxRecDepth 20000 in
theorem wm_137 : Cond.fieldLink RX4 48 "GrooveTurns" "LOWEST_SETTINGS" "[I" ∈ lw_tbl := m_1 (List.mem_of_getElem? (i := 229) rfl)
set_option maxRecDepth 20000 in
theorem wm_138 : Cond.code yX4_set cX4_set 3 (some .int) ∈ lw_tbl := m_1 (List.mem_of_getElem? (i := 228) rfl)
set_option maxRecDepth 20000 in
theorem wm_139 : Cond.selects RX4 yX4_set yX4_set ∈ lw_tbl := m_1 (List.mem_of_getElem? (i := 227) rfl)
set_option maxRecDepth 20000 in
theorem wm_140 : Cond.instanceMethod yX4_set ∈ lw_tbl := m_1 (List.mem_of_getElem? (i := 226) rfl)
set_option maxRecDepth 20000 in
theorem wm_141 : Cond.methodLink RL 52 yX4_set ∈ lw_tbl := m_1 (List.mem_of_getElem? (i := 225) rfl)
set_option maxRecDepth 20000 in
theorem wm_142 : Cond.code Lib.Math.max.name Lib.Math.max.code 2 (some .int) ∈ lw_tbl := m_1 (List.mem_of_getElem? (i := 224) rfl)
set_option maxRecDepth 20000 in
theorem wm_143 : Cond.static Lib.Math.max.name ∈ lw_tbl := m_1 (List.mem_of_getElem? (i := 223) rfl)
set_option maxRecDepth 20000 in
theorem wm_144 : Cond.methodLink RX0 148 Lib.Math.max.name ∈ lw_tbl := m_1 (List.mem_of_getElem? (i := 222) rfl)
set_option maxRecDepth 20000 in
theorem wm_145 : Cond.code yX0_greatestBlur cX0_greatestBlur 3 (some .int) ∈ lw_tbl := m_1 (List.mem_of_getElem? (i := 221) rfl)
set_option maxRecDepth 20000 in
theorem wm_146 : Cond.selects RX0 yX0_greatestBlur yX0_greatestBlur ∈ lw_tbl := m_1 (List.mem_of_getElem? (i := 220) rfl)
set_option maxRecDepth 20000 in
theorem wm_147 : Cond.instanceMethod yX0_greatestBlur ∈ lw_tbl := m_1 (List.mem_of_getElem? (i := 219) rfl)
set_option maxRecDepth 20000 in
theorem wm_148 : Cond.methodLink RX4 156 yX0_greatestBlur ∈ lw_tbl := m_1 (List.mem_of_getElem? (i := 218) rfl)
set_option maxRecDepth 20000 in
theorem wm_149 : Cond.methodLink RX4 130 yX0_writingsOnTrack ∈ lw_tbl := m_1 (List.mem_of_getElem? (i := 217) rfl)
set_option maxRecDepth 20000 in
theorem wm_150 : Cond.code yX0_sumOnTrack cX0_sumOnTrack 4 (some .int) ∈ lw_tbl := m_1 (List.mem_of_getElem? (i := 216) rfl)
set_option maxRecDepth 20000 in
theorem wm_151 : Cond.static yX0_sumOnTrack ∈ lw_tbl := m_1 (List.mem_of_getElem? (i := 215) rfl)
set_option maxRecDepth 20000 in
theorem wm_152 : Cond.methodLink RX0 142 yX0_sumOnTrack ∈ lw_tbl := m_1 (List.mem_of_getElem? (i := 214) rfl)
set_option maxRecDepth 20000 in
theorem wm_153 : Cond.code yX0_writingsOnTrack cX0_writingsOnTrack 2 (some .int) ∈ lw_tbl := m_1 (List.mem_of_getElem? (i := 213) rfl)
set_option maxRecDepth 20000 in
theorem wm_154 : Cond.selects RX0 yX0_writingsOnTrack yX0_writingsOnTrack ∈ lw_tbl := m_1 (List.mem_of_getElem? (i := 212) rfl)
set_option maxRecDepth 20000 in
theorem wm_155 : Cond.instanceMethod yX0_writingsOnTrack ∈ lw_tbl := m_1 (List.mem_of_getElem? (i := 211) rfl)
set_option maxRecDepth 20000 in
theorem wm_156 : Cond.methodLink RX0 145 yX0_writingsOnTrack ∈ lw_tbl := m_1 (List.mem_of_getElem? (i := 210) rfl)
set_option maxRecDepth 20000 in
theorem wm_157 : Cond.code yX0_writingsOnTracks cX0_writingsOnTracks 5 (some .int) ∈ lw_tbl := m_1 (List.mem_of_getElem? (i := 209) rfl)
set_option maxRecDepth 20000 in
theorem wm_158 : Cond.selects RX0 yX0_writingsOnTracks yX0_writingsOnTracks ∈ lw_tbl := m_1 (List.mem_of_getElem? (i := 208) rfl)
set_option maxRecDepth 20000 in
theorem wm_159 : Cond.instanceMethod yX0_exchangeSetting ∈ lw_tbl := m_2 (List.mem_of_getElem? (i := 3) rfl)
set_option maxRecDepth 20000 in
theorem wm_160 : Cond.methodLink RX4 62 yX0_exchangeSetting ∈ lw_tbl := m_2 (List.mem_of_getElem? (i := 2) rfl)
set_option maxRecDepth 20000 in
theorem wm_161 : Cond.code yX0_becomeLike cX0_becomeLike 2 none ∈ lw_tbl := m_2 (List.mem_of_getElem? (i := 1) rfl)
set_option maxRecDepth 20000 in
theorem wm_162 : Cond.selects RX0 yX0_becomeLike yX0_becomeLike ∈ lw_tbl := m_2 (List.mem_of_getElem? (i := 0) rfl)
set_option maxRecDepth 20000 in
theorem wm_163 : Cond.instanceMethod yX0_becomeLike ∈ lw_tbl := m_1 (List.mem_of_getElem? (i := 239) rfl)
set_option maxRecDepth 20000 in
theorem wm_164 : Cond.methodLink RX4 187 yX0_becomeLike ∈ lw_tbl := m_1 (List.mem_of_getElem? (i := 238) rfl)
set_option maxRecDepth 20000 in
theorem wm_165 : Cond.code yX4_freshTrial cX4_freshTrial 1 (some (.object "GrooveTurns$Disc")) ∈ lw_tbl := m_1 (List.mem_of_getElem? (i := 237) rfl)
theorem wm_166 : Cond.selects RX4 yX4_freshTrial yX4_freshTrial ∈ lw_tbl := m_s1 (q := (⟨"GrooveTurns", "freshTrial", "()LGrooveTurns$Disc;"⟩, 6)) (List.mem_of_getElem? (i := 1) rfl)
set_option maxRecDepth 20000 in
theorem wm_167 : Cond.instanceMethod yX4_freshTrial ∈ lw_tbl := m_1 (List.mem_of_getElem? (i := 236) rfl)
set_option maxRecDepth 20000 in
theorem wm_168 : Cond.methodLink RX4 58 yX4_freshTrial ∈ lw_tbl := m_1 (List.mem_of_getElem? (i := 234) rfl)
set_option maxRecDepth 20000 in
theorem wm_169 : Cond.methodLink RX4 51 yX4_at ∈ lw_tbl := m_1 (List.mem_of_getElem? (i := 231) rfl)
set_option maxRecDepth 20000 in
theorem wm_170 : Cond.fieldLink RX4 55 "GrooveTurns" "HIGHEST_SETTINGS" "[I" ∈ lw_tbl := m_1 (List.mem_of_getElem? (i := 232) rfl)
set_option maxRecDepth 20000 in
theorem wm_171 : Cond.code yX1_exchange cX1_exchange 4 (some (.object "GrooveTurns$Disc")) ∈ lw_tbl := m_2 (List.mem_of_getElem? (i := 20) rfl)
theorem wm_172 : Cond.selects RX1 yX1_exchange yX1_exchange ∈ lw_tbl := m_s1 (q := (⟨"GrooveTurns$History", "exchange", "(ILGrooveTurns$Disc;)LGrooveTurns$Disc;"⟩, 3)) (List.mem_of_getElem? (i := 3) rfl)
set_option maxRecDepth 20000 in
theorem wm_173 : Cond.instanceMethod yX1_exchange ∈ lw_tbl := m_2 (List.mem_of_getElem? (i := 19) rfl)
set_option maxRecDepth 20000 in
theorem wm_174 : Cond.methodLink RX1 24 yX1_exchange ∈ lw_tbl := m_2 (List.mem_of_getElem? (i := 17) rfl)
set_option maxRecDepth 20000 in
theorem wm_175 : Cond.code yX1_keep cX1_keep 3 (some (.object "GrooveTurns$Disc")) ∈ lw_tbl := m_2 (List.mem_of_getElem? (i := 16) rfl)
set_option maxRecDepth 20000 in
theorem wm_176 : Cond.selects RX1 yX1_keep yX1_keep ∈ lw_tbl := m_2 (List.mem_of_getElem? (i := 15) rfl)
set_option maxRecDepth 20000 in
theorem wm_177 : Cond.instanceMethod yX1_keep ∈ lw_tbl := m_2 (List.mem_of_getElem? (i := 14) rfl)
set_option maxRecDepth 20000 in
theorem wm_178 : Cond.methodLink RX4 191 yX1_keep ∈ lw_tbl := m_2 (List.mem_of_getElem? (i := 13) rfl)
set_option maxRecDepth 20000 in
theorem wm_179 : Cond.code yX4_adopt cX4_adopt 3 (some .int) ∈ lw_tbl := m_2 (List.mem_of_getElem? (i := 12) rfl)
theorem wm_180 : Cond.selects RX4 yX4_adopt yX4_adopt ∈ lw_tbl := m_s1 (q := (⟨"GrooveTurns", "adopt", "(I)I"⟩, 6)) (List.mem_of_getElem? (i := 2) rfl)
set_option maxRecDepth 20000 in
theorem wm_181 : Cond.instanceMethod yX4_adopt ∈ lw_tbl := m_2 (List.mem_of_getElem? (i := 11) rfl)
set_option maxRecDepth 20000 in
theorem wm_182 : Cond.methodLink RX4 66 yX4_adopt ∈ lw_tbl := m_2 (List.mem_of_getElem? (i := 9) rfl)
set_option maxRecDepth 20000 in
theorem wm_183 : Cond.code yX4_lay cX4_lay 3 none ∈ lw_tbl := m_2 (List.mem_of_getElem? (i := 8) rfl)
set_option maxRecDepth 20000 in
theorem wm_184 : Cond.static yX4_lay ∈ lw_tbl := m_2 (List.mem_of_getElem? (i := 7) rfl)
set_option maxRecDepth 20000 in
theorem wm_185 : Cond.code yX0_exchangeSetting cX0_exchangeSetting 4 (some .int) ∈ lw_tbl := m_2 (List.mem_of_getElem? (i := 5) rfl)
set_option maxRecDepth 20000 in
theorem wm_186 : Cond.selects RX0 yX0_exchangeSetting yX0_exchangeSetting ∈ lw_tbl := m_2 (List.mem_of_getElem? (i := 4) rfl)
set_option maxRecDepth 20000 in
theorem wm_187 : Cond.methodLink RX4 112 yX0_writingsOf ∈ lw_tbl := m_2 (List.mem_of_getElem? (i := 35) rfl)
set_option maxRecDepth 20000 in
theorem wm_188 : Cond.methodLink RX4 83 yX0_blurOf ∈ lw_tbl := m_2 (List.mem_of_getElem? (i := 34) rfl)
set_option maxRecDepth 20000 in
theorem wm_189 : Cond.code yX0_numberIn cX0_numberIn 2 (some .int) ∈ lw_tbl := m_2 (List.mem_of_getElem? (i := 33) rfl)
set_option maxRecDepth 20000 in
theorem wm_190 : Cond.selects RX0 yX0_numberIn yX0_numberIn ∈ lw_tbl := m_2 (List.mem_of_getElem? (i := 32) rfl)
set_option maxRecDepth 20000 in
theorem wm_191 : Cond.instanceMethod yX0_numberIn ∈ lw_tbl := m_2 (List.mem_of_getElem? (i := 31) rfl)
set_option maxRecDepth 20000 in
theorem wm_192 : Cond.methodLink RX4 109 yX0_numberIn ∈ lw_tbl := m_2 (List.mem_of_getElem? (i := 30) rfl)
set_option maxRecDepth 20000 in
theorem wm_193 : Cond.methodLink RX4 106 yX4_trackOf ∈ lw_tbl := m_2 (List.mem_of_getElem? (i := 29) rfl)
set_option maxRecDepth 20000 in
theorem wm_194 : Cond.methodLink RX4 80 yX0_sectorFor ∈ lw_tbl := m_2 (List.mem_of_getElem? (i := 28) rfl)
set_option maxRecDepth 20000 in
theorem wm_195 : Cond.code yX4_isAddress cX4_isAddress 1 (some .boolean) ∈ lw_tbl := m_2 (List.mem_of_getElem? (i := 27) rfl)
set_option maxRecDepth 20000 in
theorem wm_196 : Cond.static yX4_isAddress ∈ lw_tbl := m_2 (List.mem_of_getElem? (i := 26) rfl)
set_option maxRecDepth 20000 in
theorem wm_197 : Cond.methodLink RX4 70 yX4_isAddress ∈ lw_tbl := m_2 (List.mem_of_getElem? (i := 25) rfl)
set_option maxRecDepth 20000 in
theorem wm_198 : Cond.code yX4_sector cX4_sector 4 (some .int) ∈ lw_tbl := m_2 (List.mem_of_getElem? (i := 24) rfl)
set_option maxRecDepth 20000 in
theorem wm_199 : Cond.selects RX4 yX4_sector yX4_sector ∈ lw_tbl := m_2 (List.mem_of_getElem? (i := 23) rfl)
set_option maxRecDepth 20000 in
theorem wm_200 : Cond.instanceMethod yX4_sector ∈ lw_tbl := m_2 (List.mem_of_getElem? (i := 22) rfl)
set_option maxRecDepth 20000 in
theorem wm_201 : Cond.methodLink RL 38 yX4_sector ∈ lw_tbl := m_2 (List.mem_of_getElem? (i := 21) rfl)
theorem wm_202 : Cond.selects RX0 yX0_ticksToTrack yX0_ticksToTrack ∈ lw_tbl := m_s1 (q := (⟨"GrooveTurns$Disc", "ticksToTrack", "(I)I"⟩, 9)) (List.mem_of_getElem? (i := 4) rfl)
set_option maxRecDepth 20000 in
theorem wm_203 : Cond.instanceMethod yX0_ticksToTrack ∈ lw_tbl := m_2 (List.mem_of_getElem? (i := 59) rfl)
set_option maxRecDepth 20000 in
theorem wm_204 : Cond.methodLink RX0 91 yX0_ticksToTrack ∈ lw_tbl := m_2 (List.mem_of_getElem? (i := 57) rfl)
set_option maxRecDepth 20000 in
theorem wm_205 : Cond.code yX0_ticksTo cX0_ticksTo 4 (some .int) ∈ lw_tbl := m_2 (List.mem_of_getElem? (i := 56) rfl)
set_option maxRecDepth 20000 in
theorem wm_206 : Cond.selects RX0 yX0_ticksTo yX0_ticksTo ∈ lw_tbl := m_2 (List.mem_of_getElem? (i := 55) rfl)
set_option maxRecDepth 20000 in
theorem wm_207 : Cond.instanceMethod yX0_ticksTo ∈ lw_tbl := m_2 (List.mem_of_getElem? (i := 54) rfl)
set_option maxRecDepth 20000 in
theorem wm_208 : Cond.methodLink RX4 168 yX0_ticksTo ∈ lw_tbl := m_2 (List.mem_of_getElem? (i := 53) rfl)
set_option maxRecDepth 20000 in
theorem wm_209 : Cond.methodLink RX0 128 yX0_sparesLeft ∈ lw_tbl := m_2 (List.mem_of_getElem? (i := 52) rfl)
set_option maxRecDepth 20000 in
theorem wm_210 : Cond.methodLink RX0 98 yX0_writingsOf ∈ lw_tbl := m_2 (List.mem_of_getElem? (i := 51) rfl)
set_option maxRecDepth 20000 in
theorem wm_211 : Cond.code yX0_sectorToWrite cX0_sectorToWrite 4 (some .int) ∈ lw_tbl := m_2 (List.mem_of_getElem? (i := 50) rfl)
set_option maxRecDepth 20000 in
theorem wm_212 : Cond.selects RX0 yX0_sectorToWrite yX0_sectorToWrite ∈ lw_tbl := m_2 (List.mem_of_getElem? (i := 49) rfl)
set_option maxRecDepth 20000 in
theorem wm_213 : Cond.instanceMethod yX0_sectorToWrite ∈ lw_tbl := m_2 (List.mem_of_getElem? (i := 48) rfl)
set_option maxRecDepth 20000 in
theorem wm_214 : Cond.methodLink RX4 165 yX0_sectorToWrite ∈ lw_tbl := m_2 (List.mem_of_getElem? (i := 47) rfl)
set_option maxRecDepth 20000 in
theorem wm_215 : Cond.code yX4_ticksFor cX4_ticksFor 3 (some .int) ∈ lw_tbl := m_2 (List.mem_of_getElem? (i := 46) rfl)
set_option maxRecDepth 20000 in
theorem wm_216 : Cond.selects RX4 yX4_ticksFor yX4_ticksFor ∈ lw_tbl := m_2 (List.mem_of_getElem? (i := 45) rfl)
set_option maxRecDepth 20000 in
theorem wm_217 : Cond.instanceMethod yX4_ticksFor ∈ lw_tbl := m_2 (List.mem_of_getElem? (i := 44) rfl)
set_option maxRecDepth 20000 in
theorem wm_218 : Cond.methodLink RL 55 yX4_ticksFor ∈ lw_tbl := m_2 (List.mem_of_getElem? (i := 43) rfl)
set_option maxRecDepth 20000 in
theorem wm_219 : Cond.methodLink RX4 118 yX0_isReadable ∈ lw_tbl := m_2 (List.mem_of_getElem? (i := 42) rfl)
set_option maxRecDepth 20000 in
theorem wm_220 : Cond.code yX4_isSpare cX4_isSpare 1 (some .boolean) ∈ lw_tbl := m_2 (List.mem_of_getElem? (i := 41) rfl)
set_option maxRecDepth 20000 in
theorem wm_221 : Cond.static yX4_isSpare ∈ lw_tbl := m_2 (List.mem_of_getElem? (i := 40) rfl)
set_option maxRecDepth 20000 in
theorem wm_222 : Cond.methodLink RX4 115 yX4_isSpare ∈ lw_tbl := m_2 (List.mem_of_getElem? (i := 39) rfl)
set_option maxRecDepth 20000 in
theorem wm_223 : Cond.code yX0_writingsOf cX0_writingsOf 2 (some .int) ∈ lw_tbl := m_2 (List.mem_of_getElem? (i := 38) rfl)
set_option maxRecDepth 20000 in
theorem wm_224 : Cond.selects RX0 yX0_writingsOf yX0_writingsOf ∈ lw_tbl := m_2 (List.mem_of_getElem? (i := 37) rfl)
set_option maxRecDepth 20000 in
theorem wm_225 : Cond.instanceMethod yX0_writingsOf ∈ lw_tbl := m_2 (List.mem_of_getElem? (i := 36) rfl)
set_option maxRecDepth 20000 in
theorem wm_226 : Cond.instanceMethod yX0_pass ∈ lw_tbl := m_2 (List.mem_of_getElem? (i := 83) rfl)
set_option maxRecDepth 20000 in
theorem wm_227 : Cond.methodLink RX0 78 yX0_pass ∈ lw_tbl := m_2 (List.mem_of_getElem? (i := 81) rfl)
set_option maxRecDepth 20000 in
theorem wm_228 : Cond.constant RX0 137 (9999999) ∈ lw_tbl := m_2 (List.mem_of_getElem? (i := 80) rfl)
set_option maxRecDepth 20000 in
theorem wm_229 : Cond.code yX0_hasTime cX0_hasTime 2 (some .boolean) ∈ lw_tbl := m_2 (List.mem_of_getElem? (i := 79) rfl)
theorem wm_230 : Cond.selects RX0 yX0_hasTime yX0_hasTime ∈ lw_tbl := m_s1 (q := (⟨"GrooveTurns$Disc", "hasTime", "(I)Z"⟩, 9)) (List.mem_of_getElem? (i := 5) rfl)
set_option maxRecDepth 20000 in
theorem wm_231 : Cond.instanceMethod yX0_hasTime ∈ lw_tbl := m_2 (List.mem_of_getElem? (i := 78) rfl)
set_option maxRecDepth 20000 in
theorem wm_232 : Cond.methodLink RX0 68 yX0_hasTime ∈ lw_tbl := m_2 (List.mem_of_getElem? (i := 76) rfl)
set_option maxRecDepth 20000 in
theorem wm_233 : Cond.methodLink RX0 65 yX0_ticksTo ∈ lw_tbl := m_2 (List.mem_of_getElem? (i := 75) rfl)
set_option maxRecDepth 20000 in
theorem wm_234 : Cond.code yX0_readFrom cX0_readFrom 4 (some .int) ∈ lw_tbl := m_2 (List.mem_of_getElem? (i := 74) rfl)
set_option maxRecDepth 20000 in
theorem wm_235 : Cond.selects RX0 yX0_readFrom yX0_readFrom ∈ lw_tbl := m_2 (List.mem_of_getElem? (i := 73) rfl)
set_option maxRecDepth 20000 in
theorem wm_236 : Cond.instanceMethod yX0_readFrom ∈ lw_tbl := m_2 (List.mem_of_getElem? (i := 72) rfl)
set_option maxRecDepth 20000 in
theorem wm_237 : Cond.methodLink RX4 77 yX0_readFrom ∈ lw_tbl := m_2 (List.mem_of_getElem? (i := 71) rfl)
set_option maxRecDepth 20000 in
theorem wm_238 : Cond.code yX4_read cX4_read 2 (some .int) ∈ lw_tbl := m_2 (List.mem_of_getElem? (i := 70) rfl)
set_option maxRecDepth 20000 in
theorem wm_239 : Cond.selects RX4 yX4_read yX4_read ∈ lw_tbl := m_2 (List.mem_of_getElem? (i := 69) rfl)
set_option maxRecDepth 20000 in
theorem wm_240 : Cond.instanceMethod yX4_read ∈ lw_tbl := m_2 (List.mem_of_getElem? (i := 68) rfl)
set_option maxRecDepth 20000 in
theorem wm_241 : Cond.methodLink RL 59 yX4_read ∈ lw_tbl := m_2 (List.mem_of_getElem? (i := 67) rfl)
set_option maxRecDepth 20000 in
theorem wm_242 : Cond.code yJ9_floorMod_7cf53 cJ9_floorMod_7cf53 3 (some .int) ∈ lw_tbl := m_2 (List.mem_of_getElem? (i := 66) rfl)
set_option maxRecDepth 20000 in
theorem wm_243 : Cond.static yJ9_floorMod_7cf53 ∈ lw_tbl := m_2 (List.mem_of_getElem? (i := 65) rfl)
set_option maxRecDepth 20000 in
theorem wm_244 : Cond.methodLink RX0 131 yJ9_floorMod_7cf53 ∈ lw_tbl := m_2 (List.mem_of_getElem? (i := 64) rfl)
set_option maxRecDepth 20000 in
theorem wm_245 : Cond.code Lib.Math.abs.name Lib.Math.abs.code 1 (some .int) ∈ lw_tbl := m_2 (List.mem_of_getElem? (i := 63) rfl)
set_option maxRecDepth 20000 in
theorem wm_246 : Cond.static Lib.Math.abs.name ∈ lw_tbl := m_2 (List.mem_of_getElem? (i := 62) rfl)
set_option maxRecDepth 20000 in
theorem wm_247 : Cond.methodLink RX0 134 Lib.Math.abs.name ∈ lw_tbl := m_2 (List.mem_of_getElem? (i := 61) rfl)
set_option maxRecDepth 20000 in
theorem wm_248 : Cond.code yX0_ticksToTrack cX0_ticksToTrack 2 (some .int) ∈ lw_tbl := m_2 (List.mem_of_getElem? (i := 60) rfl)
set_option maxRecDepth 20000 in
theorem wm_249 : Cond.methodLink RX4 175 yX4_signsIn ∈ lw_tbl := m_2 (List.mem_of_getElem? (i := 103) rfl)
set_option maxRecDepth 20000 in
theorem wm_250 : Cond.code yX4_put cX4_put 4 (some .int) ∈ lw_tbl := m_2 (List.mem_of_getElem? (i := 102) rfl)
set_option maxRecDepth 20000 in
theorem wm_251 : Cond.selects RX4 yX4_put yX4_put ∈ lw_tbl := m_2 (List.mem_of_getElem? (i := 101) rfl)
set_option maxRecDepth 20000 in
theorem wm_252 : Cond.instanceMethod yX4_put ∈ lw_tbl := m_2 (List.mem_of_getElem? (i := 100) rfl)
set_option maxRecDepth 20000 in
theorem wm_253 : Cond.methodLink RL 9 yX4_put ∈ lw_tbl := m_2 (List.mem_of_getElem? (i := 99) rfl)
set_option maxRecDepth 20000 in
theorem wm_254 : Cond.code yX2_clear cX2_clear 1 none ∈ lw_tbl := m_2 (List.mem_of_getElem? (i := 96) rfl)
set_option maxRecDepth 20000 in
theorem wm_255 : Cond.selects RX2 yX2_clear yX2_clear ∈ lw_tbl := m_2 (List.mem_of_getElem? (i := 95) rfl)
set_option maxRecDepth 20000 in
theorem wm_256 : Cond.instanceMethod yX2_clear ∈ lw_tbl := m_2 (List.mem_of_getElem? (i := 94) rfl)
set_option maxRecDepth 20000 in
theorem wm_257 : Cond.methodLink RX4 103 yX2_clear ∈ lw_tbl := m_2 (List.mem_of_getElem? (i := 93) rfl)
set_option maxRecDepth 20000 in
theorem wm_258 : Cond.code yX4_wipe cX4_wipe 2 (some .int) ∈ lw_tbl := m_2 (List.mem_of_getElem? (i := 92) rfl)
set_option maxRecDepth 20000 in
theorem wm_259 : Cond.selects RX4 yX4_wipe yX4_wipe ∈ lw_tbl := m_2 (List.mem_of_getElem? (i := 91) rfl)
set_option maxRecDepth 20000 in
theorem wm_260 : Cond.instanceMethod yX4_wipe ∈ lw_tbl := m_2 (List.mem_of_getElem? (i := 90) rfl)
set_option maxRecDepth 20000 in
theorem wm_261 : Cond.methodLink RL 15 yX4_wipe ∈ lw_tbl := m_2 (List.mem_of_getElem? (i := 89) rfl)
set_option maxRecDepth 20000 in
theorem wm_262 : Cond.constantLong RL 29 (61) ∈ lw_tbl := m_2 (List.mem_of_getElem? (i := 118) rfl)
set_option maxRecDepth 20000 in
theorem wm_263 : Cond.constantLong RL 21 (119) ∈ lw_tbl := m_2 (List.mem_of_getElem? (i := 98) rfl)
set_option maxRecDepth 20000 in
theorem wm_264 : Cond.constantLong RL 19 (114) ∈ lw_tbl := m_2 (List.mem_of_getElem? (i := 97) rfl)
set_option maxRecDepth 20000 in
theorem wm_265 : Cond.code yL_isPadded cL_isPadded 5 (some .boolean) ∈ lw_tbl := m_2 (List.mem_of_getElem? (i := 88) rfl)
set_option maxRecDepth 20000 in
theorem wm_266 : Cond.static yL_isPadded ∈ lw_tbl := m_2 (List.mem_of_getElem? (i := 87) rfl)
set_option maxRecDepth 20000 in
theorem wm_267 : Cond.methodLink RL 62 yL_isPadded ∈ lw_tbl := m_2 (List.mem_of_getElem? (i := 86) rfl)
set_option maxRecDepth 20000 in
theorem wm_268 : Cond.methodLink RX0 88 yX0_numberIn ∈ lw_tbl := m_2 (List.mem_of_getElem? (i := 85) rfl)
set_option maxRecDepth 20000 in
theorem wm_269 : Cond.code yX0_pass cX0_pass 3 none ∈ lw_tbl := m_2 (List.mem_of_getElem? (i := 84) rfl)
theorem wm_270 : Cond.selects RX0 yX0_pass yX0_pass ∈ lw_tbl := m_s1 (q := (⟨"GrooveTurns$Disc", "pass", "(II)V"⟩, 9)) (List.mem_of_getElem? (i := 6) rfl)
set_option maxRecDepth 20000 in
theorem wm_271 : Cond.code yX3_parse cX3_parse 3 (some .int) ∈ lw_tbl := m_2 (List.mem_of_getElem? (i := 126) rfl)
set_option maxRecDepth 20000 in
theorem wm_272 : Cond.selects RX3 yX3_parse yX3_parse ∈ lw_tbl := m_2 (List.mem_of_getElem? (i := 125) rfl)
set_option maxRecDepth 20000 in
theorem wm_273 : Cond.instanceMethod yX3_parse ∈ lw_tbl := m_2 (List.mem_of_getElem? (i := 124) rfl)
set_option maxRecDepth 20000 in
theorem wm_274 : Cond.methodLink RX4 95 yX3_parse ∈ lw_tbl := m_2 (List.mem_of_getElem? (i := 123) rfl)
set_option maxRecDepth 20000 in
theorem wm_275 : Cond.code yX4_fault cX4_fault 1 (some .int) ∈ lw_tbl := m_2 (List.mem_of_getElem? (i := 122) rfl)
set_option maxRecDepth 20000 in
theorem wm_276 : Cond.selects RX4 yX4_fault yX4_fault ∈ lw_tbl := m_2 (List.mem_of_getElem? (i := 121) rfl)
set_option maxRecDepth 20000 in
theorem wm_277 : Cond.instanceMethod yX4_fault ∈ lw_tbl := m_2 (List.mem_of_getElem? (i := 120) rfl)
set_option maxRecDepth 20000 in
theorem wm_278 : Cond.methodLink RL 31 yX4_fault ∈ lw_tbl := m_2 (List.mem_of_getElem? (i := 119) rfl)
set_option maxRecDepth 20000 in
theorem wm_279 : Cond.code yL_number cL_number 2 (some .boolean) ∈ lw_tbl := m_2 (List.mem_of_getElem? (i := 117) rfl)
set_option maxRecDepth 20000 in
theorem wm_280 : Cond.static yL_number ∈ lw_tbl := m_2 (List.mem_of_getElem? (i := 116) rfl)
set_option maxRecDepth 20000 in
theorem wm_281 : Cond.methodLink RL 23 yL_number ∈ lw_tbl := m_2 (List.mem_of_getElem? (i := 115) rfl)
set_option maxRecDepth 20000 in
theorem wm_282 : Cond.constantLong RX2 19 (255) ∈ lw_tbl := m_2 (List.mem_of_getElem? (i := 113) rfl)
set_option maxRecDepth 20000 in
theorem wm_283 : Cond.code yX2_append cX2_append 5 none ∈ lw_tbl := m_2 (List.mem_of_getElem? (i := 112) rfl)
set_option maxRecDepth 20000 in
theorem wm_284 : Cond.selects RX2 yX2_append yX2_append ∈ lw_tbl := m_2 (List.mem_of_getElem? (i := 111) rfl)
set_option maxRecDepth 20000 in
theorem wm_285 : Cond.instanceMethod yX2_append ∈ lw_tbl := m_2 (List.mem_of_getElem? (i := 110) rfl)
set_option maxRecDepth 20000 in
theorem wm_286 : Cond.methodLink RX4 179 yX2_append ∈ lw_tbl := m_2 (List.mem_of_getElem? (i := 109) rfl)
set_option maxRecDepth 20000 in
theorem wm_287 : Cond.constantLong RX4 198 (126) ∈ lw_tbl := m_2 (List.mem_of_getElem? (i := 108) rfl)
set_option maxRecDepth 20000 in
theorem wm_288 : Cond.constantLong RX4 196 (33) ∈ lw_tbl := m_2 (List.mem_of_getElem? (i := 107) rfl)
set_option maxRecDepth 20000 in
theorem wm_289 : Cond.constantLong RX4 194 (255) ∈ lw_tbl := m_2 (List.mem_of_getElem? (i := 106) rfl)
set_option maxRecDepth 20000 in
theorem wm_290 : Cond.code yX4_signsIn cX4_signsIn 7 (some .int) ∈ lw_tbl := m_2 (List.mem_of_getElem? (i := 105) rfl)
set_option maxRecDepth 20000 in
theorem wm_291 : Cond.static yX4_signsIn ∈ lw_tbl := m_2 (List.mem_of_getElem? (i := 104) rfl)
set_option maxRecDepth 20000 in
theorem wm_292 : Cond.code yX3_isDigit cX3_isDigit 1 (some .boolean) ∈ lw_tbl := m_2 (List.mem_of_getElem? (i := 147) rfl)
set_option maxRecDepth 20000 in
theorem wm_293 : Cond.static yX3_isDigit ∈ lw_tbl := m_2 (List.mem_of_getElem? (i := 146) rfl)
set_option maxRecDepth 20000 in
theorem wm_294 : Cond.methodLink RX3 65 yX3_isDigit ∈ lw_tbl := m_2 (List.mem_of_getElem? (i := 145) rfl)
set_option maxRecDepth 20000 in
theorem wm_295 : Cond.code yX3_takesFirstDigit cX3_takesFirstDigit 4 (some .boolean) ∈ lw_tbl := m_2 (List.mem_of_getElem? (i := 144) rfl)
theorem wm_296 : Cond.selects RX3 yX3_takesFirstDigit yX3_takesFirstDigit ∈ lw_tbl := m_s1 (q := (⟨"GrooveTurns$Requests", "takesFirstDigit", "(I[II)Z"⟩, 5)) (List.mem_of_getElem? (i := 9) rfl)
set_option maxRecDepth 20000 in
theorem wm_297 : Cond.instanceMethod yX3_takesFirstDigit ∈ lw_tbl := m_2 (List.mem_of_getElem? (i := 143) rfl)
set_option maxRecDepth 20000 in
theorem wm_298 : Cond.methodLink RX3 47 yX3_takesFirstDigit ∈ lw_tbl := m_2 (List.mem_of_getElem? (i := 141) rfl)
set_option maxRecDepth 20000 in
theorem wm_299 : Cond.code yX3_takesKind cX3_takesKind 2 (some .boolean) ∈ lw_tbl := m_2 (List.mem_of_getElem? (i := 139) rfl)
theorem wm_300 : Cond.selects RX3 yX3_takesKind yX3_takesKind ∈ lw_tbl := m_s1 (q := (⟨"GrooveTurns$Requests", "takesKind", "(I)Z"⟩, 5)) (List.mem_of_getElem? (i := 8) rfl)
set_option maxRecDepth 20000 in
theorem wm_301 : Cond.instanceMethod yX3_takesKind ∈ lw_tbl := m_2 (List.mem_of_getElem? (i := 138) rfl)
set_option maxRecDepth 20000 in
theorem wm_302 : Cond.methodLink RX3 44 yX3_takesKind ∈ lw_tbl := m_2 (List.mem_of_getElem? (i := 136) rfl)
set_option maxRecDepth 20000 in
theorem wm_303 : Cond.code yX3_takes cX3_takes 2 (some .boolean) ∈ lw_tbl := m_2 (List.mem_of_getElem? (i := 135) rfl)
theorem wm_304 : Cond.selects RX3 yX3_takes yX3_takes ∈ lw_tbl := m_s1 (q := (⟨"GrooveTurns$Requests", "takes", "(I)Z"⟩, 5)) (List.mem_of_getElem? (i := 7) rfl)
set_option maxRecDepth 20000 in
theorem wm_305 : Cond.instanceMethod yX3_takes ∈ lw_tbl := m_2 (List.mem_of_getElem? (i := 134) rfl)
set_option maxRecDepth 20000 in
theorem wm_306 : Cond.methodLink RX3 37 yX3_takes ∈ lw_tbl := m_2 (List.mem_of_getElem? (i := 132) rfl)
set_option maxRecDepth 20000 in
theorem wm_307 : Cond.code yX2_signAt cX2_signAt 2 (some .int) ∈ lw_tbl := m_2 (List.mem_of_getElem? (i := 130) rfl)
set_option maxRecDepth 20000 in
theorem wm_308 : Cond.selects RX2 yX2_signAt yX2_signAt ∈ lw_tbl := m_2 (List.mem_of_getElem? (i := 129) rfl)
set_option maxRecDepth 20000 in
theorem wm_309 : Cond.instanceMethod yX2_signAt ∈ lw_tbl := m_2 (List.mem_of_getElem? (i := 128) rfl)
set_option maxRecDepth 20000 in
theorem wm_310 : Cond.methodLink RX3 33 yX2_signAt ∈ lw_tbl := m_2 (List.mem_of_getElem? (i := 127) rfl)
set_option maxRecDepth 20000 in
theorem wm_311 : Cond.fieldLink RX3 28 "GrooveTurns$Pad" "length" "I" ∈ lw_tbl := m_1 (List.mem_of_getElem? (i := 77) rfl)
set_option maxRecDepth 20000 in
theorem wm_312 : Cond.code yX3_doOn cX3_doOn 6 (some .int) ∈ lw_tbl := m_2 (List.mem_of_getElem? (i := 172) rfl)
set_option maxRecDepth 20000 in
theorem wm_313 : Cond.selects RX3 yX3_doOn yX3_doOn ∈ lw_tbl := m_2 (List.mem_of_getElem? (i := 171) rfl)
set_option maxRecDepth 20000 in
theorem wm_314 : Cond.instanceMethod yX3_doOn ∈ lw_tbl := m_2 (List.mem_of_getElem? (i := 170) rfl)
set_option maxRecDepth 20000 in
theorem wm_315 : Cond.methodLink RX4 99 yX3_doOn ∈ lw_tbl := m_2 (List.mem_of_getElem? (i := 169) rfl)
set_option maxRecDepth 20000 in
theorem wm_316 : Cond.code yX4_run cX4_run 3 (some .int) ∈ lw_tbl := m_2 (List.mem_of_getElem? (i := 168) rfl)
set_option maxRecDepth 20000 in
theorem wm_317 : Cond.selects RX4 yX4_run yX4_run ∈ lw_tbl := m_2 (List.mem_of_getElem? (i := 167) rfl)
set_option maxRecDepth 20000 in
theorem wm_318 : Cond.instanceMethod yX4_run ∈ lw_tbl := m_2 (List.mem_of_getElem? (i := 166) rfl)
set_option maxRecDepth 20000 in
theorem wm_319 : Cond.methodLink RL 34 yX4_run ∈ lw_tbl := m_2 (List.mem_of_getElem? (i := 165) rfl)
set_option maxRecDepth 20000 in
theorem wm_320 : Cond.code yX3_takesMark cX3_takesMark 4 (some .boolean) ∈ lw_tbl := m_2 (List.mem_of_getElem? (i := 164) rfl)
theorem wm_321 : Cond.selects RX3 yX3_takesMark yX3_takesMark ∈ lw_tbl := m_s1 (q := (⟨"GrooveTurns$Requests", "takesMark", "(ICI)Z"⟩, 5)) (List.mem_of_getElem? (i := 13) rfl)
set_option maxRecDepth 20000 in
theorem wm_322 : Cond.instanceMethod yX3_takesMark ∈ lw_tbl := m_2 (List.mem_of_getElem? (i := 163) rfl)
set_option maxRecDepth 20000 in
theorem wm_323 : Cond.methodLink RX3 57 yX3_takesMark ∈ lw_tbl := m_2 (List.mem_of_getElem? (i := 161) rfl)
set_option maxRecDepth 20000 in
theorem wm_324 : Cond.code yX3_isWriting cX3_isWriting 2 (some .boolean) ∈ lw_tbl := m_2 (List.mem_of_getElem? (i := 160) rfl)
theorem wm_325 : Cond.selects RX3 yX3_isWriting yX3_isWriting ∈ lw_tbl := m_s1 (q := (⟨"GrooveTurns$Requests", "isWriting", "(I)Z"⟩, 5)) (List.mem_of_getElem? (i := 12) rfl)
set_option maxRecDepth 20000 in
theorem wm_326 : Cond.instanceMethod yX3_isWriting ∈ lw_tbl := m_2 (List.mem_of_getElem? (i := 159) rfl)
set_option maxRecDepth 20000 in
theorem wm_327 : Cond.methodLink RX3 41 yX3_isWriting ∈ lw_tbl := m_2 (List.mem_of_getElem? (i := 157) rfl)
set_option maxRecDepth 20000 in
theorem wm_328 : Cond.code yX3_takesEndOfAddress cX3_takesEndOfAddress 2 (some .boolean) ∈ lw_tbl := m_2 (List.mem_of_getElem? (i := 156) rfl)
theorem wm_329 : Cond.selects RX3 yX3_takesEndOfAddress yX3_takesEndOfAddress ∈ lw_tbl := m_s1 (q := (⟨"GrooveTurns$Requests", "takesEndOfAddress", "(I)Z"⟩, 5)) (List.mem_of_getElem? (i := 11) rfl)
set_option maxRecDepth 20000 in
theorem wm_330 : Cond.instanceMethod yX3_takesEndOfAddress ∈ lw_tbl := m_2 (List.mem_of_getElem? (i := 155) rfl)
set_option maxRecDepth 20000 in
theorem wm_331 : Cond.methodLink RX3 54 yX3_takesEndOfAddress ∈ lw_tbl := m_2 (List.mem_of_getElem? (i := 153) rfl)
set_option maxRecDepth 20000 in
theorem wm_332 : Cond.code yX3_takesDigit cX3_takesDigit 6 (some .boolean) ∈ lw_tbl := m_2 (List.mem_of_getElem? (i := 151) rfl)
theorem wm_333 : Cond.selects RX3 yX3_takesDigit yX3_takesDigit ∈ lw_tbl := m_s1 (q := (⟨"GrooveTurns$Requests", "takesDigit", "(I[II)Z"⟩, 5)) (List.mem_of_getElem? (i := 10) rfl)
set_option maxRecDepth 20000 in
theorem wm_334 : Cond.instanceMethod yX3_takesDigit ∈ lw_tbl := m_2 (List.mem_of_getElem? (i := 150) rfl)
set_option maxRecDepth 20000 in
theorem wm_335 : Cond.methodLink RX3 51 yX3_takesDigit ∈ lw_tbl := m_2 (List.mem_of_getElem? (i := 148) rfl)
set_option maxRecDepth 20000 in
theorem wm_336 : Cond.methodLink RX0 119 Lib.Math.min.name ∈ lw_tbl := m_2 (List.mem_of_getElem? (i := 202) rfl)
set_option maxRecDepth 20000 in
theorem wm_337 : Cond.code yX0_blurBy cX0_blurBy 3 none ∈ lw_tbl := m_2 (List.mem_of_getElem? (i := 196) rfl)
theorem wm_338 : Cond.selects RX0 yX0_blurBy yX0_blurBy ∈ lw_tbl := m_s2 (q := (⟨"GrooveTurns$Disc", "blurBy", "(II)V"⟩, 9)) (List.mem_of_getElem? (i := 0) rfl)
set_option maxRecDepth 20000 in
theorem wm_339 : Cond.instanceMethod yX0_blurBy ∈ lw_tbl := m_2 (List.mem_of_getElem? (i := 195) rfl)
set_option maxRecDepth 20000 in
theorem wm_340 : Cond.methodLink RX0 107 yX0_blurBy ∈ lw_tbl := m_2 (List.mem_of_getElem? (i := 193) rfl)
set_option maxRecDepth 20000 in
theorem wm_341 : Cond.code yX0_fill cX0_fill 4 none ∈ lw_tbl := m_2 (List.mem_of_getElem? (i := 191) rfl)
set_option maxRecDepth 20000 in
theorem wm_342 : Cond.selects RX0 yX0_fill yX0_fill ∈ lw_tbl := m_2 (List.mem_of_getElem? (i := 190) rfl)
set_option maxRecDepth 20000 in
theorem wm_343 : Cond.instanceMethod yX0_fill ∈ lw_tbl := m_2 (List.mem_of_getElem? (i := 189) rfl)
set_option maxRecDepth 20000 in
theorem wm_344 : Cond.methodLink RX0 72 yX0_fill ∈ lw_tbl := m_2 (List.mem_of_getElem? (i := 188) rfl)
set_option maxRecDepth 20000 in
theorem wm_345 : Cond.methodLink RX0 61 yX0_sectorToWrite ∈ lw_tbl := m_2 (List.mem_of_getElem? (i := 187) rfl)
set_option maxRecDepth 20000 in
theorem wm_346 : Cond.code yX0_writeTo cX0_writeTo 5 (some .int) ∈ lw_tbl := m_2 (List.mem_of_getElem? (i := 186) rfl)
set_option maxRecDepth 20000 in
theorem wm_347 : Cond.selects RX0 yX0_writeTo yX0_writeTo ∈ lw_tbl := m_2 (List.mem_of_getElem? (i := 185) rfl)
set_option maxRecDepth 20000 in
theorem wm_348 : Cond.instanceMethod yX0_writeTo ∈ lw_tbl := m_2 (List.mem_of_getElem? (i := 184) rfl)
set_option maxRecDepth 20000 in
theorem wm_349 : Cond.methodLink RX3 88 yX0_writeTo ∈ lw_tbl := m_2 (List.mem_of_getElem? (i := 183) rfl)
set_option maxRecDepth 20000 in
theorem wm_350 : Cond.code yX3_doOne cX3_doOne 5 (some .int) ∈ lw_tbl := m_2 (List.mem_of_getElem? (i := 182) rfl)
theorem wm_351 : Cond.selects RX3 yX3_doOne yX3_doOne ∈ lw_tbl := m_s1 (q := (⟨"GrooveTurns$Requests", "doOne", "(LGrooveTurns$Disc;I)I"⟩, 5)) (List.mem_of_getElem? (i := 15) rfl)
set_option maxRecDepth 20000 in
theorem wm_352 : Cond.instanceMethod yX3_doOne ∈ lw_tbl := m_2 (List.mem_of_getElem? (i := 181) rfl)
set_option maxRecDepth 20000 in
theorem wm_353 : Cond.methodLink RX3 76 yX3_doOne ∈ lw_tbl := m_2 (List.mem_of_getElem? (i := 179) rfl)
set_option maxRecDepth 20000 in
theorem wm_354 : Cond.methodLink RX3 80 yX0_sectorFor ∈ lw_tbl := m_2 (List.mem_of_getElem? (i := 177) rfl)
set_option maxRecDepth 20000 in
theorem wm_355 : Cond.code yX3_noteTracks cX3_noteTracks 5 none ∈ lw_tbl := m_2 (List.mem_of_getElem? (i := 176) rfl)
theorem wm_356 : Cond.selects RX3 yX3_noteTracks yX3_noteTracks ∈ lw_tbl := m_s1 (q := (⟨"GrooveTurns$Requests", "noteTracks", "(LGrooveTurns$Disc;Z)V"⟩, 5)) (List.mem_of_getElem? (i := 14) rfl)
set_option maxRecDepth 20000 in
theorem wm_357 : Cond.instanceMethod yX3_noteTracks ∈ lw_tbl := m_2 (List.mem_of_getElem? (i := 175) rfl)
set_option maxRecDepth 20000 in
theorem wm_358 : Cond.methodLink RX3 72 yX3_noteTracks ∈ lw_tbl := m_2 (List.mem_of_getElem? (i := 173) rfl)
set_option maxRecDepth 20000 in
theorem wm_359 : Cond.selects RX4 yX4_idle yX4_idle ∈ lw_tbl := m_2 (List.mem_of_getElem? (i := 222) rfl)
set_option maxRecDepth 20000 in
theorem wm_360 : Cond.instanceMethod yX4_idle ∈ lw_tbl := m_2 (List.mem_of_getElem? (i := 221) rfl)
set_option maxRecDepth 20000 in
theorem wm_361 : Cond.methodLink RL 72 yX4_idle ∈ lw_tbl := m_2 (List.mem_of_getElem? (i := 220) rfl)
set_option maxRecDepth 20000 in
theorem wm_362 : Cond.code yX0_moveHead cX0_moveHead 3 (some .int) ∈ lw_tbl := m_2 (List.mem_of_getElem? (i := 219) rfl)
set_option maxRecDepth 20000 in
theorem wm_363 : Cond.selects RX0 yX0_moveHead yX0_moveHead ∈ lw_tbl := m_2 (List.mem_of_getElem? (i := 218) rfl)
set_option maxRecDepth 20000 in
theorem wm_364 : Cond.instanceMethod yX0_moveHead ∈ lw_tbl := m_2 (List.mem_of_getElem? (i := 217) rfl)
set_option maxRecDepth 20000 in
theorem wm_365 : Cond.methodLink RX4 89 yX0_moveHead ∈ lw_tbl := m_2 (List.mem_of_getElem? (i := 216) rfl)
set_option maxRecDepth 20000 in
theorem wm_366 : Cond.code yX4_isTrack cX4_isTrack 1 (some .boolean) ∈ lw_tbl := m_2 (List.mem_of_getElem? (i := 215) rfl)
set_option maxRecDepth 20000 in
theorem wm_367 : Cond.static yX4_isTrack ∈ lw_tbl := m_2 (List.mem_of_getElem? (i := 214) rfl)
set_option maxRecDepth 20000 in
theorem wm_368 : Cond.methodLink RX4 86 yX4_isTrack ∈ lw_tbl := m_2 (List.mem_of_getElem? (i := 213) rfl)
set_option maxRecDepth 20000 in
theorem wm_369 : Cond.code yX4_seek cX4_seek 2 (some .int) ∈ lw_tbl := m_2 (List.mem_of_getElem? (i := 212) rfl)
set_option maxRecDepth 20000 in
theorem wm_370 : Cond.selects RX4 yX4_seek yX4_seek ∈ lw_tbl := m_2 (List.mem_of_getElem? (i := 211) rfl)
set_option maxRecDepth 20000 in
theorem wm_371 : Cond.instanceMethod yX4_seek ∈ lw_tbl := m_2 (List.mem_of_getElem? (i := 210) rfl)
set_option maxRecDepth 20000 in
theorem wm_372 : Cond.methodLink RL 69 yX4_seek ∈ lw_tbl := m_2 (List.mem_of_getElem? (i := 209) rfl)
set_option maxRecDepth 20000 in
theorem wm_373 : Cond.methodLink RX4 74 yX0_writeTo ∈ lw_tbl := m_2 (List.mem_of_getElem? (i := 208) rfl)
set_option maxRecDepth 20000 in
theorem wm_374 : Cond.code yX4_refresh cX4_refresh 6 (some .int) ∈ lw_tbl := m_2 (List.mem_of_getElem? (i := 207) rfl)
set_option maxRecDepth 20000 in
theorem wm_375 : Cond.selects RX4 yX4_refresh yX4_refresh ∈ lw_tbl := m_2 (List.mem_of_getElem? (i := 206) rfl)
set_option maxRecDepth 20000 in
theorem wm_376 : Cond.instanceMethod yX4_refresh ∈ lw_tbl := m_2 (List.mem_of_getElem? (i := 205) rfl)
set_option maxRecDepth 20000 in
theorem wm_377 : Cond.methodLink RL 66 yX4_refresh ∈ lw_tbl := m_2 (List.mem_of_getElem? (i := 204) rfl)
set_option maxRecDepth 20000 in
theorem wm_378 : Cond.methodLink RX3 92 yX0_readFrom ∈ lw_tbl := m_2 (List.mem_of_getElem? (i := 203) rfl)
set_option maxRecDepth 20000 in
theorem wm_379 : Cond.code yX0_isOnTracksInUse cX0_isOnTracksInUse 2 (some .boolean) ∈ lw_tbl := m_2 (List.mem_of_getElem? (i := 200) rfl)
theorem wm_380 : Cond.selects RX0 yX0_isOnTracksInUse yX0_isOnTracksInUse ∈ lw_tbl := m_s2 (q := (⟨"GrooveTurns$Disc", "isOnTracksInUse", "(I)Z"⟩, 9)) (List.mem_of_getElem? (i := 1) rfl)
set_option maxRecDepth 20000 in
theorem wm_381 : Cond.instanceMethod yX0_isOnTracksInUse ∈ lw_tbl := m_2 (List.mem_of_getElem? (i := 199) rfl)
set_option maxRecDepth 20000 in
theorem wm_382 : Cond.methodLink RX0 110 yX0_isOnTracksInUse ∈ lw_tbl := m_2 (List.mem_of_getElem? (i := 197) rfl)
set_option maxRecDepth 20000 in
theorem wm_383 : Cond.code yX4_write cX4_write 3 (some .int) ∈ lw_tbl := m_3 (List.mem_of_getElem? (i := 3) rfl)
set_option maxRecDepth 20000 in
theorem wm_384 : Cond.selects RX4 yX4_write yX4_write ∈ lw_tbl := m_3 (List.mem_of_getElem? (i := 2) rfl)
set_option maxRecDepth 20000 in
theorem wm_385 : Cond.instanceMethod yX4_write ∈ lw_tbl := m_3 (List.mem_of_getElem? (i := 1) rfl)
set_option maxRecDepth 20000 in
theorem wm_386 : Cond.methodLink RL 46 yX4_write ∈ lw_tbl := m_3 (List.mem_of_getElem? (i := 0) rfl)
set_option maxRecDepth 20000 in
theorem wm_387 : Cond.code yL_isWritten cL_isWritten 22 (some .boolean) ∈ lw_tbl := m_2 (List.mem_of_getElem? (i := 239) rfl)
set_option maxRecDepth 20000 in
theorem wm_388 : Cond.static yL_isWritten ∈ lw_tbl := m_2 (List.mem_of_getElem? (i := 238) rfl)
set_option maxRecDepth 20000 in
theorem wm_389 : Cond.methodLink RL 81 yL_isWritten ∈ lw_tbl := m_2 (List.mem_of_getElem? (i := 237) rfl)
set_option maxRecDepth 20000 in
theorem wm_390 : Cond.code yX4_restore cX4_restore 3 (some .int) ∈ lw_tbl := m_2 (List.mem_of_getElem? (i := 236) rfl)
set_option maxRecDepth 20000 in
theorem wm_391 : Cond.selects RX4 yX4_restore yX4_restore ∈ lw_tbl := m_2 (List.mem_of_getElem? (i := 235) rfl)
set_option maxRecDepth 20000 in
theorem wm_392 : Cond.instanceMethod yX4_restore ∈ lw_tbl := m_2 (List.mem_of_getElem? (i := 234) rfl)
set_option maxRecDepth 20000 in
theorem wm_393 : Cond.methodLink RL 78 yX4_restore ∈ lw_tbl := m_2 (List.mem_of_getElem? (i := 233) rfl)
set_option maxRecDepth 20000 in
theorem wm_394 : Cond.code yX4_save cX4_save 3 (some .int) ∈ lw_tbl := m_2 (List.mem_of_getElem? (i := 232) rfl)
set_option maxRecDepth 20000 in
theorem wm_395 : Cond.selects RX4 yX4_save yX4_save ∈ lw_tbl := m_2 (List.mem_of_getElem? (i := 231) rfl)
set_option maxRecDepth 20000 in
theorem wm_396 : Cond.instanceMethod yX4_save ∈ lw_tbl := m_2 (List.mem_of_getElem? (i := 230) rfl)
set_option maxRecDepth 20000 in
theorem wm_397 : Cond.methodLink RL 75 yX4_save ∈ lw_tbl := m_2 (List.mem_of_getElem? (i := 229) rfl)
set_option maxRecDepth 20000 in
theorem wm_398 : Cond.methodLink RX0 94 yX0_sectorUnderHead ∈ lw_tbl := m_2 (List.mem_of_getElem? (i := 228) rfl)
set_option maxRecDepth 20000 in
theorem wm_399 : Cond.code yX0_waitFor cX0_waitFor 2 (some .int) ∈ lw_tbl := m_2 (List.mem_of_getElem? (i := 227) rfl)
set_option maxRecDepth 20000 in
theorem wm_400 : Cond.selects RX0 yX0_waitFor yX0_waitFor ∈ lw_tbl := m_2 (List.mem_of_getElem? (i := 226) rfl)
set_option maxRecDepth 20000 in
theorem wm_401 : Cond.instanceMethod yX0_waitFor ∈ lw_tbl := m_2 (List.mem_of_getElem? (i := 225) rfl)
set_option maxRecDepth 20000 in
theorem wm_402 : Cond.methodLink RX4 92 yX0_waitFor ∈ lw_tbl := m_2 (List.mem_of_getElem? (i := 224) rfl)
set_option maxRecDepth 20000 in
theorem wm_403 : Cond.code yX4_idle cX4_idle 2 (some .int) ∈ lw_tbl := m_2 (List.mem_of_getElem? (i := 223) rfl)
set_option maxRecDepth 20000 in
theorem wm_404 : Cond.static yL_isStep ∈ lw_tbl := m_1 (List.mem_of_getElem? (i := 149) rfl)
set_option maxRecDepth 20000 in
theorem wm_405 : Cond.methodLink RL 99 yL_isStep ∈ lw_tbl := m_1 (List.mem_of_getElem? (i := 148) rfl)
set_option maxRecDepth 20000 in
theorem wm_406 : Cond.code yL_isWell cL_isWell 12 (some .boolean) ∈ lw_tbl := m_3 (List.mem_of_getElem? (i := 18) rfl)
set_option maxRecDepth 20000 in
theorem wm_407 : Cond.methodLink RL 85 yX4_worst ∈ lw_tbl := m_3 (List.mem_of_getElem? (i := 7) rfl)
set_option maxRecDepth 20000 in
theorem wm_408 : Cond.code yX0_blurOnTrack cX0_blurOnTrack 2 (some .int) ∈ lw_tbl := m_3 (List.mem_of_getElem? (i := 26) rfl)
set_option maxRecDepth 20000 in
theorem wm_409 : Cond.selects RX0 yX0_blurOnTrack yX0_blurOnTrack ∈ lw_tbl := m_3 (List.mem_of_getElem? (i := 25) rfl)
set_option maxRecDepth 20000 in
theorem wm_410 : Cond.instanceMethod yX0_blurOnTrack ∈ lw_tbl := m_3 (List.mem_of_getElem? (i := 24) rfl)
set_option maxRecDepth 20000 in
theorem wm_411 : Cond.methodLink RX4 127 yX0_blurOnTrack ∈ lw_tbl := m_3 (List.mem_of_getElem? (i := 23) rfl)
set_option maxRecDepth 20000 in
theorem wm_412 : Cond.code yX4_track cX4_track 3 (some .int) ∈ lw_tbl := m_3 (List.mem_of_getElem? (i := 22) rfl)
set_option maxRecDepth 20000 in
theorem wm_413 : Cond.selects RX4 yX4_track yX4_track ∈ lw_tbl := m_3 (List.mem_of_getElem? (i := 21) rfl)
set_option maxRecDepth 20000 in
theorem wm_414 : Cond.instanceMethod yX4_track ∈ lw_tbl := m_3 (List.mem_of_getElem? (i := 20) rfl)
set_option maxRecDepth 20000 in
theorem wm_415 : Cond.methodLink RL 91 yX4_track ∈ lw_tbl := m_3 (List.mem_of_getElem? (i := 19) rfl)
set_option maxRecDepth 20000 in
theorem wm_416 : Cond.code yX4_worst cX4_worst 5 (some .int) ∈ lw_tbl := m_3 (List.mem_of_getElem? (i := 10) rfl)
set_option maxRecDepth 20000 in
theorem wm_417 : Cond.selects RX4 yX4_worst yX4_worst ∈ lw_tbl := m_3 (List.mem_of_getElem? (i := 9) rfl)
set_option maxRecDepth 20000 in
theorem wm_418 : Cond.instanceMethod yX4_worst ∈ lw_tbl := m_3 (List.mem_of_getElem? (i := 8) rfl)
set_option maxRecDepth 20000 in
theorem wm_419 : Cond.static yL_isWell ∈ lw_tbl := m_3 (List.mem_of_getElem? (i := 17) rfl)
set_option maxRecDepth 20000 in
theorem wm_420 : Cond.methodLink RL 103 yL_isWell ∈ lw_tbl := m_3 (List.mem_of_getElem? (i := 16) rfl)
set_option maxRecDepth 20000 in
theorem wm_421 : Cond.code yL_areAlike cL_areAlike 6 (some .boolean) ∈ lw_tbl := m_3 (List.mem_of_getElem? (i := 6) rfl)
set_option maxRecDepth 20000 in
theorem wm_422 : Cond.methodLink RL 88 yX4_untilLost ∈ lw_tbl := m_3 (List.mem_of_getElem? (i := 11) rfl)
set_option maxRecDepth 20000 in
theorem wm_423 : Cond.methodLink RX4 171 yX0_fill ∈ lw_tbl := m_3 (List.mem_of_getElem? (i := 15) rfl)
set_option maxRecDepth 20000 in
theorem wm_424 : Cond.code yX4_untilLost cX4_untilLost 6 (some .int) ∈ lw_tbl := m_3 (List.mem_of_getElem? (i := 14) rfl)
set_option maxRecDepth 20000 in
theorem wm_425 : Cond.selects RX4 yX4_untilLost yX4_untilLost ∈ lw_tbl := m_3 (List.mem_of_getElem? (i := 13) rfl)
set_option maxRecDepth 20000 in
theorem wm_426 : Cond.instanceMethod yX4_untilLost ∈ lw_tbl := m_3 (List.mem_of_getElem? (i := 12) rfl)
set_option maxRecDepth 20000 in
theorem wm_427 : Cond.static yL_areAlike ∈ lw_tbl := m_3 (List.mem_of_getElem? (i := 5) rfl)
set_option maxRecDepth 20000 in
theorem wm_428 : Cond.methodLink RL 107 yL_areAlike ∈ lw_tbl := m_3 (List.mem_of_getElem? (i := 4) rfl)
set_option maxRecDepth 20000 in
theorem wm_429 : Cond.classLink RL 10 RX4 ∈ lw_tbl := m_1 (List.mem_of_getElem? (i := 9) rfl)
set_option maxRecDepth 20000 in
theorem wm_430 : Cond.methodLink RL 94 yX4_init ∈ lw_tbl := m_1 (List.mem_of_getElem? (i := 11) rfl)
set_option maxRecDepth 20000 in
theorem wm_431 : Cond.fieldLinkNest RX0 9 "GrooveTurns" "FIRST_SETTINGS" "[I" "GrooveTurns" ∈ lw_tbl := m_1 (List.mem_of_getElem? (i := 23) rfl)
set_option maxRecDepth 20000 in
theorem wm_432 : Cond.methodLinkNest RX3 85 yX4_trackOf RX4 ∈ lw_tbl := m_2 (List.mem_of_getElem? (i := 178) rfl)
set_option maxRecDepth 20000 in
theorem wm_433 : Cond.methodLinkNest RX3 68 yX4_at RX4 ∈ lw_tbl := m_2 (List.mem_of_getElem? (i := 152) rfl)
set_option maxRecDepth 20000 in
theorem wm_434 : Cond.methodLinkNest RX3 61 yX4_lay RX4 ∈ lw_tbl := m_2 (List.mem_of_getElem? (i := 140) rfl)
set_option maxRecDepth 20000 in
theorem wm_435 : Cond.methodLinkNest RX2 25 yX4_at RX4 ∈ lw_tbl := m_2 (List.mem_of_getElem? (i := 131) rfl)
set_option maxRecDepth 20000 in
theorem wm_436 : Cond.methodLinkNest RX2 21 yX4_lay RX4 ∈ lw_tbl := m_2 (List.mem_of_getElem? (i := 114) rfl)
set_option maxRecDepth 20000 in
theorem wm_437 : Cond.methodLinkNest RX0 75 yX4_trackOf RX4 ∈ lw_tbl := m_1 (List.mem_of_getElem? (i := 186) rfl)
set_option maxRecDepth 20000 in
theorem wm_438 : Cond.methodLinkNest RX0 57 yX4_lay RX4 ∈ lw_tbl := m_2 (List.mem_of_getElem? (i := 6) rfl)
set_option maxRecDepth 20000 in
theorem wm_439 : Cond.methodLinkNest RX0 53 yX4_at RX4 ∈ lw_tbl := m_1 (List.mem_of_getElem? (i := 164) rfl)
set_option maxRecDepth 20000 in
theorem wm_440 : Cond.methodLinkNest RX0 43 yX4_copyRow RX4 ∈ lw_tbl := m_1 (List.mem_of_getElem? (i := 25) rfl)
set_option maxRecDepth 20000 in
theorem wm_441 : Cond.methodLinkNest RX0 125 yX4_isAddress RX4 ∈ lw_tbl := m_2 (List.mem_of_getElem? (i := 201) rfl)
set_option maxRecDepth 20000 in
theorem wm_442 : Cond.methodLinkNest RX0 101 yX4_isSpare RX4 ∈ lw_tbl := m_2 (List.mem_of_getElem? (i := 192) rfl)
set_option maxRecDepth 20000 in
theorem wm_443 : Cond.methodLinkNest RX4 35 yX1_init RX4 ∈ lw_tbl := m_1 (List.mem_of_getElem? (i := 108) rfl)
set_option maxRecDepth 20000 in
theorem wm_444 : Cond.methodLinkNest RX4 28 yX3_init RX4 ∈ lw_tbl := m_1 (List.mem_of_getElem? (i := 86) rfl)
set_option maxRecDepth 20000 in
theorem wm_445 : Cond.methodLinkNest RX4 21 yX2_init RX4 ∈ lw_tbl := m_1 (List.mem_of_getElem? (i := 71) rfl)
set_option maxRecDepth 20000 in
theorem wm_446 : Cond.instantiable RX4 6 ∈ lw_tbl := m_1 (List.mem_of_getElem? (i := 10) rfl)
set_option maxRecDepth 20000 in
theorem wm_447 : Cond.instanceMethod yX4_init ∈ lw_tbl := m_1 (List.mem_of_getElem? (i := 12) rfl)
set_option maxRecDepth 20000 in
theorem wm_448 : Cond.laysStatic "GrooveTurns" "FIRST_SETTINGS" "[I" ∈ lw_tbl := m_1 (List.mem_of_getElem? (i := 24) rfl)
set_option maxRecDepth 20000 in
theorem wm_449 : Cond.laysStatic "GrooveTurns" "LOWEST_SETTINGS" "[I" ∈ lw_tbl := m_1 (List.mem_of_getElem? (i := 230) rfl)
set_option maxRecDepth 20000 in
theorem wm_450 : Cond.laysStatic "GrooveTurns" "HIGHEST_SETTINGS" "[I" ∈ lw_tbl := m_1 (List.mem_of_getElem? (i := 233) rfl)
set_option maxRecDepth 20000 in
theorem wm_451 : Cond.arrayOver (.object RX0) ∈ lw_tbl := m_1 (List.mem_of_getElem? (i := 113) rfl)
