set_option maxRecDepth 20000 in
theorem ggX0_init_X4_copyRow : GoodIn wsX0_init wsX4_copyRow := goodIn_r _ [16, 17, 18, 19, 20, 21, 22, 23, 24] rfl (by decide +kernel)
theorem gX0_init_X4_copyRow_n43 : GoodIn wsX0_init (wsX4_copyRow) := ggX0_init_X4_copyRow
set_option maxRecDepth 20000 in
theorem ggX0_init_J7_fill_53178 : GoodIn wsX0_init wsJ7_fill_53178 := goodIn_r _ [28] rfl (by decide +kernel)
set_option maxRecDepth 20000 in
theorem gX0_init_J7_fill_53178 : GoodIn wsX0_init (va_wsS RX0 47 yJ7_fill_53178 wsJ7_fill_53178) := goodIn_app (goodIn_of _ (by decide +kernel)) ggX0_init_J7_fill_53178
theorem dX0_init_0 : decode cX0_init 0 = .ok (.aload_n 0, 1) := by decide +kernel
theorem dX0_init_1 : decode cX0_init 1 = .ok (.invokespecial 3, 3) := by decide +kernel
theorem dX0_init_4 : decode cX0_init 4 = .ok (.aload_n 0, 1) := by decide +kernel
theorem dX0_init_5 : decode cX0_init 5 = .ok (.getstatic 9, 3) := by decide +kernel
theorem dX0_init_8 : decode cX0_init 8 = .ok (.arraylength, 1) := by decide +kernel
theorem dX0_init_9 : decode cX0_init 9 = .ok (.newarray .int, 2) := by decide +kernel
theorem dX0_init_11 : decode cX0_init 11 = .ok (.putfield 13, 3) := by decide +kernel
theorem dX0_init_14 : decode cX0_init 14 = .ok (.aload_n 0, 1) := by decide +kernel
theorem dX0_init_15 : decode cX0_init 15 = .ok (.sipush 204, 3) := by decide +kernel
theorem dX0_init_18 : decode cX0_init 18 = .ok (.newarray .int, 2) := by decide +kernel
theorem dX0_init_20 : decode cX0_init 20 = .ok (.putfield 18, 3) := by decide +kernel
theorem dX0_init_23 : decode cX0_init 23 = .ok (.aload_n 0, 1) := by decide +kernel
theorem dX0_init_24 : decode cX0_init 24 = .ok (.sipush 204, 3) := by decide +kernel
theorem dX0_init_27 : decode cX0_init 27 = .ok (.newarray .int, 2) := by decide +kernel
theorem dX0_init_29 : decode cX0_init 29 = .ok (.putfield 21, 3) := by decide +kernel
theorem dX0_init_32 : decode cX0_init 32 = .ok (.aload_n 0, 1) := by decide +kernel
theorem dX0_init_33 : decode cX0_init 33 = .ok (.sipush 204, 3) := by decide +kernel
theorem dX0_init_36 : decode cX0_init 36 = .ok (.newarray .int, 2) := by decide +kernel
theorem dX0_init_38 : decode cX0_init 38 = .ok (.putfield 24, 3) := by decide +kernel
theorem dX0_init_41 : decode cX0_init 41 = .ok (.aload_n 0, 1) := by decide +kernel
theorem dX0_init_42 : decode cX0_init 42 = .ok (.sipush 192, 3) := by decide +kernel
theorem dX0_init_45 : decode cX0_init 45 = .ok (.newarray .int, 2) := by decide +kernel
theorem dX0_init_47 : decode cX0_init 47 = .ok (.putfield 27, 3) := by decide +kernel
theorem dX0_init_50 : decode cX0_init 50 = .ok (.aload_n 0, 1) := by decide +kernel
theorem dX0_init_51 : decode cX0_init 51 = .ok (.iconst 0, 1) := by decide +kernel
theorem dX0_init_52 : decode cX0_init 52 = .ok (.putfield 30, 3) := by decide +kernel
theorem dX0_init_55 : decode cX0_init 55 = .ok (.aload_n 0, 1) := by decide +kernel
theorem dX0_init_56 : decode cX0_init 56 = .ok (.iconst 0, 1) := by decide +kernel
theorem dX0_init_57 : decode cX0_init 57 = .ok (.putfield 34, 3) := by decide +kernel
theorem dX0_init_60 : decode cX0_init 60 = .ok (.aload_n 0, 1) := by decide +kernel
theorem dX0_init_61 : decode cX0_init 61 = .ok (.iconst 0, 1) := by decide +kernel
theorem dX0_init_62 : decode cX0_init 62 = .ok (.putfield 37, 3) := by decide +kernel
theorem dX0_init_65 : decode cX0_init 65 = .ok (.aload_n 0, 1) := by decide +kernel
theorem dX0_init_66 : decode cX0_init 66 = .ok (.iconst 0, 1) := by decide +kernel
theorem dX0_init_67 : decode cX0_init 67 = .ok (.putfield 40, 3) := by decide +kernel
theorem dX0_init_70 : decode cX0_init 70 = .ok (.getstatic 9, 3) := by decide +kernel
theorem dX0_init_73 : decode cX0_init 73 = .ok (.aload_n 0, 1) := by decide +kernel
theorem dX0_init_74 : decode cX0_init 74 = .ok (.getfield 13, 3) := by decide +kernel
theorem dX0_init_77 : decode cX0_init 77 = .ok (.invokestatic 43, 3) := by decide +kernel
theorem dX0_init_80 : decode cX0_init 80 = .ok (.aload_n 0, 1) := by decide +kernel
theorem dX0_init_81 : decode cX0_init 81 = .ok (.getfield 18, 3) := by decide +kernel
theorem dX0_init_84 : decode cX0_init 84 = .ok (.bipush (-6), 2) := by decide +kernel
theorem dX0_init_86 : decode cX0_init 86 = .ok (.invokestatic 47, 3) := by decide +kernel
theorem dX0_init_89 : decode cX0_init 89 = .ok (.iconst 0, 1) := by decide +kernel
theorem dX0_init_90 : decode cX0_init 90 = .ok (.istore_n 1, 1) := by decide +kernel
theorem dX0_init_91 : decode cX0_init 91 = .ok (.iload_n 1, 1) := by decide +kernel
theorem dX0_init_92 : decode cX0_init 92 = .ok (.aload_n 0, 1) := by decide +kernel
theorem dX0_init_93 : decode cX0_init 93 = .ok (.getfield 27, 3) := by decide +kernel
theorem dX0_init_96 : decode cX0_init 96 = .ok (.arraylength, 1) := by decide +kernel
theorem dX0_init_97 : decode cX0_init 97 = .ok (.if_icmp .ge 16, 3) := by decide +kernel
theorem dX0_init_100 : decode cX0_init 100 = .ok (.aload_n 0, 1) := by decide +kernel
theorem dX0_init_101 : decode cX0_init 101 = .ok (.getfield 27, 3) := by decide +kernel
theorem dX0_init_104 : decode cX0_init 104 = .ok (.iload_n 1, 1) := by decide +kernel
theorem dX0_init_105 : decode cX0_init 105 = .ok (.iload_n 1, 1) := by decide +kernel
theorem dX0_init_106 : decode cX0_init 106 = .ok (.iastore, 1) := by decide +kernel
theorem dX0_init_107 : decode cX0_init 107 = .ok (.iinc 1 1, 3) := by decide +kernel
theorem dX0_init_110 : decode cX0_init 110 = .ok (.goto (-19), 3) := by decide +kernel
theorem dX0_init_113 : decode cX0_init 113 = .ok (.return_, 1) := by decide +kernel
set_option maxRecDepth 20000 in
theorem ggX0_becomeLike_X4_copyRow : GoodIn wsX0_becomeLike wsX4_copyRow := goodIn_r _ [12, 13, 14, 15, 16, 17, 18, 19, 20] rfl (by decide +kernel)
theorem gX0_becomeLike_X4_copyRow_n43 : GoodIn wsX0_becomeLike (wsX4_copyRow) := ggX0_becomeLike_X4_copyRow
theorem dX0_becomeLike_0 : decode cX0_becomeLike 0 = .ok (.aload_n 1, 1) := by decide +kernel
theorem dX0_becomeLike_1 : decode cX0_becomeLike 1 = .ok (.getfield 13, 3) := by decide +kernel
theorem dX0_becomeLike_4 : decode cX0_becomeLike 4 = .ok (.aload_n 0, 1) := by decide +kernel
theorem dX0_becomeLike_5 : decode cX0_becomeLike 5 = .ok (.getfield 13, 3) := by decide +kernel
theorem dX0_becomeLike_8 : decode cX0_becomeLike 8 = .ok (.invokestatic 43, 3) := by decide +kernel
theorem dX0_becomeLike_11 : decode cX0_becomeLike 11 = .ok (.aload_n 1, 1) := by decide +kernel
theorem dX0_becomeLike_12 : decode cX0_becomeLike 12 = .ok (.getfield 18, 3) := by decide +kernel
theorem dX0_becomeLike_15 : decode cX0_becomeLike 15 = .ok (.aload_n 0, 1) := by decide +kernel
theorem dX0_becomeLike_16 : decode cX0_becomeLike 16 = .ok (.getfield 18, 3) := by decide +kernel
theorem dX0_becomeLike_19 : decode cX0_becomeLike 19 = .ok (.invokestatic 43, 3) := by decide +kernel
theorem dX0_becomeLike_22 : decode cX0_becomeLike 22 = .ok (.aload_n 1, 1) := by decide +kernel
theorem dX0_becomeLike_23 : decode cX0_becomeLike 23 = .ok (.getfield 21, 3) := by decide +kernel
theorem dX0_becomeLike_26 : decode cX0_becomeLike 26 = .ok (.aload_n 0, 1) := by decide +kernel
theorem dX0_becomeLike_27 : decode cX0_becomeLike 27 = .ok (.getfield 21, 3) := by decide +kernel
theorem dX0_becomeLike_30 : decode cX0_becomeLike 30 = .ok (.invokestatic 43, 3) := by decide +kernel
theorem dX0_becomeLike_33 : decode cX0_becomeLike 33 = .ok (.aload_n 1, 1) := by decide +kernel
theorem dX0_becomeLike_34 : decode cX0_becomeLike 34 = .ok (.getfield 24, 3) := by decide +kernel
theorem dX0_becomeLike_37 : decode cX0_becomeLike 37 = .ok (.aload_n 0, 1) := by decide +kernel
theorem dX0_becomeLike_38 : decode cX0_becomeLike 38 = .ok (.getfield 24, 3) := by decide +kernel
theorem dX0_becomeLike_41 : decode cX0_becomeLike 41 = .ok (.invokestatic 43, 3) := by decide +kernel
theorem dX0_becomeLike_44 : decode cX0_becomeLike 44 = .ok (.aload_n 1, 1) := by decide +kernel
theorem dX0_becomeLike_45 : decode cX0_becomeLike 45 = .ok (.getfield 27, 3) := by decide +kernel
theorem dX0_becomeLike_48 : decode cX0_becomeLike 48 = .ok (.aload_n 0, 1) := by decide +kernel
theorem dX0_becomeLike_49 : decode cX0_becomeLike 49 = .ok (.getfield 27, 3) := by decide +kernel
theorem dX0_becomeLike_52 : decode cX0_becomeLike 52 = .ok (.invokestatic 43, 3) := by decide +kernel
theorem dX0_becomeLike_55 : decode cX0_becomeLike 55 = .ok (.aload_n 0, 1) := by decide +kernel
theorem dX0_becomeLike_56 : decode cX0_becomeLike 56 = .ok (.aload_n 1, 1) := by decide +kernel
theorem dX0_becomeLike_57 : decode cX0_becomeLike 57 = .ok (.getfield 30, 3) := by decide +kernel
theorem dX0_becomeLike_60 : decode cX0_becomeLike 60 = .ok (.putfield 30, 3) := by decide +kernel
theorem dX0_becomeLike_63 : decode cX0_becomeLike 63 = .ok (.aload_n 0, 1) := by decide +kernel
theorem dX0_becomeLike_64 : decode cX0_becomeLike 64 = .ok (.aload_n 1, 1) := by decide +kernel
theorem dX0_becomeLike_65 : decode cX0_becomeLike 65 = .ok (.getfield 34, 3) := by decide +kernel
theorem dX0_becomeLike_68 : decode cX0_becomeLike 68 = .ok (.putfield 34, 3) := by decide +kernel
theorem dX0_becomeLike_71 : decode cX0_becomeLike 71 = .ok (.aload_n 0, 1) := by decide +kernel
theorem dX0_becomeLike_72 : decode cX0_becomeLike 72 = .ok (.aload_n 1, 1) := by decide +kernel
theorem dX0_becomeLike_73 : decode cX0_becomeLike 73 = .ok (.getfield 37, 3) := by decide +kernel
theorem dX0_becomeLike_76 : decode cX0_becomeLike 76 = .ok (.putfield 37, 3) := by decide +kernel
theorem dX0_becomeLike_79 : decode cX0_becomeLike 79 = .ok (.aload_n 0, 1) := by decide +kernel
theorem dX0_becomeLike_80 : decode cX0_becomeLike 80 = .ok (.aload_n 1, 1) := by decide +kernel
theorem dX0_becomeLike_81 : decode cX0_becomeLike 81 = .ok (.getfield 40, 3) := by decide +kernel
theorem dX0_becomeLike_84 : decode cX0_becomeLike 84 = .ok (.putfield 40, 3) := by decide +kernel
theorem dX0_becomeLike_87 : decode cX0_becomeLike 87 = .ok (.return_, 1) := by decide +kernel
set_option maxRecDepth 20000 in
theorem ggX0_exchangeSetting_X4_at : GoodIn wsX0_exchangeSetting wsX4_at := goodIn_r _ [4] rfl (by decide +kernel)
theorem gX0_exchangeSetting_X4_at_n53 : GoodIn wsX0_exchangeSetting (wsX4_at) := ggX0_exchangeSetting_X4_at
set_option maxRecDepth 20000 in
theorem ggX0_exchangeSetting_X4_lay : GoodIn wsX0_exchangeSetting wsX4_lay := goodIn_r _ [6] rfl (by decide +kernel)
theorem gX0_exchangeSetting_X4_lay_n57 : GoodIn wsX0_exchangeSetting (wsX4_lay) := ggX0_exchangeSetting_X4_lay
theorem dX0_exchangeSetting_0 : decode cX0_exchangeSetting 0 = .ok (.aload_n 0, 1) := by decide +kernel
theorem dX0_exchangeSetting_1 : decode cX0_exchangeSetting 1 = .ok (.getfield 13, 3) := by decide +kernel
theorem dX0_exchangeSetting_4 : decode cX0_exchangeSetting 4 = .ok (.iload_n 1, 1) := by decide +kernel
theorem dX0_exchangeSetting_5 : decode cX0_exchangeSetting 5 = .ok (.invokestatic 53, 3) := by decide +kernel
theorem dX0_exchangeSetting_8 : decode cX0_exchangeSetting 8 = .ok (.istore_n 3, 1) := by decide +kernel
theorem dX0_exchangeSetting_9 : decode cX0_exchangeSetting 9 = .ok (.aload_n 0, 1) := by decide +kernel
theorem dX0_exchangeSetting_10 : decode cX0_exchangeSetting 10 = .ok (.getfield 13, 3) := by decide +kernel
theorem dX0_exchangeSetting_13 : decode cX0_exchangeSetting 13 = .ok (.iload_n 1, 1) := by decide +kernel
theorem dX0_exchangeSetting_14 : decode cX0_exchangeSetting 14 = .ok (.iload_n 2, 1) := by decide +kernel
theorem dX0_exchangeSetting_15 : decode cX0_exchangeSetting 15 = .ok (.invokestatic 57, 3) := by decide +kernel
theorem dX0_exchangeSetting_18 : decode cX0_exchangeSetting 18 = .ok (.iload_n 3, 1) := by decide +kernel
theorem dX0_exchangeSetting_19 : decode cX0_exchangeSetting 19 = .ok (.ireturn, 1) := by decide +kernel
set_option maxRecDepth 20000 in
theorem ggX0_writeTo_X0_sectorToWrite : GoodIn wsX0_writeTo wsX0_sectorToWrite := goodIn_r _ [5, 6, 7, 8, 9, 4, 10, 11, 12, 13, 14, 15, 16, 17, 18, 19, 20, 21, 22, 23, 24, 25, 26, 27, 28, 89, 90, 91, 92, 93, 94, 95, 96, 97] rfl (by decide +kernel)
set_option maxRecDepth 20000 in
theorem gX0_writeTo_X0_sectorToWrite : GoodIn wsX0_writeTo (wsV RX0 61 RX0 yX0_sectorToWrite wsX0_sectorToWrite) := goodIn_app (goodIn_of _ (by decide +kernel)) ggX0_writeTo_X0_sectorToWrite
set_option maxRecDepth 20000 in
theorem ggX0_writeTo_X0_ticksTo : GoodIn wsX0_writeTo wsX0_ticksTo := goodIn_r _ [32, 33, 34, 13, 35, 36, 37, 38, 4, 39, 40, 41, 42, 43, 44, 20, 21, 22, 23, 24, 12, 14, 45, 46, 47, 48, 89, 90, 91, 92, 93, 94, 95, 96, 97] rfl (by decide +kernel)
set_option maxRecDepth 20000 in
theorem gX0_writeTo_X0_ticksTo : GoodIn wsX0_writeTo (wsV RX0 65 RX0 yX0_ticksTo wsX0_ticksTo) := goodIn_app (goodIn_of _ (by decide +kernel)) ggX0_writeTo_X0_ticksTo
set_option maxRecDepth 20000 in
theorem ggX0_writeTo_X0_hasTime : GoodIn wsX0_writeTo wsX0_hasTime := goodIn_r _ [52, 53, 33, 89, 90, 91, 92, 93, 94, 95, 96, 97] rfl (by decide +kernel)
set_option maxRecDepth 20000 in
theorem gX0_writeTo_X0_hasTime : GoodIn wsX0_writeTo (wsV RX0 68 RX0 yX0_hasTime wsX0_hasTime) := goodIn_app (goodIn_of _ (by decide +kernel)) ggX0_writeTo_X0_hasTime
set_option maxRecDepth 20000 in
theorem ggX0_writeTo_X0_fill : GoodIn wsX0_writeTo wsX0_fill := goodIn_r _ [57, 11, 6, 58, 59, 19, 7, 8, 9, 4, 10, 12, 13, 14, 60, 61, 15, 16, 17, 18, 62, 63, 20, 21, 22, 23, 24, 64, 65, 66, 67, 68, 69, 43, 70, 71, 72, 73, 74, 75, 76, 77, 78, 79, 80, 81, 82, 83, 84, 89, 90, 91, 92, 93, 94, 95, 96, 97] rfl (by decide +kernel)
set_option maxRecDepth 20000 in
theorem gX0_writeTo_X0_fill : GoodIn wsX0_writeTo (wsV RX0 72 RX0 yX0_fill wsX0_fill) := goodIn_app (goodIn_of _ (by decide +kernel)) ggX0_writeTo_X0_fill
set_option maxRecDepth 20000 in
theorem ggX0_writeTo_X4_trackOf : GoodIn wsX0_writeTo wsX4_trackOf := goodIn_r _ [35] rfl (by decide +kernel)
theorem gX0_writeTo_X4_trackOf_n75 : GoodIn wsX0_writeTo (wsX4_trackOf) := ggX0_writeTo_X4_trackOf
set_option maxRecDepth 20000 in
theorem ggX0_writeTo_X0_pass : GoodIn wsX0_writeTo wsX0_pass := goodIn_r _ [88, 33, 40, 89, 90, 91, 92, 93, 94, 95, 96, 97] rfl (by decide +kernel)
set_option maxRecDepth 20000 in
theorem gX0_writeTo_X0_pass : GoodIn wsX0_writeTo (wsV RX0 78 RX0 yX0_pass wsX0_pass) := goodIn_app (goodIn_of _ (by decide +kernel)) ggX0_writeTo_X0_pass
theorem dX0_writeTo_0 : decode cX0_writeTo 0 = .ok (.aload_n 0, 1) := by decide +kernel
theorem dX0_writeTo_1 : decode cX0_writeTo 1 = .ok (.iload_n 1, 1) := by decide +kernel
theorem dX0_writeTo_2 : decode cX0_writeTo 2 = .ok (.invokevirtual 61, 3) := by decide +kernel
theorem dX0_writeTo_5 : decode cX0_writeTo 5 = .ok (.istore_n 3, 1) := by decide +kernel
theorem dX0_writeTo_6 : decode cX0_writeTo 6 = .ok (.aload_n 0, 1) := by decide +kernel
theorem dX0_writeTo_7 : decode cX0_writeTo 7 = .ok (.iload_n 3, 1) := by decide +kernel
theorem dX0_writeTo_8 : decode cX0_writeTo 8 = .ok (.invokevirtual 65, 3) := by decide +kernel
theorem dX0_writeTo_11 : decode cX0_writeTo 11 = .ok (.istore 4, 2) := by decide +kernel
theorem dX0_writeTo_13 : decode cX0_writeTo 13 = .ok (.aload_n 0, 1) := by decide +kernel
theorem dX0_writeTo_14 : decode cX0_writeTo 14 = .ok (.iload 4, 2) := by decide +kernel
theorem dX0_writeTo_16 : decode cX0_writeTo 16 = .ok (.invokevirtual 68, 3) := by decide +kernel
theorem dX0_writeTo_19 : decode cX0_writeTo 19 = .ok (.ifCond .ne 6, 3) := by decide +kernel
theorem dX0_writeTo_22 : decode cX0_writeTo 22 = .ok (.bipush (-4), 2) := by decide +kernel
theorem dX0_writeTo_24 : decode cX0_writeTo 24 = .ok (.ireturn, 1) := by decide +kernel
theorem dX0_writeTo_25 : decode cX0_writeTo 25 = .ok (.aload_n 0, 1) := by decide +kernel
theorem dX0_writeTo_26 : decode cX0_writeTo 26 = .ok (.iload_n 3, 1) := by decide +kernel
theorem dX0_writeTo_27 : decode cX0_writeTo 27 = .ok (.iload_n 1, 1) := by decide +kernel
theorem dX0_writeTo_28 : decode cX0_writeTo 28 = .ok (.iload_n 2, 1) := by decide +kernel
theorem dX0_writeTo_29 : decode cX0_writeTo 29 = .ok (.invokevirtual 72, 3) := by decide +kernel
theorem dX0_writeTo_32 : decode cX0_writeTo 32 = .ok (.aload_n 0, 1) := by decide +kernel
theorem dX0_writeTo_33 : decode cX0_writeTo 33 = .ok (.iload 4, 2) := by decide +kernel
theorem dX0_writeTo_35 : decode cX0_writeTo 35 = .ok (.iload_n 3, 1) := by decide +kernel
theorem dX0_writeTo_36 : decode cX0_writeTo 36 = .ok (.invokestatic 75, 3) := by decide +kernel
theorem dX0_writeTo_39 : decode cX0_writeTo 39 = .ok (.invokevirtual 78, 3) := by decide +kernel
theorem dX0_writeTo_42 : decode cX0_writeTo 42 = .ok (.iload 4, 2) := by decide +kernel
theorem dX0_writeTo_44 : decode cX0_writeTo 44 = .ok (.ireturn, 1) := by decide +kernel
set_option maxRecDepth 20000 in
theorem ggX0_readFrom_X0_sectorFor : GoodIn wsX0_readFrom wsX0_sectorFor := goodIn_r _ [6, 7, 8, 9, 10, 63, 64, 65, 66, 67, 68, 69, 70, 71] rfl (by decide +kernel)
set_option maxRecDepth 20000 in
theorem gX0_readFrom_X0_sectorFor : GoodIn wsX0_readFrom (wsV RX0 82 RX0 yX0_sectorFor wsX0_sectorFor) := goodIn_app (goodIn_of _ (by decide +kernel)) ggX0_readFrom_X0_sectorFor
set_option maxRecDepth 20000 in
theorem ggX0_readFrom_X0_isReadable : GoodIn wsX0_readFrom wsX0_isReadable := goodIn_r _ [14, 15, 16, 17, 5, 18, 19, 8, 9, 10, 20, 21, 22, 23, 24, 25, 26, 27, 28, 29, 63, 64, 65, 66, 67, 68, 69, 70, 71] rfl (by decide +kernel)
set_option maxRecDepth 20000 in
theorem gX0_readFrom_X0_isReadable : GoodIn wsX0_readFrom (wsV RX0 85 RX0 yX0_isReadable wsX0_isReadable) := goodIn_app (goodIn_of _ (by decide +kernel)) ggX0_readFrom_X0_isReadable
set_option maxRecDepth 20000 in
theorem ggX0_readFrom_X0_ticksTo : GoodIn wsX0_readFrom wsX0_ticksTo := goodIn_r _ [33, 34, 35, 9, 36, 37, 38, 39, 5, 40, 41, 42, 43, 44, 45, 25, 26, 27, 28, 29, 8, 10, 46, 47, 48, 49, 63, 64, 65, 66, 67, 68, 69, 70, 71] rfl (by decide +kernel)
set_option maxRecDepth 20000 in
theorem gX0_readFrom_X0_ticksTo : GoodIn wsX0_readFrom (wsV RX0 65 RX0 yX0_ticksTo wsX0_ticksTo) := goodIn_app (goodIn_of _ (by decide +kernel)) ggX0_readFrom_X0_ticksTo
set_option maxRecDepth 20000 in
theorem ggX0_readFrom_X0_hasTime : GoodIn wsX0_readFrom wsX0_hasTime := goodIn_r _ [53, 54, 34, 63, 64, 65, 66, 67, 68, 69, 70, 71] rfl (by decide +kernel)
set_option maxRecDepth 20000 in
theorem gX0_readFrom_X0_hasTime : GoodIn wsX0_readFrom (wsV RX0 68 RX0 yX0_hasTime wsX0_hasTime) := goodIn_app (goodIn_of _ (by decide +kernel)) ggX0_readFrom_X0_hasTime
set_option maxRecDepth 20000 in
theorem ggX0_readFrom_X4_trackOf : GoodIn wsX0_readFrom wsX4_trackOf := goodIn_r _ [36] rfl (by decide +kernel)
theorem gX0_readFrom_X4_trackOf_n75 : GoodIn wsX0_readFrom (wsX4_trackOf) := ggX0_readFrom_X4_trackOf
set_option maxRecDepth 20000 in
theorem ggX0_readFrom_X0_pass : GoodIn wsX0_readFrom wsX0_pass := goodIn_r _ [58, 34, 41, 63, 64, 65, 66, 67, 68, 69, 70, 71] rfl (by decide +kernel)
set_option maxRecDepth 20000 in
theorem gX0_readFrom_X0_pass : GoodIn wsX0_readFrom (wsV RX0 78 RX0 yX0_pass wsX0_pass) := goodIn_app (goodIn_of _ (by decide +kernel)) ggX0_readFrom_X0_pass
set_option maxRecDepth 20000 in
theorem ggX0_readFrom_X0_numberIn : GoodIn wsX0_readFrom wsX0_numberIn := goodIn_r _ [62, 19, 8, 9, 10, 63, 64, 65, 66, 67, 68, 69, 70, 71] rfl (by decide +kernel)
set_option maxRecDepth 20000 in
theorem gX0_readFrom_X0_numberIn : GoodIn wsX0_readFrom (wsV RX0 88 RX0 yX0_numberIn wsX0_numberIn) := goodIn_app (goodIn_of _ (by decide +kernel)) ggX0_readFrom_X0_numberIn
theorem dX0_readFrom_0 : decode cX0_readFrom 0 = .ok (.aload_n 0, 1) := by decide +kernel
theorem dX0_readFrom_1 : decode cX0_readFrom 1 = .ok (.iload_n 1, 1) := by decide +kernel
theorem dX0_readFrom_2 : decode cX0_readFrom 2 = .ok (.invokevirtual 82, 3) := by decide +kernel
theorem dX0_readFrom_5 : decode cX0_readFrom 5 = .ok (.istore_n 2, 1) := by decide +kernel
theorem dX0_readFrom_6 : decode cX0_readFrom 6 = .ok (.aload_n 0, 1) := by decide +kernel
theorem dX0_readFrom_7 : decode cX0_readFrom 7 = .ok (.iload_n 2, 1) := by decide +kernel
theorem dX0_readFrom_8 : decode cX0_readFrom 8 = .ok (.invokevirtual 85, 3) := by decide +kernel
theorem dX0_readFrom_11 : decode cX0_readFrom 11 = .ok (.ifCond .ne 6, 3) := by decide +kernel
theorem dX0_readFrom_14 : decode cX0_readFrom 14 = .ok (.bipush (-5), 2) := by decide +kernel
theorem dX0_readFrom_16 : decode cX0_readFrom 16 = .ok (.ireturn, 1) := by decide +kernel
theorem dX0_readFrom_17 : decode cX0_readFrom 17 = .ok (.aload_n 0, 1) := by decide +kernel
theorem dX0_readFrom_18 : decode cX0_readFrom 18 = .ok (.iload_n 2, 1) := by decide +kernel
theorem dX0_readFrom_19 : decode cX0_readFrom 19 = .ok (.invokevirtual 65, 3) := by decide +kernel
theorem dX0_readFrom_22 : decode cX0_readFrom 22 = .ok (.istore_n 3, 1) := by decide +kernel
theorem dX0_readFrom_23 : decode cX0_readFrom 23 = .ok (.aload_n 0, 1) := by decide +kernel
theorem dX0_readFrom_24 : decode cX0_readFrom 24 = .ok (.iload_n 3, 1) := by decide +kernel
theorem dX0_readFrom_25 : decode cX0_readFrom 25 = .ok (.invokevirtual 68, 3) := by decide +kernel
theorem dX0_readFrom_28 : decode cX0_readFrom 28 = .ok (.ifCond .ne 6, 3) := by decide +kernel
theorem dX0_readFrom_31 : decode cX0_readFrom 31 = .ok (.bipush (-4), 2) := by decide +kernel
theorem dX0_readFrom_33 : decode cX0_readFrom 33 = .ok (.ireturn, 1) := by decide +kernel
theorem dX0_readFrom_34 : decode cX0_readFrom 34 = .ok (.aload_n 0, 1) := by decide +kernel
theorem dX0_readFrom_35 : decode cX0_readFrom 35 = .ok (.iload_n 3, 1) := by decide +kernel
theorem dX0_readFrom_36 : decode cX0_readFrom 36 = .ok (.iload_n 2, 1) := by decide +kernel
theorem dX0_readFrom_37 : decode cX0_readFrom 37 = .ok (.invokestatic 75, 3) := by decide +kernel
theorem dX0_readFrom_40 : decode cX0_readFrom 40 = .ok (.invokevirtual 78, 3) := by decide +kernel
theorem dX0_readFrom_43 : decode cX0_readFrom 43 = .ok (.aload_n 0, 1) := by decide +kernel
theorem dX0_readFrom_44 : decode cX0_readFrom 44 = .ok (.dup, 1) := by decide +kernel
theorem dX0_readFrom_45 : decode cX0_readFrom 45 = .ok (.getfield 34, 3) := by decide +kernel
theorem dX0_readFrom_48 : decode cX0_readFrom 48 = .ok (.iconst 1, 1) := by decide +kernel
theorem dX0_readFrom_49 : decode cX0_readFrom 49 = .ok (.iadd, 1) := by decide +kernel
theorem dX0_readFrom_50 : decode cX0_readFrom 50 = .ok (.putfield 34, 3) := by decide +kernel
theorem dX0_readFrom_53 : decode cX0_readFrom 53 = .ok (.aload_n 0, 1) := by decide +kernel
theorem dX0_readFrom_54 : decode cX0_readFrom 54 = .ok (.iload_n 2, 1) := by decide +kernel
theorem dX0_readFrom_55 : decode cX0_readFrom 55 = .ok (.invokevirtual 88, 3) := by decide +kernel
theorem dX0_readFrom_58 : decode cX0_readFrom 58 = .ok (.ireturn, 1) := by decide +kernel
set_option maxRecDepth 20000 in
theorem ggX0_moveHead_X0_ticksToTrack : GoodIn wsX0_moveHead wsX0_ticksToTrack := goodIn_r _ [5, 6, 7, 8, 9, 10, 11, 12, 13, 4, 14, 15, 16, 17, 18, 29, 30, 31, 32, 33, 34, 35, 36, 37] rfl (by decide +kernel)
set_option maxRecDepth 20000 in
theorem gX0_moveHead_X0_ticksToTrack : GoodIn wsX0_moveHead (wsV RX0 91 RX0 yX0_ticksToTrack wsX0_ticksToTrack) := goodIn_app (goodIn_of _ (by decide +kernel)) ggX0_moveHead_X0_ticksToTrack
set_option maxRecDepth 20000 in
theorem ggX0_moveHead_X0_hasTime : GoodIn wsX0_moveHead wsX0_hasTime := goodIn_r _ [22, 23, 24, 29, 30, 31, 32, 33, 34, 35, 36, 37] rfl (by decide +kernel)
set_option maxRecDepth 20000 in
theorem gX0_moveHead_X0_hasTime : GoodIn wsX0_moveHead (wsV RX0 68 RX0 yX0_hasTime wsX0_hasTime) := goodIn_app (goodIn_of _ (by decide +kernel)) ggX0_moveHead_X0_hasTime
set_option maxRecDepth 20000 in
theorem ggX0_moveHead_X0_pass : GoodIn wsX0_moveHead wsX0_pass := goodIn_r _ [28, 24, 6, 29, 30, 31, 32, 33, 34, 35, 36, 37] rfl (by decide +kernel)
set_option maxRecDepth 20000 in
theorem gX0_moveHead_X0_pass : GoodIn wsX0_moveHead (wsV RX0 78 RX0 yX0_pass wsX0_pass) := goodIn_app (goodIn_of _ (by decide +kernel)) ggX0_moveHead_X0_pass
theorem dX0_moveHead_0 : decode cX0_moveHead 0 = .ok (.aload_n 0, 1) := by decide +kernel
theorem dX0_moveHead_1 : decode cX0_moveHead 1 = .ok (.iload_n 1, 1) := by decide +kernel
theorem dX0_moveHead_2 : decode cX0_moveHead 2 = .ok (.invokevirtual 91, 3) := by decide +kernel
theorem dX0_moveHead_5 : decode cX0_moveHead 5 = .ok (.istore_n 2, 1) := by decide +kernel
theorem dX0_moveHead_6 : decode cX0_moveHead 6 = .ok (.aload_n 0, 1) := by decide +kernel
theorem dX0_moveHead_7 : decode cX0_moveHead 7 = .ok (.iload_n 2, 1) := by decide +kernel
theorem dX0_moveHead_8 : decode cX0_moveHead 8 = .ok (.invokevirtual 68, 3) := by decide +kernel
theorem dX0_moveHead_11 : decode cX0_moveHead 11 = .ok (.ifCond .ne 6, 3) := by decide +kernel
theorem dX0_moveHead_14 : decode cX0_moveHead 14 = .ok (.bipush (-4), 2) := by decide +kernel
theorem dX0_moveHead_16 : decode cX0_moveHead 16 = .ok (.ireturn, 1) := by decide +kernel
theorem dX0_moveHead_17 : decode cX0_moveHead 17 = .ok (.aload_n 0, 1) := by decide +kernel
theorem dX0_moveHead_18 : decode cX0_moveHead 18 = .ok (.iload_n 2, 1) := by decide +kernel
theorem dX0_moveHead_19 : decode cX0_moveHead 19 = .ok (.iload_n 1, 1) := by decide +kernel
theorem dX0_moveHead_20 : decode cX0_moveHead 20 = .ok (.invokevirtual 78, 3) := by decide +kernel
theorem dX0_moveHead_23 : decode cX0_moveHead 23 = .ok (.iload_n 2, 1) := by decide +kernel
theorem dX0_moveHead_24 : decode cX0_moveHead 24 = .ok (.ireturn, 1) := by decide +kernel
set_option maxRecDepth 20000 in
theorem ggX0_waitFor_X0_hasTime : GoodIn wsX0_waitFor wsX0_hasTime := goodIn_r _ [6, 7, 8, 17, 18, 19, 20, 21, 22, 23, 24, 25] rfl (by decide +kernel)
set_option maxRecDepth 20000 in
theorem gX0_waitFor_X0_hasTime : GoodIn wsX0_waitFor (wsV RX0 68 RX0 yX0_hasTime wsX0_hasTime) := goodIn_app (goodIn_of _ (by decide +kernel)) ggX0_waitFor_X0_hasTime
set_option maxRecDepth 20000 in
theorem ggX0_waitFor_X0_pass : GoodIn wsX0_waitFor wsX0_pass := goodIn_r _ [12, 8, 1, 17, 18, 19, 20, 21, 22, 23, 24, 25] rfl (by decide +kernel)
set_option maxRecDepth 20000 in
theorem gX0_waitFor_X0_pass : GoodIn wsX0_waitFor (wsV RX0 78 RX0 yX0_pass wsX0_pass) := goodIn_app (goodIn_of _ (by decide +kernel)) ggX0_waitFor_X0_pass
set_option maxRecDepth 20000 in
theorem ggX0_waitFor_X0_sectorUnderHead : GoodIn wsX0_waitFor wsX0_sectorUnderHead := goodIn_r _ [16, 8, 17, 18, 19, 20, 21, 22, 23, 24, 25] rfl (by decide +kernel)
set_option maxRecDepth 20000 in
theorem gX0_waitFor_X0_sectorUnderHead : GoodIn wsX0_waitFor (wsV RX0 94 RX0 yX0_sectorUnderHead wsX0_sectorUnderHead) := goodIn_app (goodIn_of _ (by decide +kernel)) ggX0_waitFor_X0_sectorUnderHead
theorem dX0_waitFor_0 : decode cX0_waitFor 0 = .ok (.aload_n 0, 1) := by decide +kernel
theorem dX0_waitFor_1 : decode cX0_waitFor 1 = .ok (.iload_n 1, 1) := by decide +kernel
theorem dX0_waitFor_2 : decode cX0_waitFor 2 = .ok (.invokevirtual 68, 3) := by decide +kernel
theorem dX0_waitFor_5 : decode cX0_waitFor 5 = .ok (.ifCond .ne 6, 3) := by decide +kernel
theorem dX0_waitFor_8 : decode cX0_waitFor 8 = .ok (.bipush (-4), 2) := by decide +kernel
theorem dX0_waitFor_10 : decode cX0_waitFor 10 = .ok (.ireturn, 1) := by decide +kernel
theorem dX0_waitFor_11 : decode cX0_waitFor 11 = .ok (.aload_n 0, 1) := by decide +kernel
theorem dX0_waitFor_12 : decode cX0_waitFor 12 = .ok (.iload_n 1, 1) := by decide +kernel
theorem dX0_waitFor_13 : decode cX0_waitFor 13 = .ok (.aload_n 0, 1) := by decide +kernel
theorem dX0_waitFor_14 : decode cX0_waitFor 14 = .ok (.getfield 40, 3) := by decide +kernel
theorem dX0_waitFor_17 : decode cX0_waitFor 17 = .ok (.invokevirtual 78, 3) := by decide +kernel
theorem dX0_waitFor_20 : decode cX0_waitFor 20 = .ok (.aload_n 0, 1) := by decide +kernel
theorem dX0_waitFor_21 : decode cX0_waitFor 21 = .ok (.invokevirtual 94, 3) := by decide +kernel
theorem dX0_waitFor_24 : decode cX0_waitFor 24 = .ok (.ireturn, 1) := by decide +kernel
set_option maxRecDepth 20000 in
theorem ggX0_fill_X0_sectorFor : GoodIn wsX0_fill wsX0_sectorFor := goodIn_r _ [10, 1, 11, 12, 13, 49, 50, 51, 52, 53, 54, 55, 56, 57] rfl (by decide +kernel)
set_option maxRecDepth 20000 in
theorem gX0_fill_X0_sectorFor : GoodIn wsX0_fill (wsV RX0 82 RX0 yX0_sectorFor wsX0_sectorFor) := goodIn_app (goodIn_of _ (by decide +kernel)) ggX0_fill_X0_sectorFor
set_option maxRecDepth 20000 in
theorem ggX0_fill_X4_lay : GoodIn wsX0_fill wsX4_lay := goodIn_r _ [15] rfl (by decide +kernel)
theorem gX0_fill_X4_lay_n57 : GoodIn wsX0_fill (wsX4_lay) := ggX0_fill_X4_lay
set_option maxRecDepth 20000 in
theorem ggX0_fill_X0_writingsOf : GoodIn wsX0_fill wsX0_writingsOf := goodIn_r _ [19, 5, 11, 12, 13, 49, 50, 51, 52, 53, 54, 55, 56, 57] rfl (by decide +kernel)
set_option maxRecDepth 20000 in
theorem gX0_fill_X0_writingsOf : GoodIn wsX0_fill (wsV RX0 98 RX0 yX0_writingsOf wsX0_writingsOf) := goodIn_app (goodIn_of _ (by decide +kernel)) ggX0_fill_X0_writingsOf
set_option maxRecDepth 20000 in
theorem ggX0_fill_X4_isSpare : GoodIn wsX0_fill wsX4_isSpare := goodIn_r _ [21] rfl (by decide +kernel)
theorem gX0_fill_X4_isSpare_n101 : GoodIn wsX0_fill (wsX4_isSpare) := ggX0_fill_X4_isSpare
set_option maxRecDepth 20000 in
theorem ggX0_fill_X0_settingOf : GoodIn wsX0_fill wsX0_settingOf := goodIn_r _ [25, 26, 11, 12, 13, 49, 50, 51, 52, 53, 54, 55, 56, 57] rfl (by decide +kernel)
set_option maxRecDepth 20000 in
theorem gX0_fill_X0_settingOf : GoodIn wsX0_fill (wsV RX0 104 RX0 yX0_settingOf wsX0_settingOf) := goodIn_app (goodIn_of _ (by decide +kernel)) ggX0_fill_X0_settingOf
set_option maxRecDepth 20000 in
theorem ggX0_fill_X0_blurBy : GoodIn wsX0_fill wsX0_blurBy := goodIn_r _ [30, 4, 31, 32, 33, 34, 35, 36, 37, 9, 38, 1, 39, 12, 40, 11, 13, 41, 42, 43, 44, 3, 45, 46, 47, 48, 14, 15, 49, 50, 51, 52, 53, 54, 55, 56, 57] rfl (by decide +kernel)
set_option maxRecDepth 20000 in
theorem gX0_fill_X0_blurBy : GoodIn wsX0_fill (wsV RX0 107 RX0 yX0_blurBy wsX0_blurBy) := goodIn_app (goodIn_of _ (by decide +kernel)) ggX0_fill_X0_blurBy
theorem dX0_fill_0 : decode cX0_fill 0 = .ok (.iload_n 1, 1) := by decide +kernel
theorem dX0_fill_1 : decode cX0_fill 1 = .ok (.aload_n 0, 1) := by decide +kernel
theorem dX0_fill_2 : decode cX0_fill 2 = .ok (.iload_n 2, 1) := by decide +kernel
theorem dX0_fill_3 : decode cX0_fill 3 = .ok (.invokevirtual 82, 3) := by decide +kernel
theorem dX0_fill_6 : decode cX0_fill 6 = .ok (.if_icmp .eq 22, 3) := by decide +kernel
theorem dX0_fill_9 : decode cX0_fill 9 = .ok (.aload_n 0, 1) := by decide +kernel
theorem dX0_fill_10 : decode cX0_fill 10 = .ok (.getfield 27, 3) := by decide +kernel
theorem dX0_fill_13 : decode cX0_fill 13 = .ok (.iload_n 2, 1) := by decide +kernel
theorem dX0_fill_14 : decode cX0_fill 14 = .ok (.iload_n 1, 1) := by decide +kernel
theorem dX0_fill_15 : decode cX0_fill 15 = .ok (.invokestatic 57, 3) := by decide +kernel
theorem dX0_fill_18 : decode cX0_fill 18 = .ok (.aload_n 0, 1) := by decide +kernel
theorem dX0_fill_19 : decode cX0_fill 19 = .ok (.dup, 1) := by decide +kernel
theorem dX0_fill_20 : decode cX0_fill 20 = .ok (.getfield 30, 3) := by decide +kernel
theorem dX0_fill_23 : decode cX0_fill 23 = .ok (.iconst 1, 1) := by decide +kernel
theorem dX0_fill_24 : decode cX0_fill 24 = .ok (.iadd, 1) := by decide +kernel
theorem dX0_fill_25 : decode cX0_fill 25 = .ok (.putfield 30, 3) := by decide +kernel
theorem dX0_fill_28 : decode cX0_fill 28 = .ok (.aload_n 0, 1) := by decide +kernel
theorem dX0_fill_29 : decode cX0_fill 29 = .ok (.getfield 18, 3) := by decide +kernel
theorem dX0_fill_32 : decode cX0_fill 32 = .ok (.iload_n 1, 1) := by decide +kernel
theorem dX0_fill_33 : decode cX0_fill 33 = .ok (.iload_n 3, 1) := by decide +kernel
theorem dX0_fill_34 : decode cX0_fill 34 = .ok (.invokestatic 57, 3) := by decide +kernel
theorem dX0_fill_37 : decode cX0_fill 37 = .ok (.aload_n 0, 1) := by decide +kernel
theorem dX0_fill_38 : decode cX0_fill 38 = .ok (.getfield 21, 3) := by decide +kernel
theorem dX0_fill_41 : decode cX0_fill 41 = .ok (.iload_n 1, 1) := by decide +kernel
theorem dX0_fill_42 : decode cX0_fill 42 = .ok (.iconst 0, 1) := by decide +kernel
theorem dX0_fill_43 : decode cX0_fill 43 = .ok (.invokestatic 57, 3) := by decide +kernel
theorem dX0_fill_46 : decode cX0_fill 46 = .ok (.aload_n 0, 1) := by decide +kernel
theorem dX0_fill_47 : decode cX0_fill 47 = .ok (.getfield 24, 3) := by decide +kernel
theorem dX0_fill_50 : decode cX0_fill 50 = .ok (.iload_n 1, 1) := by decide +kernel
theorem dX0_fill_51 : decode cX0_fill 51 = .ok (.aload_n 0, 1) := by decide +kernel
theorem dX0_fill_52 : decode cX0_fill 52 = .ok (.iload_n 1, 1) := by decide +kernel
theorem dX0_fill_53 : decode cX0_fill 53 = .ok (.invokevirtual 98, 3) := by decide +kernel
theorem dX0_fill_56 : decode cX0_fill 56 = .ok (.iconst 1, 1) := by decide +kernel
theorem dX0_fill_57 : decode cX0_fill 57 = .ok (.iadd, 1) := by decide +kernel
theorem dX0_fill_58 : decode cX0_fill 58 = .ok (.invokestatic 57, 3) := by decide +kernel
theorem dX0_fill_61 : decode cX0_fill 61 = .ok (.iload_n 1, 1) := by decide +kernel
theorem dX0_fill_62 : decode cX0_fill 62 = .ok (.invokestatic 101, 3) := by decide +kernel
theorem dX0_fill_65 : decode cX0_fill 65 = .ok (.ifCond .ne 55, 3) := by decide +kernel
theorem dX0_fill_68 : decode cX0_fill 68 = .ok (.aload_n 0, 1) := by decide +kernel
theorem dX0_fill_69 : decode cX0_fill 69 = .ok (.iload_n 1, 1) := by decide +kernel
theorem dX0_fill_70 : decode cX0_fill 70 = .ok (.bipush 12, 2) := by decide +kernel
theorem dX0_fill_72 : decode cX0_fill 72 = .ok (.isub, 1) := by decide +kernel
theorem dX0_fill_73 : decode cX0_fill 73 = .ok (.aload_n 0, 1) := by decide +kernel
theorem dX0_fill_74 : decode cX0_fill 74 = .ok (.iconst 0, 1) := by decide +kernel
theorem dX0_fill_75 : decode cX0_fill 75 = .ok (.invokevirtual 104, 3) := by decide +kernel
theorem dX0_fill_78 : decode cX0_fill 78 = .ok (.invokevirtual 107, 3) := by decide +kernel
theorem dX0_fill_81 : decode cX0_fill 81 = .ok (.aload_n 0, 1) := by decide +kernel
theorem dX0_fill_82 : decode cX0_fill 82 = .ok (.iload_n 1, 1) := by decide +kernel
theorem dX0_fill_83 : decode cX0_fill 83 = .ok (.bipush 12, 2) := by decide +kernel
theorem dX0_fill_85 : decode cX0_fill 85 = .ok (.iadd, 1) := by decide +kernel
theorem dX0_fill_86 : decode cX0_fill 86 = .ok (.aload_n 0, 1) := by decide +kernel
theorem dX0_fill_87 : decode cX0_fill 87 = .ok (.iconst 0, 1) := by decide +kernel
theorem dX0_fill_88 : decode cX0_fill 88 = .ok (.invokevirtual 104, 3) := by decide +kernel
theorem dX0_fill_91 : decode cX0_fill 91 = .ok (.invokevirtual 107, 3) := by decide +kernel
theorem dX0_fill_94 : decode cX0_fill 94 = .ok (.aload_n 0, 1) := by decide +kernel
theorem dX0_fill_95 : decode cX0_fill 95 = .ok (.iload_n 1, 1) := by decide +kernel
theorem dX0_fill_96 : decode cX0_fill 96 = .ok (.bipush 24, 2) := by decide +kernel
theorem dX0_fill_98 : decode cX0_fill 98 = .ok (.isub, 1) := by decide +kernel
theorem dX0_fill_99 : decode cX0_fill 99 = .ok (.aload_n 0, 1) := by decide +kernel
theorem dX0_fill_100 : decode cX0_fill 100 = .ok (.iconst 1, 1) := by decide +kernel
theorem dX0_fill_101 : decode cX0_fill 101 = .ok (.invokevirtual 104, 3) := by decide +kernel
theorem dX0_fill_104 : decode cX0_fill 104 = .ok (.invokevirtual 107, 3) := by decide +kernel
theorem dX0_fill_107 : decode cX0_fill 107 = .ok (.aload_n 0, 1) := by decide +kernel
theorem dX0_fill_108 : decode cX0_fill 108 = .ok (.iload_n 1, 1) := by decide +kernel
theorem dX0_fill_109 : decode cX0_fill 109 = .ok (.bipush 24, 2) := by decide +kernel
theorem dX0_fill_111 : decode cX0_fill 111 = .ok (.iadd, 1) := by decide +kernel
theorem dX0_fill_112 : decode cX0_fill 112 = .ok (.aload_n 0, 1) := by decide +kernel
theorem dX0_fill_113 : decode cX0_fill 113 = .ok (.iconst 1, 1) := by decide +kernel
theorem dX0_fill_114 : decode cX0_fill 114 = .ok (.invokevirtual 104, 3) := by decide +kernel
theorem dX0_fill_117 : decode cX0_fill 117 = .ok (.invokevirtual 107, 3) := by decide +kernel
theorem dX0_fill_120 : decode cX0_fill 120 = .ok (.return_, 1) := by decide +kernel
set_option maxRecDepth 20000 in
theorem ggX0_blurBy_X0_isOnTracksInUse : GoodIn wsX0_blurBy wsX0_isOnTracksInUse := goodIn_r _ [10, 11, 12, 13, 14, 15, 16, 28, 29, 30, 31, 32, 33, 34, 35, 36] rfl (by decide +kernel)
set_option maxRecDepth 20000 in
theorem gX0_blurBy_X0_isOnTracksInUse : GoodIn wsX0_blurBy (wsV RX0 110 RX0 yX0_isOnTracksInUse wsX0_isOnTracksInUse) := goodIn_app (goodIn_of _ (by decide +kernel)) ggX0_blurBy_X0_isOnTracksInUse
set_option maxRecDepth 20000 in
theorem ggX0_blurBy_X0_holdsNumber : GoodIn wsX0_blurBy wsX0_holdsNumber := goodIn_r _ [20, 21, 15, 13, 16, 28, 29, 30, 31, 32, 33, 34, 35, 36] rfl (by decide +kernel)
set_option maxRecDepth 20000 in
theorem gX0_blurBy_X0_holdsNumber : GoodIn wsX0_blurBy (wsV RX0 113 RX0 yX0_holdsNumber wsX0_holdsNumber) := goodIn_app (goodIn_of _ (by decide +kernel)) ggX0_blurBy_X0_holdsNumber
set_option maxRecDepth 20000 in
theorem ggX0_blurBy_X0_blurOf : GoodIn wsX0_blurBy wsX0_blurOf := goodIn_r _ [25, 1, 15, 13, 16, 28, 29, 30, 31, 32, 33, 34, 35, 36] rfl (by decide +kernel)
set_option maxRecDepth 20000 in
theorem gX0_blurBy_X0_blurOf : GoodIn wsX0_blurBy (wsV RX0 116 RX0 yX0_blurOf wsX0_blurOf) := goodIn_app (goodIn_of _ (by decide +kernel)) ggX0_blurBy_X0_blurOf
set_option maxRecDepth 20000 in
theorem ggX0_blurBy_X4_lay : GoodIn wsX0_blurBy wsX4_lay := goodIn_r _ [27] rfl (by decide +kernel)
theorem gX0_blurBy_X4_lay_n57 : GoodIn wsX0_blurBy (wsX4_lay) := ggX0_blurBy_X4_lay
theorem dX0_blurBy_0 : decode cX0_blurBy 0 = .ok (.aload_n 0, 1) := by decide +kernel
theorem dX0_blurBy_1 : decode cX0_blurBy 1 = .ok (.iload_n 1, 1) := by decide +kernel
theorem dX0_blurBy_2 : decode cX0_blurBy 2 = .ok (.invokevirtual 110, 3) := by decide +kernel
theorem dX0_blurBy_5 : decode cX0_blurBy 5 = .ok (.ifCond .eq 31, 3) := by decide +kernel
theorem dX0_blurBy_8 : decode cX0_blurBy 8 = .ok (.aload_n 0, 1) := by decide +kernel
theorem dX0_blurBy_9 : decode cX0_blurBy 9 = .ok (.iload_n 1, 1) := by decide +kernel
theorem dX0_blurBy_10 : decode cX0_blurBy 10 = .ok (.invokevirtual 113, 3) := by decide +kernel
theorem dX0_blurBy_13 : decode cX0_blurBy 13 = .ok (.ifCond .eq 23, 3) := by decide +kernel
theorem dX0_blurBy_16 : decode cX0_blurBy 16 = .ok (.aload_n 0, 1) := by decide +kernel
theorem dX0_blurBy_17 : decode cX0_blurBy 17 = .ok (.getfield 21, 3) := by decide +kernel
theorem dX0_blurBy_20 : decode cX0_blurBy 20 = .ok (.iload_n 1, 1) := by decide +kernel
theorem dX0_blurBy_21 : decode cX0_blurBy 21 = .ok (.bipush 99, 2) := by decide +kernel
theorem dX0_blurBy_23 : decode cX0_blurBy 23 = .ok (.aload_n 0, 1) := by decide +kernel
theorem dX0_blurBy_24 : decode cX0_blurBy 24 = .ok (.iload_n 1, 1) := by decide +kernel
theorem dX0_blurBy_25 : decode cX0_blurBy 25 = .ok (.invokevirtual 116, 3) := by decide +kernel
theorem dX0_blurBy_28 : decode cX0_blurBy 28 = .ok (.iload_n 2, 1) := by decide +kernel
theorem dX0_blurBy_29 : decode cX0_blurBy 29 = .ok (.iadd, 1) := by decide +kernel
theorem dX0_blurBy_30 : decode cX0_blurBy 30 = .ok (.invokestatic 119, 3) := by decide +kernel
theorem dX0_blurBy_33 : decode cX0_blurBy 33 = .ok (.invokestatic 57, 3) := by decide +kernel
theorem dX0_blurBy_36 : decode cX0_blurBy 36 = .ok (.return_, 1) := by decide +kernel
theorem dX0_pass_0 : decode cX0_pass 0 = .ok (.aload_n 0, 1) := by decide +kernel
theorem dX0_pass_1 : decode cX0_pass 1 = .ok (.dup, 1) := by decide +kernel
theorem dX0_pass_2 : decode cX0_pass 2 = .ok (.getfield 37, 3) := by decide +kernel
theorem dX0_pass_5 : decode cX0_pass 5 = .ok (.iload_n 1, 1) := by decide +kernel
theorem dX0_pass_6 : decode cX0_pass 6 = .ok (.iadd, 1) := by decide +kernel
theorem dX0_pass_7 : decode cX0_pass 7 = .ok (.putfield 37, 3) := by decide +kernel
theorem dX0_pass_10 : decode cX0_pass 10 = .ok (.aload_n 0, 1) := by decide +kernel
theorem dX0_pass_11 : decode cX0_pass 11 = .ok (.iload_n 2, 1) := by decide +kernel
theorem dX0_pass_12 : decode cX0_pass 12 = .ok (.putfield 40, 3) := by decide +kernel
theorem dX0_pass_15 : decode cX0_pass 15 = .ok (.return_, 1) := by decide +kernel
set_option maxRecDepth 20000 in
theorem ggX0_isOnTracksInUse_X4_isAddress : GoodIn wsX0_isOnTracksInUse wsX4_isAddress := goodIn_r _ [4] rfl (by decide +kernel)
theorem gX0_isOnTracksInUse_X4_isAddress_n125 : GoodIn wsX0_isOnTracksInUse (wsX4_isAddress) := ggX0_isOnTracksInUse_X4_isAddress
set_option maxRecDepth 20000 in
theorem ggX0_isOnTracksInUse_X4_at : GoodIn wsX0_isOnTracksInUse wsX4_at := goodIn_r _ [6] rfl (by decide +kernel)
theorem gX0_isOnTracksInUse_X4_at_n53 : GoodIn wsX0_isOnTracksInUse (wsX4_at) := ggX0_isOnTracksInUse_X4_at
theorem dX0_isOnTracksInUse_0 : decode cX0_isOnTracksInUse 0 = .ok (.iload_n 1, 1) := by decide +kernel
theorem dX0_isOnTracksInUse_1 : decode cX0_isOnTracksInUse 1 = .ok (.invokestatic 125, 3) := by decide +kernel
theorem dX0_isOnTracksInUse_4 : decode cX0_isOnTracksInUse 4 = .ok (.ifCond .eq 19, 3) := by decide +kernel
theorem dX0_isOnTracksInUse_7 : decode cX0_isOnTracksInUse 7 = .ok (.aload_n 0, 1) := by decide +kernel
theorem dX0_isOnTracksInUse_8 : decode cX0_isOnTracksInUse 8 = .ok (.getfield 27, 3) := by decide +kernel
theorem dX0_isOnTracksInUse_11 : decode cX0_isOnTracksInUse 11 = .ok (.iload_n 1, 1) := by decide +kernel
theorem dX0_isOnTracksInUse_12 : decode cX0_isOnTracksInUse 12 = .ok (.invokestatic 53, 3) := by decide +kernel
theorem dX0_isOnTracksInUse_15 : decode cX0_isOnTracksInUse 15 = .ok (.iload_n 1, 1) := by decide +kernel
theorem dX0_isOnTracksInUse_16 : decode cX0_isOnTracksInUse 16 = .ok (.if_icmp .ne 7, 3) := by decide +kernel
theorem dX0_isOnTracksInUse_19 : decode cX0_isOnTracksInUse 19 = .ok (.iconst 1, 1) := by decide +kernel
theorem dX0_isOnTracksInUse_20 : decode cX0_isOnTracksInUse 20 = .ok (.goto 4, 3) := by decide +kernel
theorem dX0_isOnTracksInUse_23 : decode cX0_isOnTracksInUse 23 = .ok (.iconst 0, 1) := by decide +kernel
theorem dX0_isOnTracksInUse_24 : decode cX0_isOnTracksInUse 24 = .ok (.ireturn, 1) := by decide +kernel
set_option maxRecDepth 20000 in
theorem ggX0_sectorFor_X4_at : GoodIn wsX0_sectorFor wsX4_at := goodIn_r _ [4] rfl (by decide +kernel)
theorem gX0_sectorFor_X4_at_n53 : GoodIn wsX0_sectorFor (wsX4_at) := ggX0_sectorFor_X4_at
theorem dX0_sectorFor_0 : decode cX0_sectorFor 0 = .ok (.aload_n 0, 1) := by decide +kernel
theorem dX0_sectorFor_1 : decode cX0_sectorFor 1 = .ok (.getfield 27, 3) := by decide +kernel
theorem dX0_sectorFor_4 : decode cX0_sectorFor 4 = .ok (.iload_n 1, 1) := by decide +kernel
theorem dX0_sectorFor_5 : decode cX0_sectorFor 5 = .ok (.invokestatic 53, 3) := by decide +kernel
theorem dX0_sectorFor_8 : decode cX0_sectorFor 8 = .ok (.ireturn, 1) := by decide +kernel
set_option maxRecDepth 20000 in
theorem ggX0_sectorToWrite_X0_sectorFor : GoodIn wsX0_sectorToWrite wsX0_sectorFor := goodIn_r _ [6, 7, 8, 9, 10, 25, 26, 27, 28, 29, 30, 31, 32, 33] rfl (by decide +kernel)
set_option maxRecDepth 20000 in
theorem gX0_sectorToWrite_X0_sectorFor : GoodIn wsX0_sectorToWrite (wsV RX0 82 RX0 yX0_sectorFor wsX0_sectorFor) := goodIn_app (goodIn_of _ (by decide +kernel)) ggX0_sectorToWrite_X0_sectorFor
set_option maxRecDepth 20000 in
theorem ggX0_sectorToWrite_X0_writingsOf : GoodIn wsX0_sectorToWrite wsX0_writingsOf := goodIn_r _ [14, 15, 8, 9, 10, 25, 26, 27, 28, 29, 30, 31, 32, 33] rfl (by decide +kernel)
set_option maxRecDepth 20000 in
theorem gX0_sectorToWrite_X0_writingsOf : GoodIn wsX0_sectorToWrite (wsV RX0 98 RX0 yX0_writingsOf wsX0_writingsOf) := goodIn_app (goodIn_of _ (by decide +kernel)) ggX0_sectorToWrite_X0_writingsOf
set_option maxRecDepth 20000 in
theorem ggX0_sectorToWrite_X0_settingOf : GoodIn wsX0_sectorToWrite wsX0_settingOf := goodIn_r _ [19, 20, 8, 9, 10, 25, 26, 27, 28, 29, 30, 31, 32, 33] rfl (by decide +kernel)
set_option maxRecDepth 20000 in
theorem gX0_sectorToWrite_X0_settingOf : GoodIn wsX0_sectorToWrite (wsV RX0 104 RX0 yX0_settingOf wsX0_settingOf) := goodIn_app (goodIn_of _ (by decide +kernel)) ggX0_sectorToWrite_X0_settingOf
set_option maxRecDepth 20000 in
theorem ggX0_sectorToWrite_X0_sparesLeft : GoodIn wsX0_sectorToWrite wsX0_sparesLeft := goodIn_r _ [24, 1, 25, 26, 27, 28, 29, 30, 31, 32, 33] rfl (by decide +kernel)
set_option maxRecDepth 20000 in
theorem gX0_sectorToWrite_X0_sparesLeft : GoodIn wsX0_sectorToWrite (wsV RX0 128 RX0 yX0_sparesLeft wsX0_sparesLeft) := goodIn_app (goodIn_of _ (by decide +kernel)) ggX0_sectorToWrite_X0_sparesLeft
theorem dX0_sectorToWrite_0 : decode cX0_sectorToWrite 0 = .ok (.aload_n 0, 1) := by decide +kernel
theorem dX0_sectorToWrite_1 : decode cX0_sectorToWrite 1 = .ok (.iload_n 1, 1) := by decide +kernel
theorem dX0_sectorToWrite_2 : decode cX0_sectorToWrite 2 = .ok (.invokevirtual 82, 3) := by decide +kernel
theorem dX0_sectorToWrite_5 : decode cX0_sectorToWrite 5 = .ok (.istore_n 2, 1) := by decide +kernel
theorem dX0_sectorToWrite_6 : decode cX0_sectorToWrite 6 = .ok (.aload_n 0, 1) := by decide +kernel
theorem dX0_sectorToWrite_7 : decode cX0_sectorToWrite 7 = .ok (.iload_n 2, 1) := by decide +kernel
theorem dX0_sectorToWrite_8 : decode cX0_sectorToWrite 8 = .ok (.invokevirtual 98, 3) := by decide +kernel
theorem dX0_sectorToWrite_11 : decode cX0_sectorToWrite 11 = .ok (.aload_n 0, 1) := by decide +kernel
theorem dX0_sectorToWrite_12 : decode cX0_sectorToWrite 12 = .ok (.iconst 3, 1) := by decide +kernel
theorem dX0_sectorToWrite_13 : decode cX0_sectorToWrite 13 = .ok (.invokevirtual 104, 3) := by decide +kernel
theorem dX0_sectorToWrite_16 : decode cX0_sectorToWrite 16 = .ok (.if_icmp .lt 7, 3) := by decide +kernel
theorem dX0_sectorToWrite_19 : decode cX0_sectorToWrite 19 = .ok (.iconst 1, 1) := by decide +kernel
theorem dX0_sectorToWrite_20 : decode cX0_sectorToWrite 20 = .ok (.goto 4, 3) := by decide +kernel
theorem dX0_sectorToWrite_23 : decode cX0_sectorToWrite 23 = .ok (.iconst 0, 1) := by decide +kernel
theorem dX0_sectorToWrite_24 : decode cX0_sectorToWrite 24 = .ok (.istore_n 3, 1) := by decide +kernel
theorem dX0_sectorToWrite_25 : decode cX0_sectorToWrite 25 = .ok (.iload_n 3, 1) := by decide +kernel
theorem dX0_sectorToWrite_26 : decode cX0_sectorToWrite 26 = .ok (.ifCond .eq 21, 3) := by decide +kernel
theorem dX0_sectorToWrite_29 : decode cX0_sectorToWrite 29 = .ok (.aload_n 0, 1) := by decide +kernel
theorem dX0_sectorToWrite_30 : decode cX0_sectorToWrite 30 = .ok (.invokevirtual 128, 3) := by decide +kernel
theorem dX0_sectorToWrite_33 : decode cX0_sectorToWrite 33 = .ok (.ifCond .le 14, 3) := by decide +kernel
theorem dX0_sectorToWrite_36 : decode cX0_sectorToWrite 36 = .ok (.sipush 192, 3) := by decide +kernel
theorem dX0_sectorToWrite_39 : decode cX0_sectorToWrite 39 = .ok (.aload_n 0, 1) := by decide +kernel
theorem dX0_sectorToWrite_40 : decode cX0_sectorToWrite 40 = .ok (.getfield 30, 3) := by decide +kernel
theorem dX0_sectorToWrite_43 : decode cX0_sectorToWrite 43 = .ok (.iadd, 1) := by decide +kernel
theorem dX0_sectorToWrite_44 : decode cX0_sectorToWrite 44 = .ok (.goto 4, 3) := by decide +kernel
theorem dX0_sectorToWrite_47 : decode cX0_sectorToWrite 47 = .ok (.iload_n 2, 1) := by decide +kernel
theorem dX0_sectorToWrite_48 : decode cX0_sectorToWrite 48 = .ok (.ireturn, 1) := by decide +kernel
theorem dX0_sparesLeft_0 : decode cX0_sparesLeft 0 = .ok (.bipush 12, 2) := by decide +kernel
theorem dX0_sparesLeft_2 : decode cX0_sparesLeft 2 = .ok (.aload_n 0, 1) := by decide +kernel
theorem dX0_sparesLeft_3 : decode cX0_sparesLeft 3 = .ok (.getfield 30, 3) := by decide +kernel
theorem dX0_sparesLeft_6 : decode cX0_sparesLeft 6 = .ok (.isub, 1) := by decide +kernel
theorem dX0_sparesLeft_7 : decode cX0_sparesLeft 7 = .ok (.ireturn, 1) := by decide +kernel
set_option maxRecDepth 20000 in
theorem ggX0_numberIn_X4_at : GoodIn wsX0_numberIn wsX4_at := goodIn_r _ [4] rfl (by decide +kernel)
theorem gX0_numberIn_X4_at_n53 : GoodIn wsX0_numberIn (wsX4_at) := ggX0_numberIn_X4_at
theorem dX0_numberIn_0 : decode cX0_numberIn 0 = .ok (.aload_n 0, 1) := by decide +kernel
theorem dX0_numberIn_1 : decode cX0_numberIn 1 = .ok (.getfield 18, 3) := by decide +kernel
theorem dX0_numberIn_4 : decode cX0_numberIn 4 = .ok (.iload_n 1, 1) := by decide +kernel
theorem dX0_numberIn_5 : decode cX0_numberIn 5 = .ok (.invokestatic 53, 3) := by decide +kernel
theorem dX0_numberIn_8 : decode cX0_numberIn 8 = .ok (.ireturn, 1) := by decide +kernel
set_option maxRecDepth 20000 in
theorem ggX0_blurOf_X4_at : GoodIn wsX0_blurOf wsX4_at := goodIn_r _ [4] rfl (by decide +kernel)
theorem gX0_blurOf_X4_at_n53 : GoodIn wsX0_blurOf (wsX4_at) := ggX0_blurOf_X4_at
theorem dX0_blurOf_0 : decode cX0_blurOf 0 = .ok (.aload_n 0, 1) := by decide +kernel
theorem dX0_blurOf_1 : decode cX0_blurOf 1 = .ok (.getfield 21, 3) := by decide +kernel
theorem dX0_blurOf_4 : decode cX0_blurOf 4 = .ok (.iload_n 1, 1) := by decide +kernel
theorem dX0_blurOf_5 : decode cX0_blurOf 5 = .ok (.invokestatic 53, 3) := by decide +kernel
theorem dX0_blurOf_8 : decode cX0_blurOf 8 = .ok (.ireturn, 1) := by decide +kernel
set_option maxRecDepth 20000 in
theorem ggX0_writingsOf_X4_at : GoodIn wsX0_writingsOf wsX4_at := goodIn_r _ [4] rfl (by decide +kernel)
theorem gX0_writingsOf_X4_at_n53 : GoodIn wsX0_writingsOf (wsX4_at) := ggX0_writingsOf_X4_at
theorem dX0_writingsOf_0 : decode cX0_writingsOf 0 = .ok (.aload_n 0, 1) := by decide +kernel
theorem dX0_writingsOf_1 : decode cX0_writingsOf 1 = .ok (.getfield 24, 3) := by decide +kernel
theorem dX0_writingsOf_4 : decode cX0_writingsOf 4 = .ok (.iload_n 1, 1) := by decide +kernel
theorem dX0_writingsOf_5 : decode cX0_writingsOf 5 = .ok (.invokestatic 53, 3) := by decide +kernel
theorem dX0_writingsOf_8 : decode cX0_writingsOf 8 = .ok (.ireturn, 1) := by decide +kernel
set_option maxRecDepth 20000 in
theorem ggX0_holdsNumber_X4_at : GoodIn wsX0_holdsNumber wsX4_at := goodIn_r _ [4] rfl (by decide +kernel)
theorem gX0_holdsNumber_X4_at_n53 : GoodIn wsX0_holdsNumber (wsX4_at) := ggX0_holdsNumber_X4_at
theorem dX0_holdsNumber_0 : decode cX0_holdsNumber 0 = .ok (.aload_n 0, 1) := by decide +kernel
theorem dX0_holdsNumber_1 : decode cX0_holdsNumber 1 = .ok (.getfield 18, 3) := by decide +kernel
theorem dX0_holdsNumber_4 : decode cX0_holdsNumber 4 = .ok (.iload_n 1, 1) := by decide +kernel
theorem dX0_holdsNumber_5 : decode cX0_holdsNumber 5 = .ok (.invokestatic 53, 3) := by decide +kernel
theorem dX0_holdsNumber_8 : decode cX0_holdsNumber 8 = .ok (.bipush (-6), 2) := by decide +kernel
theorem dX0_holdsNumber_10 : decode cX0_holdsNumber 10 = .ok (.if_icmp .eq 7, 3) := by decide +kernel
theorem dX0_holdsNumber_13 : decode cX0_holdsNumber 13 = .ok (.iconst 1, 1) := by decide +kernel
theorem dX0_holdsNumber_14 : decode cX0_holdsNumber 14 = .ok (.goto 4, 3) := by decide +kernel
theorem dX0_holdsNumber_17 : decode cX0_holdsNumber 17 = .ok (.iconst 0, 1) := by decide +kernel
theorem dX0_holdsNumber_18 : decode cX0_holdsNumber 18 = .ok (.ireturn, 1) := by decide +kernel
set_option maxRecDepth 20000 in
theorem ggX0_isReadable_X0_holdsNumber : GoodIn wsX0_isReadable wsX0_holdsNumber := goodIn_r _ [5, 6, 7, 8, 9, 20, 21, 22, 23, 24, 25, 26, 27, 28] rfl (by decide +kernel)
set_option maxRecDepth 20000 in
theorem gX0_isReadable_X0_holdsNumber : GoodIn wsX0_isReadable (wsV RX0 113 RX0 yX0_holdsNumber wsX0_holdsNumber) := goodIn_app (goodIn_of _ (by decide +kernel)) ggX0_isReadable_X0_holdsNumber
set_option maxRecDepth 20000 in
theorem ggX0_isReadable_X0_blurOf : GoodIn wsX0_isReadable wsX0_blurOf := goodIn_r _ [13, 14, 7, 8, 9, 20, 21, 22, 23, 24, 25, 26, 27, 28] rfl (by decide +kernel)
set_option maxRecDepth 20000 in
theorem gX0_isReadable_X0_blurOf : GoodIn wsX0_isReadable (wsV RX0 116 RX0 yX0_blurOf wsX0_blurOf) := goodIn_app (goodIn_of _ (by decide +kernel)) ggX0_isReadable_X0_blurOf
set_option maxRecDepth 20000 in
theorem ggX0_isReadable_X0_settingOf : GoodIn wsX0_isReadable wsX0_settingOf := goodIn_r _ [18, 19, 7, 8, 9, 20, 21, 22, 23, 24, 25, 26, 27, 28] rfl (by decide +kernel)
set_option maxRecDepth 20000 in
theorem gX0_isReadable_X0_settingOf : GoodIn wsX0_isReadable (wsV RX0 104 RX0 yX0_settingOf wsX0_settingOf) := goodIn_app (goodIn_of _ (by decide +kernel)) ggX0_isReadable_X0_settingOf
theorem dX0_isReadable_0 : decode cX0_isReadable 0 = .ok (.aload_n 0, 1) := by decide +kernel
theorem dX0_isReadable_1 : decode cX0_isReadable 1 = .ok (.iload_n 1, 1) := by decide +kernel
theorem dX0_isReadable_2 : decode cX0_isReadable 2 = .ok (.invokevirtual 113, 3) := by decide +kernel
theorem dX0_isReadable_5 : decode cX0_isReadable 5 = .ok (.ifCond .eq 20, 3) := by decide +kernel
theorem dX0_isReadable_8 : decode cX0_isReadable 8 = .ok (.aload_n 0, 1) := by decide +kernel
theorem dX0_isReadable_9 : decode cX0_isReadable 9 = .ok (.iload_n 1, 1) := by decide +kernel
theorem dX0_isReadable_10 : decode cX0_isReadable 10 = .ok (.invokevirtual 116, 3) := by decide +kernel
theorem dX0_isReadable_13 : decode cX0_isReadable 13 = .ok (.aload_n 0, 1) := by decide +kernel
theorem dX0_isReadable_14 : decode cX0_isReadable 14 = .ok (.iconst 2, 1) := by decide +kernel
theorem dX0_isReadable_15 : decode cX0_isReadable 15 = .ok (.invokevirtual 104, 3) := by decide +kernel
theorem dX0_isReadable_18 : decode cX0_isReadable 18 = .ok (.if_icmp .ge 7, 3) := by decide +kernel
theorem dX0_isReadable_21 : decode cX0_isReadable 21 = .ok (.iconst 1, 1) := by decide +kernel
theorem dX0_isReadable_22 : decode cX0_isReadable 22 = .ok (.goto 4, 3) := by decide +kernel
theorem dX0_isReadable_25 : decode cX0_isReadable 25 = .ok (.iconst 0, 1) := by decide +kernel
theorem dX0_isReadable_26 : decode cX0_isReadable 26 = .ok (.ireturn, 1) := by decide +kernel
set_option maxRecDepth 20000 in
theorem ggX0_settingOf_X4_at : GoodIn wsX0_settingOf wsX4_at := goodIn_r _ [4] rfl (by decide +kernel)
theorem gX0_settingOf_X4_at_n53 : GoodIn wsX0_settingOf (wsX4_at) := ggX0_settingOf_X4_at
theorem dX0_settingOf_0 : decode cX0_settingOf 0 = .ok (.aload_n 0, 1) := by decide +kernel
theorem dX0_settingOf_1 : decode cX0_settingOf 1 = .ok (.getfield 13, 3) := by decide +kernel
theorem dX0_settingOf_4 : decode cX0_settingOf 4 = .ok (.iload_n 1, 1) := by decide +kernel
theorem dX0_settingOf_5 : decode cX0_settingOf 5 = .ok (.invokestatic 53, 3) := by decide +kernel
theorem dX0_settingOf_8 : decode cX0_settingOf 8 = .ok (.ireturn, 1) := by decide +kernel
set_option maxRecDepth 20000 in
theorem ggX0_ticksTo_X4_trackOf : GoodIn wsX0_ticksTo wsX4_trackOf := goodIn_r _ [4] rfl (by decide +kernel)
theorem gX0_ticksTo_X4_trackOf_n75 : GoodIn wsX0_ticksTo (wsX4_trackOf) := ggX0_ticksTo_X4_trackOf
set_option maxRecDepth 20000 in
theorem ggX0_ticksTo_X0_ticksToTrack : GoodIn wsX0_ticksTo wsX0_ticksToTrack := goodIn_r _ [9, 10, 11, 12, 13, 14, 15, 16, 17, 8, 18, 19, 20, 3, 21, 26, 27, 28, 29, 30, 31, 32, 33, 34] rfl (by decide +kernel)
set_option maxRecDepth 20000 in
theorem gX0_ticksTo_X0_ticksToTrack : GoodIn wsX0_ticksTo (wsV RX0 91 RX0 yX0_ticksToTrack wsX0_ticksToTrack) := goodIn_app (goodIn_of _ (by decide +kernel)) ggX0_ticksTo_X0_ticksToTrack
set_option maxRecDepth 20000 in
theorem ggX0_ticksTo_J9_floorMod_7cf53 : GoodIn wsX0_ticksTo wsJ9_floorMod_7cf53 := goodIn_r _ [25] rfl (by decide +kernel)
set_option maxRecDepth 20000 in
theorem gX0_ticksTo_J9_floorMod_7cf53 : GoodIn wsX0_ticksTo (va_wsS RX0 131 yJ9_floorMod_7cf53 wsJ9_floorMod_7cf53) := goodIn_app (goodIn_of _ (by decide +kernel)) ggX0_ticksTo_J9_floorMod_7cf53
theorem dX0_ticksTo_0 : decode cX0_ticksTo 0 = .ok (.aload_n 0, 1) := by decide +kernel
theorem dX0_ticksTo_1 : decode cX0_ticksTo 1 = .ok (.iload_n 1, 1) := by decide +kernel
theorem dX0_ticksTo_2 : decode cX0_ticksTo 2 = .ok (.invokestatic 75, 3) := by decide +kernel
theorem dX0_ticksTo_5 : decode cX0_ticksTo 5 = .ok (.invokevirtual 91, 3) := by decide +kernel
theorem dX0_ticksTo_8 : decode cX0_ticksTo 8 = .ok (.istore_n 2, 1) := by decide +kernel
theorem dX0_ticksTo_9 : decode cX0_ticksTo 9 = .ok (.iload_n 1, 1) := by decide +kernel
theorem dX0_ticksTo_10 : decode cX0_ticksTo 10 = .ok (.aload_n 0, 1) := by decide +kernel
theorem dX0_ticksTo_11 : decode cX0_ticksTo 11 = .ok (.getfield 37, 3) := by decide +kernel
theorem dX0_ticksTo_14 : decode cX0_ticksTo 14 = .ok (.iload_n 2, 1) := by decide +kernel
theorem dX0_ticksTo_15 : decode cX0_ticksTo 15 = .ok (.iadd, 1) := by decide +kernel
theorem dX0_ticksTo_16 : decode cX0_ticksTo 16 = .ok (.isub, 1) := by decide +kernel
theorem dX0_ticksTo_17 : decode cX0_ticksTo 17 = .ok (.bipush 12, 2) := by decide +kernel
theorem dX0_ticksTo_19 : decode cX0_ticksTo 19 = .ok (.invokestatic 131, 3) := by decide +kernel
theorem dX0_ticksTo_22 : decode cX0_ticksTo 22 = .ok (.istore_n 3, 1) := by decide +kernel
theorem dX0_ticksTo_23 : decode cX0_ticksTo 23 = .ok (.iload_n 2, 1) := by decide +kernel
theorem dX0_ticksTo_24 : decode cX0_ticksTo 24 = .ok (.iload_n 3, 1) := by decide +kernel
theorem dX0_ticksTo_25 : decode cX0_ticksTo 25 = .ok (.iadd, 1) := by decide +kernel
theorem dX0_ticksTo_26 : decode cX0_ticksTo 26 = .ok (.iconst 1, 1) := by decide +kernel
theorem dX0_ticksTo_27 : decode cX0_ticksTo 27 = .ok (.iadd, 1) := by decide +kernel
theorem dX0_ticksTo_28 : decode cX0_ticksTo 28 = .ok (.ireturn, 1) := by decide +kernel
set_option maxRecDepth 20000 in
theorem ggX0_ticksToTrack_X0_settingOf : GoodIn wsX0_ticksToTrack wsX0_settingOf := goodIn_r _ [10, 11, 12, 13, 14, 15, 16, 17, 18, 19, 20, 21, 22, 23] rfl (by decide +kernel)
set_option maxRecDepth 20000 in
theorem gX0_ticksToTrack_X0_settingOf : GoodIn wsX0_ticksToTrack (wsV RX0 104 RX0 yX0_settingOf wsX0_settingOf) := goodIn_app (goodIn_of _ (by decide +kernel)) ggX0_ticksToTrack_X0_settingOf
theorem dX0_ticksToTrack_0 : decode cX0_ticksToTrack 0 = .ok (.aload_n 0, 1) := by decide +kernel
theorem dX0_ticksToTrack_1 : decode cX0_ticksToTrack 1 = .ok (.iconst 4, 1) := by decide +kernel
theorem dX0_ticksToTrack_2 : decode cX0_ticksToTrack 2 = .ok (.invokevirtual 104, 3) := by decide +kernel
theorem dX0_ticksToTrack_5 : decode cX0_ticksToTrack 5 = .ok (.iload_n 1, 1) := by decide +kernel
theorem dX0_ticksToTrack_6 : decode cX0_ticksToTrack 6 = .ok (.aload_n 0, 1) := by decide +kernel
theorem dX0_ticksToTrack_7 : decode cX0_ticksToTrack 7 = .ok (.getfield 40, 3) := by decide +kernel
theorem dX0_ticksToTrack_10 : decode cX0_ticksToTrack 10 = .ok (.isub, 1) := by decide +kernel
theorem dX0_ticksToTrack_11 : decode cX0_ticksToTrack 11 = .ok (.invokestatic 134, 3) := by decide +kernel
theorem dX0_ticksToTrack_14 : decode cX0_ticksToTrack 14 = .ok (.imul, 1) := by decide +kernel
theorem dX0_ticksToTrack_15 : decode cX0_ticksToTrack 15 = .ok (.ireturn, 1) := by decide +kernel
theorem dX0_hasTime_0 : decode cX0_hasTime 0 = .ok (.iload_n 1, 1) := by decide +kernel
theorem dX0_hasTime_1 : decode cX0_hasTime 1 = .ok (.ldc 137, 2) := by decide +kernel
theorem dX0_hasTime_3 : decode cX0_hasTime 3 = .ok (.aload_n 0, 1) := by decide +kernel
theorem dX0_hasTime_4 : decode cX0_hasTime 4 = .ok (.getfield 37, 3) := by decide +kernel
theorem dX0_hasTime_7 : decode cX0_hasTime 7 = .ok (.isub, 1) := by decide +kernel
theorem dX0_hasTime_8 : decode cX0_hasTime 8 = .ok (.if_icmp .gt 7, 3) := by decide +kernel
theorem dX0_hasTime_11 : decode cX0_hasTime 11 = .ok (.iconst 1, 1) := by decide +kernel
theorem dX0_hasTime_12 : decode cX0_hasTime 12 = .ok (.goto 4, 3) := by decide +kernel
theorem dX0_hasTime_15 : decode cX0_hasTime 15 = .ok (.iconst 0, 1) := by decide +kernel
theorem dX0_hasTime_16 : decode cX0_hasTime 16 = .ok (.ireturn, 1) := by decide +kernel
theorem dX0_sectorUnderHead_0 : decode cX0_sectorUnderHead 0 = .ok (.aload_n 0, 1) := by decide +kernel
theorem dX0_sectorUnderHead_1 : decode cX0_sectorUnderHead 1 = .ok (.getfield 37, 3) := by decide +kernel
theorem dX0_sectorUnderHead_4 : decode cX0_sectorUnderHead 4 = .ok (.bipush 12, 2) := by decide +kernel
theorem dX0_sectorUnderHead_6 : decode cX0_sectorUnderHead 6 = .ok (.irem, 1) := by decide +kernel
theorem dX0_sectorUnderHead_7 : decode cX0_sectorUnderHead 7 = .ok (.ireturn, 1) := by decide +kernel
set_option maxRecDepth 20000 in
theorem ggX0_filledOn_X0_sectorFor : GoodIn wsX0_filledOn wsX0_sectorFor := goodIn_r _ [5, 6, 7, 8, 9, 20, 21, 22, 23, 24, 25, 26, 27, 28] rfl (by decide +kernel)
set_option maxRecDepth 20000 in
theorem gX0_filledOn_X0_sectorFor : GoodIn wsX0_filledOn (wsV RX0 82 RX0 yX0_sectorFor wsX0_sectorFor) := goodIn_app (goodIn_of _ (by decide +kernel)) ggX0_filledOn_X0_sectorFor
set_option maxRecDepth 20000 in
theorem ggX0_filledOn_X0_isWithin : GoodIn wsX0_filledOn wsX0_isWithin := goodIn_r _ [12, 13, 8, 14] rfl (by decide +kernel)
set_option maxRecDepth 20000 in
theorem gX0_filledOn_X0_isWithin : GoodIn wsX0_filledOn (va_wsS RX0 138 yX0_isWithin wsX0_isWithin) := goodIn_app (goodIn_of _ (by decide +kernel)) ggX0_filledOn_X0_isWithin
set_option maxRecDepth 20000 in
theorem ggX0_filledOn_X0_holdsNumber : GoodIn wsX0_filledOn wsX0_holdsNumber := goodIn_r _ [18, 19, 7, 8, 9, 20, 21, 22, 23, 24, 25, 26, 27, 28] rfl (by decide +kernel)
set_option maxRecDepth 20000 in
theorem gX0_filledOn_X0_holdsNumber : GoodIn wsX0_filledOn (wsV RX0 113 RX0 yX0_holdsNumber wsX0_holdsNumber) := goodIn_app (goodIn_of _ (by decide +kernel)) ggX0_filledOn_X0_holdsNumber
theorem dX0_filledOn_0 : decode cX0_filledOn 0 = .ok (.iconst 0, 1) := by decide +kernel
theorem dX0_filledOn_1 : decode cX0_filledOn 1 = .ok (.istore_n 3, 1) := by decide +kernel
theorem dX0_filledOn_2 : decode cX0_filledOn 2 = .ok (.iconst 0, 1) := by decide +kernel
theorem dX0_filledOn_3 : decode cX0_filledOn 3 = .ok (.istore 4, 2) := by decide +kernel
theorem dX0_filledOn_5 : decode cX0_filledOn 5 = .ok (.iload 4, 2) := by decide +kernel
theorem dX0_filledOn_7 : decode cX0_filledOn 7 = .ok (.sipush 192, 3) := by decide +kernel
theorem dX0_filledOn_10 : decode cX0_filledOn 10 = .ok (.if_icmp .ge 39, 3) := by decide +kernel
theorem dX0_filledOn_13 : decode cX0_filledOn 13 = .ok (.aload_n 0, 1) := by decide +kernel
theorem dX0_filledOn_14 : decode cX0_filledOn 14 = .ok (.iload 4, 2) := by decide +kernel
theorem dX0_filledOn_16 : decode cX0_filledOn 16 = .ok (.invokevirtual 82, 3) := by decide +kernel
theorem dX0_filledOn_19 : decode cX0_filledOn 19 = .ok (.istore 5, 2) := by decide +kernel
theorem dX0_filledOn_21 : decode cX0_filledOn 21 = .ok (.iload 5, 2) := by decide +kernel
theorem dX0_filledOn_23 : decode cX0_filledOn 23 = .ok (.iload_n 1, 1) := by decide +kernel
theorem dX0_filledOn_24 : decode cX0_filledOn 24 = .ok (.iload_n 2, 1) := by decide +kernel
theorem dX0_filledOn_25 : decode cX0_filledOn 25 = .ok (.invokestatic 138, 3) := by decide +kernel
theorem dX0_filledOn_28 : decode cX0_filledOn 28 = .ok (.ifCond .eq 15, 3) := by decide +kernel
theorem dX0_filledOn_31 : decode cX0_filledOn 31 = .ok (.aload_n 0, 1) := by decide +kernel
theorem dX0_filledOn_32 : decode cX0_filledOn 32 = .ok (.iload 5, 2) := by decide +kernel
theorem dX0_filledOn_34 : decode cX0_filledOn 34 = .ok (.invokevirtual 113, 3) := by decide +kernel
theorem dX0_filledOn_37 : decode cX0_filledOn 37 = .ok (.ifCond .eq 6, 3) := by decide +kernel
theorem dX0_filledOn_40 : decode cX0_filledOn 40 = .ok (.iinc 3 1, 3) := by decide +kernel
theorem dX0_filledOn_43 : decode cX0_filledOn 43 = .ok (.iinc 4 1, 3) := by decide +kernel
theorem dX0_filledOn_46 : decode cX0_filledOn 46 = .ok (.goto (-41), 3) := by decide +kernel
theorem dX0_filledOn_49 : decode cX0_filledOn 49 = .ok (.iload_n 3, 1) := by decide +kernel
theorem dX0_filledOn_50 : decode cX0_filledOn 50 = .ok (.ireturn, 1) := by decide +kernel
set_option maxRecDepth 20000 in
theorem ggX0_unreadableOn_X0_sectorFor : GoodIn wsX0_unreadableOn wsX0_sectorFor := goodIn_r _ [5, 6, 7, 8, 9, 34, 35, 36, 37, 38, 39, 40, 41, 42] rfl (by decide +kernel)
set_option maxRecDepth 20000 in
theorem gX0_unreadableOn_X0_sectorFor : GoodIn wsX0_unreadableOn (wsV RX0 82 RX0 yX0_sectorFor wsX0_sectorFor) := goodIn_app (goodIn_of _ (by decide +kernel)) ggX0_unreadableOn_X0_sectorFor
set_option maxRecDepth 20000 in
theorem ggX0_unreadableOn_X0_isWithin : GoodIn wsX0_unreadableOn wsX0_isWithin := goodIn_r _ [12, 13, 8, 14] rfl (by decide +kernel)
set_option maxRecDepth 20000 in
theorem gX0_unreadableOn_X0_isWithin : GoodIn wsX0_unreadableOn (va_wsS RX0 138 yX0_isWithin wsX0_isWithin) := goodIn_app (goodIn_of _ (by decide +kernel)) ggX0_unreadableOn_X0_isWithin
set_option maxRecDepth 20000 in
theorem ggX0_unreadableOn_X0_holdsNumber : GoodIn wsX0_unreadableOn wsX0_holdsNumber := goodIn_r _ [18, 19, 7, 8, 9, 34, 35, 36, 37, 38, 39, 40, 41, 42] rfl (by decide +kernel)
set_option maxRecDepth 20000 in
theorem gX0_unreadableOn_X0_holdsNumber : GoodIn wsX0_unreadableOn (wsV RX0 113 RX0 yX0_holdsNumber wsX0_holdsNumber) := goodIn_app (goodIn_of _ (by decide +kernel)) ggX0_unreadableOn_X0_holdsNumber
set_option maxRecDepth 20000 in
theorem ggX0_unreadableOn_X0_isReadable : GoodIn wsX0_unreadableOn wsX0_isReadable := goodIn_r _ [23, 15, 16, 17, 4, 18, 19, 7, 8, 9, 24, 25, 26, 27, 28, 29, 30, 31, 32, 33, 34, 35, 36, 37, 38, 39, 40, 41, 42] rfl (by decide +kernel)
set_option maxRecDepth 20000 in
theorem gX0_unreadableOn_X0_isReadable : GoodIn wsX0_unreadableOn (wsV RX0 85 RX0 yX0_isReadable wsX0_isReadable) := goodIn_app (goodIn_of _ (by decide +kernel)) ggX0_unreadableOn_X0_isReadable
theorem dX0_unreadableOn_0 : decode cX0_unreadableOn 0 = .ok (.iconst 0, 1) := by decide +kernel
theorem dX0_unreadableOn_1 : decode cX0_unreadableOn 1 = .ok (.istore_n 3, 1) := by decide +kernel
theorem dX0_unreadableOn_2 : decode cX0_unreadableOn 2 = .ok (.iconst 0, 1) := by decide +kernel
theorem dX0_unreadableOn_3 : decode cX0_unreadableOn 3 = .ok (.istore 4, 2) := by decide +kernel
theorem dX0_unreadableOn_5 : decode cX0_unreadableOn 5 = .ok (.iload 4, 2) := by decide +kernel
theorem dX0_unreadableOn_7 : decode cX0_unreadableOn 7 = .ok (.sipush 192, 3) := by decide +kernel
theorem dX0_unreadableOn_10 : decode cX0_unreadableOn 10 = .ok (.if_icmp .ge 48, 3) := by decide +kernel
theorem dX0_unreadableOn_13 : decode cX0_unreadableOn 13 = .ok (.aload_n 0, 1) := by decide +kernel
theorem dX0_unreadableOn_14 : decode cX0_unreadableOn 14 = .ok (.iload 4, 2) := by decide +kernel
theorem dX0_unreadableOn_16 : decode cX0_unreadableOn 16 = .ok (.invokevirtual 82, 3) := by decide +kernel
theorem dX0_unreadableOn_19 : decode cX0_unreadableOn 19 = .ok (.istore 5, 2) := by decide +kernel
theorem dX0_unreadableOn_21 : decode cX0_unreadableOn 21 = .ok (.iload 5, 2) := by decide +kernel
theorem dX0_unreadableOn_23 : decode cX0_unreadableOn 23 = .ok (.iload_n 1, 1) := by decide +kernel
theorem dX0_unreadableOn_24 : decode cX0_unreadableOn 24 = .ok (.iload_n 2, 1) := by decide +kernel
theorem dX0_unreadableOn_25 : decode cX0_unreadableOn 25 = .ok (.invokestatic 138, 3) := by decide +kernel
theorem dX0_unreadableOn_28 : decode cX0_unreadableOn 28 = .ok (.ifCond .eq 24, 3) := by decide +kernel
theorem dX0_unreadableOn_31 : decode cX0_unreadableOn 31 = .ok (.aload_n 0, 1) := by decide +kernel
theorem dX0_unreadableOn_32 : decode cX0_unreadableOn 32 = .ok (.iload 5, 2) := by decide +kernel
theorem dX0_unreadableOn_34 : decode cX0_unreadableOn 34 = .ok (.invokevirtual 113, 3) := by decide +kernel
theorem dX0_unreadableOn_37 : decode cX0_unreadableOn 37 = .ok (.ifCond .eq 15, 3) := by decide +kernel
theorem dX0_unreadableOn_40 : decode cX0_unreadableOn 40 = .ok (.aload_n 0, 1) := by decide +kernel
theorem dX0_unreadableOn_41 : decode cX0_unreadableOn 41 = .ok (.iload 5, 2) := by decide +kernel
theorem dX0_unreadableOn_43 : decode cX0_unreadableOn 43 = .ok (.invokevirtual 85, 3) := by decide +kernel
theorem dX0_unreadableOn_46 : decode cX0_unreadableOn 46 = .ok (.ifCond .ne 6, 3) := by decide +kernel
theorem dX0_unreadableOn_49 : decode cX0_unreadableOn 49 = .ok (.iinc 3 1, 3) := by decide +kernel
theorem dX0_unreadableOn_52 : decode cX0_unreadableOn 52 = .ok (.iinc 4 1, 3) := by decide +kernel
theorem dX0_unreadableOn_55 : decode cX0_unreadableOn 55 = .ok (.goto (-50), 3) := by decide +kernel
theorem dX0_unreadableOn_58 : decode cX0_unreadableOn 58 = .ok (.iload_n 3, 1) := by decide +kernel
theorem dX0_unreadableOn_59 : decode cX0_unreadableOn 59 = .ok (.ireturn, 1) := by decide +kernel
set_option maxRecDepth 20000 in
theorem ggX0_isWithin_X4_trackOf : GoodIn wsX0_isWithin wsX4_trackOf := goodIn_r _ [3] rfl (by decide +kernel)
theorem gX0_isWithin_X4_trackOf_n75 : GoodIn wsX0_isWithin (wsX4_trackOf) := ggX0_isWithin_X4_trackOf
theorem dX0_isWithin_0 : decode cX0_isWithin 0 = .ok (.iload_n 0, 1) := by decide +kernel
theorem dX0_isWithin_1 : decode cX0_isWithin 1 = .ok (.invokestatic 75, 3) := by decide +kernel
theorem dX0_isWithin_4 : decode cX0_isWithin 4 = .ok (.iload_n 1, 1) := by decide +kernel
theorem dX0_isWithin_5 : decode cX0_isWithin 5 = .ok (.if_icmp .lt 15, 3) := by decide +kernel
theorem dX0_isWithin_8 : decode cX0_isWithin 8 = .ok (.iload_n 0, 1) := by decide +kernel
theorem dX0_isWithin_9 : decode cX0_isWithin 9 = .ok (.invokestatic 75, 3) := by decide +kernel
theorem dX0_isWithin_12 : decode cX0_isWithin 12 = .ok (.iload_n 2, 1) := by decide +kernel
theorem dX0_isWithin_13 : decode cX0_isWithin 13 = .ok (.if_icmp .gt 7, 3) := by decide +kernel
theorem dX0_isWithin_16 : decode cX0_isWithin 16 = .ok (.iconst 1, 1) := by decide +kernel
theorem dX0_isWithin_17 : decode cX0_isWithin 17 = .ok (.goto 4, 3) := by decide +kernel
theorem dX0_isWithin_20 : decode cX0_isWithin 20 = .ok (.iconst 0, 1) := by decide +kernel
theorem dX0_isWithin_21 : decode cX0_isWithin 21 = .ok (.ireturn, 1) := by decide +kernel
set_option maxRecDepth 20000 in
theorem ggX0_blurOnTrack_X0_sumOnTrack : GoodIn wsX0_blurOnTrack wsX0_sumOnTrack := goodIn_r _ [5, 6, 7, 8] rfl (by decide +kernel)
set_option maxRecDepth 20000 in
theorem gX0_blurOnTrack_X0_sumOnTrack : GoodIn wsX0_blurOnTrack (va_wsS RX0 142 yX0_sumOnTrack wsX0_sumOnTrack) := goodIn_app (goodIn_of _ (by decide +kernel)) ggX0_blurOnTrack_X0_sumOnTrack
theorem dX0_blurOnTrack_0 : decode cX0_blurOnTrack 0 = .ok (.aload_n 0, 1) := by decide +kernel
theorem dX0_blurOnTrack_1 : decode cX0_blurOnTrack 1 = .ok (.getfield 21, 3) := by decide +kernel
theorem dX0_blurOnTrack_4 : decode cX0_blurOnTrack 4 = .ok (.iload_n 1, 1) := by decide +kernel
theorem dX0_blurOnTrack_5 : decode cX0_blurOnTrack 5 = .ok (.invokestatic 142, 3) := by decide +kernel
theorem dX0_blurOnTrack_8 : decode cX0_blurOnTrack 8 = .ok (.ireturn, 1) := by decide +kernel
set_option maxRecDepth 20000 in
theorem ggX0_writingsOnTrack_X0_sumOnTrack : GoodIn wsX0_writingsOnTrack wsX0_sumOnTrack := goodIn_r _ [5, 6, 7, 8] rfl (by decide +kernel)
set_option maxRecDepth 20000 in
theorem gX0_writingsOnTrack_X0_sumOnTrack : GoodIn wsX0_writingsOnTrack (va_wsS RX0 142 yX0_sumOnTrack wsX0_sumOnTrack) := goodIn_app (goodIn_of _ (by decide +kernel)) ggX0_writingsOnTrack_X0_sumOnTrack
theorem dX0_writingsOnTrack_0 : decode cX0_writingsOnTrack 0 = .ok (.aload_n 0, 1) := by decide +kernel
theorem dX0_writingsOnTrack_1 : decode cX0_writingsOnTrack 1 = .ok (.getfield 24, 3) := by decide +kernel
theorem dX0_writingsOnTrack_4 : decode cX0_writingsOnTrack 4 = .ok (.iload_n 1, 1) := by decide +kernel
theorem dX0_writingsOnTrack_5 : decode cX0_writingsOnTrack 5 = .ok (.invokestatic 142, 3) := by decide +kernel
theorem dX0_writingsOnTrack_8 : decode cX0_writingsOnTrack 8 = .ok (.ireturn, 1) := by decide +kernel
set_option maxRecDepth 20000 in
theorem ggX0_writingsOnTracks_X0_writingsOnTrack : GoodIn wsX0_writingsOnTracks wsX0_writingsOnTrack := goodIn_r _ [5, 6, 7, 8, 4, 9, 10, 11, 12, 13, 14, 15, 16, 17, 18, 19, 20, 21] rfl (by decide +kernel)
set_option maxRecDepth 20000 in
theorem gX0_writingsOnTracks_X0_writingsOnTrack : GoodIn wsX0_writingsOnTracks (wsV RX0 145 RX0 yX0_writingsOnTrack wsX0_writingsOnTrack) := goodIn_app (goodIn_of _ (by decide +kernel)) ggX0_writingsOnTracks_X0_writingsOnTrack
theorem dX0_writingsOnTracks_0 : decode cX0_writingsOnTracks 0 = .ok (.iconst 0, 1) := by decide +kernel
theorem dX0_writingsOnTracks_1 : decode cX0_writingsOnTracks 1 = .ok (.istore_n 3, 1) := by decide +kernel
theorem dX0_writingsOnTracks_2 : decode cX0_writingsOnTracks 2 = .ok (.iconst 0, 1) := by decide +kernel
theorem dX0_writingsOnTracks_3 : decode cX0_writingsOnTracks 3 = .ok (.istore 4, 2) := by decide +kernel
theorem dX0_writingsOnTracks_5 : decode cX0_writingsOnTracks 5 = .ok (.iload 4, 2) := by decide +kernel
theorem dX0_writingsOnTracks_7 : decode cX0_writingsOnTracks 7 = .ok (.bipush 16, 2) := by decide +kernel
theorem dX0_writingsOnTracks_9 : decode cX0_writingsOnTracks 9 = .ok (.if_icmp .ge 30, 3) := by decide +kernel
theorem dX0_writingsOnTracks_12 : decode cX0_writingsOnTracks 12 = .ok (.iload_n 2, 1) := by decide +kernel
theorem dX0_writingsOnTracks_13 : decode cX0_writingsOnTracks 13 = .ok (.ifCond .le 20, 3) := by decide +kernel
theorem dX0_writingsOnTracks_16 : decode cX0_writingsOnTracks 16 = .ok (.iload 4, 2) := by decide +kernel
theorem dX0_writingsOnTracks_18 : decode cX0_writingsOnTracks 18 = .ok (.iload_n 2, 1) := by decide +kernel
theorem dX0_writingsOnTracks_19 : decode cX0_writingsOnTracks 19 = .ok (.irem, 1) := by decide +kernel
theorem dX0_writingsOnTracks_20 : decode cX0_writingsOnTracks 20 = .ok (.iload_n 1, 1) := by decide +kernel
theorem dX0_writingsOnTracks_21 : decode cX0_writingsOnTracks 21 = .ok (.if_icmp .ne 12, 3) := by decide +kernel
theorem dX0_writingsOnTracks_24 : decode cX0_writingsOnTracks 24 = .ok (.iload_n 3, 1) := by decide +kernel
theorem dX0_writingsOnTracks_25 : decode cX0_writingsOnTracks 25 = .ok (.aload_n 0, 1) := by decide +kernel
theorem dX0_writingsOnTracks_26 : decode cX0_writingsOnTracks 26 = .ok (.iload 4, 2) := by decide +kernel
theorem dX0_writingsOnTracks_28 : decode cX0_writingsOnTracks 28 = .ok (.invokevirtual 145, 3) := by decide +kernel
theorem dX0_writingsOnTracks_31 : decode cX0_writingsOnTracks 31 = .ok (.iadd, 1) := by decide +kernel
theorem dX0_writingsOnTracks_32 : decode cX0_writingsOnTracks 32 = .ok (.istore_n 3, 1) := by decide +kernel
theorem dX0_writingsOnTracks_33 : decode cX0_writingsOnTracks 33 = .ok (.iinc 4 1, 3) := by decide +kernel
theorem dX0_writingsOnTracks_36 : decode cX0_writingsOnTracks 36 = .ok (.goto (-31), 3) := by decide +kernel
theorem dX0_writingsOnTracks_39 : decode cX0_writingsOnTracks 39 = .ok (.iload_n 3, 1) := by decide +kernel
theorem dX0_writingsOnTracks_40 : decode cX0_writingsOnTracks 40 = .ok (.ireturn, 1) := by decide +kernel
set_option maxRecDepth 20000 in
theorem ggX0_sumOnTrack_X4_at : GoodIn wsX0_sumOnTrack wsX4_at := goodIn_r _ [3] rfl (by decide +kernel)
theorem gX0_sumOnTrack_X4_at_n53 : GoodIn wsX0_sumOnTrack (wsX4_at) := ggX0_sumOnTrack_X4_at
theorem dX0_sumOnTrack_0 : decode cX0_sumOnTrack 0 = .ok (.iconst 0, 1) := by decide +kernel
theorem dX0_sumOnTrack_1 : decode cX0_sumOnTrack 1 = .ok (.istore_n 2, 1) := by decide +kernel
theorem dX0_sumOnTrack_2 : decode cX0_sumOnTrack 2 = .ok (.iconst 0, 1) := by decide +kernel
theorem dX0_sumOnTrack_3 : decode cX0_sumOnTrack 3 = .ok (.istore_n 3, 1) := by decide +kernel
theorem dX0_sumOnTrack_4 : decode cX0_sumOnTrack 4 = .ok (.iload_n 3, 1) := by decide +kernel
theorem dX0_sumOnTrack_5 : decode cX0_sumOnTrack 5 = .ok (.bipush 12, 2) := by decide +kernel
theorem dX0_sumOnTrack_7 : decode cX0_sumOnTrack 7 = .ok (.if_icmp .ge 22, 3) := by decide +kernel
theorem dX0_sumOnTrack_10 : decode cX0_sumOnTrack 10 = .ok (.iload_n 2, 1) := by decide +kernel
theorem dX0_sumOnTrack_11 : decode cX0_sumOnTrack 11 = .ok (.aload_n 0, 1) := by decide +kernel
theorem dX0_sumOnTrack_12 : decode cX0_sumOnTrack 12 = .ok (.iload_n 1, 1) := by decide +kernel
theorem dX0_sumOnTrack_13 : decode cX0_sumOnTrack 13 = .ok (.bipush 12, 2) := by decide +kernel
theorem dX0_sumOnTrack_15 : decode cX0_sumOnTrack 15 = .ok (.imul, 1) := by decide +kernel
theorem dX0_sumOnTrack_16 : decode cX0_sumOnTrack 16 = .ok (.iload_n 3, 1) := by decide +kernel
theorem dX0_sumOnTrack_17 : decode cX0_sumOnTrack 17 = .ok (.iadd, 1) := by decide +kernel
theorem dX0_sumOnTrack_18 : decode cX0_sumOnTrack 18 = .ok (.invokestatic 53, 3) := by decide +kernel
theorem dX0_sumOnTrack_21 : decode cX0_sumOnTrack 21 = .ok (.iadd, 1) := by decide +kernel
theorem dX0_sumOnTrack_22 : decode cX0_sumOnTrack 22 = .ok (.istore_n 2, 1) := by decide +kernel
theorem dX0_sumOnTrack_23 : decode cX0_sumOnTrack 23 = .ok (.iinc 3 1, 3) := by decide +kernel
theorem dX0_sumOnTrack_26 : decode cX0_sumOnTrack 26 = .ok (.goto (-22), 3) := by decide +kernel
theorem dX0_sumOnTrack_29 : decode cX0_sumOnTrack 29 = .ok (.iload_n 2, 1) := by decide +kernel
theorem dX0_sumOnTrack_30 : decode cX0_sumOnTrack 30 = .ok (.ireturn, 1) := by decide +kernel
set_option maxRecDepth 20000 in
theorem ggX0_greatestBlur_X0_sectorFor : GoodIn wsX0_greatestBlur wsX0_sectorFor := goodIn_r _ [9, 10, 11, 12, 13, 19, 20, 21, 22, 23, 24, 25, 26, 27] rfl (by decide +kernel)
set_option maxRecDepth 20000 in
theorem gX0_greatestBlur_X0_sectorFor : GoodIn wsX0_greatestBlur (wsV RX0 82 RX0 yX0_sectorFor wsX0_sectorFor) := goodIn_app (goodIn_of _ (by decide +kernel)) ggX0_greatestBlur_X0_sectorFor
set_option maxRecDepth 20000 in
theorem ggX0_greatestBlur_X0_blurOf : GoodIn wsX0_greatestBlur wsX0_blurOf := goodIn_r _ [17, 18, 11, 12, 13, 19, 20, 21, 22, 23, 24, 25, 26, 27] rfl (by decide +kernel)
set_option maxRecDepth 20000 in
theorem gX0_greatestBlur_X0_blurOf : GoodIn wsX0_greatestBlur (wsV RX0 116 RX0 yX0_blurOf wsX0_blurOf) := goodIn_app (goodIn_of _ (by decide +kernel)) ggX0_greatestBlur_X0_blurOf
theorem dX0_greatestBlur_0 : decode cX0_greatestBlur 0 = .ok (.iconst 0, 1) := by decide +kernel
theorem dX0_greatestBlur_1 : decode cX0_greatestBlur 1 = .ok (.istore_n 1, 1) := by decide +kernel
theorem dX0_greatestBlur_2 : decode cX0_greatestBlur 2 = .ok (.iconst 0, 1) := by decide +kernel
theorem dX0_greatestBlur_3 : decode cX0_greatestBlur 3 = .ok (.istore_n 2, 1) := by decide +kernel
theorem dX0_greatestBlur_4 : decode cX0_greatestBlur 4 = .ok (.iload_n 2, 1) := by decide +kernel
theorem dX0_greatestBlur_5 : decode cX0_greatestBlur 5 = .ok (.sipush 192, 3) := by decide +kernel
theorem dX0_greatestBlur_8 : decode cX0_greatestBlur 8 = .ok (.if_icmp .ge 23, 3) := by decide +kernel
theorem dX0_greatestBlur_11 : decode cX0_greatestBlur 11 = .ok (.iload_n 1, 1) := by decide +kernel
theorem dX0_greatestBlur_12 : decode cX0_greatestBlur 12 = .ok (.aload_n 0, 1) := by decide +kernel
theorem dX0_greatestBlur_13 : decode cX0_greatestBlur 13 = .ok (.aload_n 0, 1) := by decide +kernel
theorem dX0_greatestBlur_14 : decode cX0_greatestBlur 14 = .ok (.iload_n 2, 1) := by decide +kernel
theorem dX0_greatestBlur_15 : decode cX0_greatestBlur 15 = .ok (.invokevirtual 82, 3) := by decide +kernel
theorem dX0_greatestBlur_18 : decode cX0_greatestBlur 18 = .ok (.invokevirtual 116, 3) := by decide +kernel
theorem dX0_greatestBlur_21 : decode cX0_greatestBlur 21 = .ok (.invokestatic 148, 3) := by decide +kernel
theorem dX0_greatestBlur_24 : decode cX0_greatestBlur 24 = .ok (.istore_n 1, 1) := by decide +kernel
theorem dX0_greatestBlur_25 : decode cX0_greatestBlur 25 = .ok (.iinc 2 1, 3) := by decide +kernel
theorem dX0_greatestBlur_28 : decode cX0_greatestBlur 28 = .ok (.goto (-24), 3) := by decide +kernel
theorem dX0_greatestBlur_31 : decode cX0_greatestBlur 31 = .ok (.iload_n 1, 1) := by decide +kernel
theorem dX0_greatestBlur_32 : decode cX0_greatestBlur 32 = .ok (.ireturn, 1) := by decide +kernel
theorem dX1_init_0 : decode cX1_init 0 = .ok (.aload_n 0, 1) := by decide +kernel
theorem dX1_init_1 : decode cX1_init 1 = .ok (.invokespecial 3, 3) := by decide +kernel
theorem dX1_init_4 : decode cX1_init 4 = .ok (.aload_n 0, 1) := by decide +kernel
theorem dX1_init_5 : decode cX1_init 5 = .ok (.bipush 6, 2) := by decide +kernel
theorem dX1_init_7 : decode cX1_init 7 = .ok (.anewarray 9, 3) := by decide +kernel
theorem dX1_init_10 : decode cX1_init 10 = .ok (.putfield 11, 3) := by decide +kernel
theorem dX1_init_13 : decode cX1_init 13 = .ok (.aload_n 0, 1) := by decide +kernel
theorem dX1_init_14 : decode cX1_init 14 = .ok (.iconst 0, 1) := by decide +kernel
theorem dX1_init_15 : decode cX1_init 15 = .ok (.putfield 17, 3) := by decide +kernel
theorem dX1_init_18 : decode cX1_init 18 = .ok (.aload_n 0, 1) := by decide +kernel
theorem dX1_init_19 : decode cX1_init 19 = .ok (.iconst 0, 1) := by decide +kernel
theorem dX1_init_20 : decode cX1_init 20 = .ok (.putfield 21, 3) := by decide +kernel
theorem dX1_init_23 : decode cX1_init 23 = .ok (.return_, 1) := by decide +kernel
set_option maxRecDepth 20000 in
theorem ggX1_keep_X1_exchange : GoodIn wsX1_keep wsX1_exchange := goodIn_r _ [7, 8, 9, 10, 11] rfl (by decide +kernel)
set_option maxRecDepth 20000 in
theorem gX1_keep_X1_exchange : GoodIn wsX1_keep (wsV RX1 24 RX1 yX1_exchange wsX1_exchange) := goodIn_app (goodIn_of _ (by decide +kernel)) ggX1_keep_X1_exchange
theorem dX1_keep_0 : decode cX1_keep 0 = .ok (.aload_n 0, 1) := by decide +kernel
theorem dX1_keep_1 : decode cX1_keep 1 = .ok (.getfield 17, 3) := by decide +kernel
theorem dX1_keep_4 : decode cX1_keep 4 = .ok (.aload_n 0, 1) := by decide +kernel
theorem dX1_keep_5 : decode cX1_keep 5 = .ok (.getfield 21, 3) := by decide +kernel
theorem dX1_keep_8 : decode cX1_keep 8 = .ok (.iadd, 1) := by decide +kernel
theorem dX1_keep_9 : decode cX1_keep 9 = .ok (.bipush 6, 2) := by decide +kernel
theorem dX1_keep_11 : decode cX1_keep 11 = .ok (.irem, 1) := by decide +kernel
theorem dX1_keep_12 : decode cX1_keep 12 = .ok (.istore_n 2, 1) := by decide +kernel
theorem dX1_keep_13 : decode cX1_keep 13 = .ok (.aload_n 0, 1) := by decide +kernel
theorem dX1_keep_14 : decode cX1_keep 14 = .ok (.getfield 21, 3) := by decide +kernel
theorem dX1_keep_17 : decode cX1_keep 17 = .ok (.bipush 6, 2) := by decide +kernel
theorem dX1_keep_19 : decode cX1_keep 19 = .ok (.if_icmp .ge 16, 3) := by decide +kernel
theorem dX1_keep_22 : decode cX1_keep 22 = .ok (.aload_n 0, 1) := by decide +kernel
theorem dX1_keep_23 : decode cX1_keep 23 = .ok (.dup, 1) := by decide +kernel
theorem dX1_keep_24 : decode cX1_keep 24 = .ok (.getfield 21, 3) := by decide +kernel
theorem dX1_keep_27 : decode cX1_keep 27 = .ok (.iconst 1, 1) := by decide +kernel
theorem dX1_keep_28 : decode cX1_keep 28 = .ok (.iadd, 1) := by decide +kernel
theorem dX1_keep_29 : decode cX1_keep 29 = .ok (.putfield 21, 3) := by decide +kernel
theorem dX1_keep_32 : decode cX1_keep 32 = .ok (.goto 16, 3) := by decide +kernel
theorem dX1_keep_35 : decode cX1_keep 35 = .ok (.aload_n 0, 1) := by decide +kernel
theorem dX1_keep_36 : decode cX1_keep 36 = .ok (.aload_n 0, 1) := by decide +kernel
theorem dX1_keep_37 : decode cX1_keep 37 = .ok (.getfield 17, 3) := by decide +kernel
theorem dX1_keep_40 : decode cX1_keep 40 = .ok (.iconst 1, 1) := by decide +kernel
theorem dX1_keep_41 : decode cX1_keep 41 = .ok (.iadd, 1) := by decide +kernel
theorem dX1_keep_42 : decode cX1_keep 42 = .ok (.bipush 6, 2) := by decide +kernel
theorem dX1_keep_44 : decode cX1_keep 44 = .ok (.irem, 1) := by decide +kernel
theorem dX1_keep_45 : decode cX1_keep 45 = .ok (.putfield 17, 3) := by decide +kernel
theorem dX1_keep_48 : decode cX1_keep 48 = .ok (.aload_n 0, 1) := by decide +kernel
theorem dX1_keep_49 : decode cX1_keep 49 = .ok (.iload_n 2, 1) := by decide +kernel
theorem dX1_keep_50 : decode cX1_keep 50 = .ok (.aload_n 1, 1) := by decide +kernel
theorem dX1_keep_51 : decode cX1_keep 51 = .ok (.invokevirtual 24, 3) := by decide +kernel
theorem dX1_keep_54 : decode cX1_keep 54 = .ok (.areturn, 1) := by decide +kernel
theorem dX1_exchange_0 : decode cX1_exchange 0 = .ok (.iload_n 1, 1) := by decide +kernel
theorem dX1_exchange_1 : decode cX1_exchange 1 = .ok (.ifCond .lt 12, 3) := by decide +kernel
theorem dX1_exchange_4 : decode cX1_exchange 4 = .ok (.iload_n 1, 1) := by decide +kernel
theorem dX1_exchange_5 : decode cX1_exchange 5 = .ok (.aload_n 0, 1) := by decide +kernel
theorem dX1_exchange_6 : decode cX1_exchange 6 = .ok (.getfield 11, 3) := by decide +kernel
theorem dX1_exchange_9 : decode cX1_exchange 9 = .ok (.arraylength, 1) := by decide +kernel
theorem dX1_exchange_10 : decode cX1_exchange 10 = .ok (.if_icmp .lt 5, 3) := by decide +kernel
theorem dX1_exchange_13 : decode cX1_exchange 13 = .ok (.aconst_null, 1) := by decide +kernel
theorem dX1_exchange_14 : decode cX1_exchange 14 = .ok (.areturn, 1) := by decide +kernel
theorem dX1_exchange_15 : decode cX1_exchange 15 = .ok (.aload_n 0, 1) := by decide +kernel
theorem dX1_exchange_16 : decode cX1_exchange 16 = .ok (.getfield 11, 3) := by decide +kernel
theorem dX1_exchange_19 : decode cX1_exchange 19 = .ok (.iload_n 1, 1) := by decide +kernel
theorem dX1_exchange_20 : decode cX1_exchange 20 = .ok (.aaload, 1) := by decide +kernel
theorem dX1_exchange_21 : decode cX1_exchange 21 = .ok (.astore_n 3, 1) := by decide +kernel
theorem dX1_exchange_22 : decode cX1_exchange 22 = .ok (.aload_n 0, 1) := by decide +kernel
theorem dX1_exchange_23 : decode cX1_exchange 23 = .ok (.getfield 11, 3) := by decide +kernel
theorem dX1_exchange_26 : decode cX1_exchange 26 = .ok (.iload_n 1, 1) := by decide +kernel
theorem dX1_exchange_27 : decode cX1_exchange 27 = .ok (.aload_n 2, 1) := by decide +kernel
theorem dX1_exchange_28 : decode cX1_exchange 28 = .ok (.aastore, 1) := by decide +kernel
theorem dX1_exchange_29 : decode cX1_exchange 29 = .ok (.aload_n 3, 1) := by decide +kernel
theorem dX1_exchange_30 : decode cX1_exchange 30 = .ok (.areturn, 1) := by decide +kernel
theorem dX2_init_0 : decode cX2_init 0 = .ok (.aload_n 0, 1) := by decide +kernel
theorem dX2_init_1 : decode cX2_init 1 = .ok (.invokespecial 3, 3) := by decide +kernel
theorem dX2_init_4 : decode cX2_init 4 = .ok (.aload_n 0, 1) := by decide +kernel
theorem dX2_init_5 : decode cX2_init 5 = .ok (.bipush 60, 2) := by decide +kernel
theorem dX2_init_7 : decode cX2_init 7 = .ok (.newarray .int, 2) := by decide +kernel
theorem dX2_init_9 : decode cX2_init 9 = .ok (.putfield 9, 3) := by decide +kernel
theorem dX2_init_12 : decode cX2_init 12 = .ok (.aload_n 0, 1) := by decide +kernel
theorem dX2_init_13 : decode cX2_init 13 = .ok (.iconst 0, 1) := by decide +kernel
theorem dX2_init_14 : decode cX2_init 14 = .ok (.putfield 15, 3) := by decide +kernel
theorem dX2_init_17 : decode cX2_init 17 = .ok (.return_, 1) := by decide +kernel
set_option maxRecDepth 20000 in
theorem ggX2_append_X4_lay : GoodIn wsX2_append wsX4_lay := goodIn_r _ [6] rfl (by decide +kernel)
theorem gX2_append_X4_lay_n21 : GoodIn wsX2_append (wsX4_lay) := ggX2_append_X4_lay
theorem dX2_append_0 : decode cX2_append 0 = .ok (.iload_n 3, 1) := by decide +kernel
theorem dX2_append_1 : decode cX2_append 1 = .ok (.iconst 1, 1) := by decide +kernel
theorem dX2_append_2 : decode cX2_append 2 = .ok (.isub, 1) := by decide +kernel
theorem dX2_append_3 : decode cX2_append 3 = .ok (.istore 4, 2) := by decide +kernel
theorem dX2_append_5 : decode cX2_append 5 = .ok (.iload 4, 2) := by decide +kernel
theorem dX2_append_7 : decode cX2_append 7 = .ok (.ifCond .lt 42, 3) := by decide +kernel
theorem dX2_append_10 : decode cX2_append 10 = .ok (.aload_n 0, 1) := by decide +kernel
theorem dX2_append_11 : decode cX2_append 11 = .ok (.getfield 9, 3) := by decide +kernel
theorem dX2_append_14 : decode cX2_append 14 = .ok (.aload_n 0, 1) := by decide +kernel
theorem dX2_append_15 : decode cX2_append 15 = .ok (.getfield 15, 3) := by decide +kernel
theorem dX2_append_18 : decode cX2_append 18 = .ok (.lload_n 1, 1) := by decide +kernel
theorem dX2_append_19 : decode cX2_append 19 = .ok (.bipush 8, 2) := by decide +kernel
theorem dX2_append_21 : decode cX2_append 21 = .ok (.iload 4, 2) := by decide +kernel
theorem dX2_append_23 : decode cX2_append 23 = .ok (.imul, 1) := by decide +kernel
theorem dX2_append_24 : decode cX2_append 24 = .ok (.lushr, 1) := by decide +kernel
theorem dX2_append_25 : decode cX2_append 25 = .ok (.ldc2_w 19, 3) := by decide +kernel
theorem dX2_append_28 : decode cX2_append 28 = .ok (.land, 1) := by decide +kernel
theorem dX2_append_29 : decode cX2_append 29 = .ok (.l2i, 1) := by decide +kernel
theorem dX2_append_30 : decode cX2_append 30 = .ok (.invokestatic 21, 3) := by decide +kernel
theorem dX2_append_33 : decode cX2_append 33 = .ok (.aload_n 0, 1) := by decide +kernel
theorem dX2_append_34 : decode cX2_append 34 = .ok (.dup, 1) := by decide +kernel
theorem dX2_append_35 : decode cX2_append 35 = .ok (.getfield 15, 3) := by decide +kernel
theorem dX2_append_38 : decode cX2_append 38 = .ok (.iconst 1, 1) := by decide +kernel
theorem dX2_append_39 : decode cX2_append 39 = .ok (.iadd, 1) := by decide +kernel
theorem dX2_append_40 : decode cX2_append 40 = .ok (.putfield 15, 3) := by decide +kernel
theorem dX2_append_43 : decode cX2_append 43 = .ok (.iinc 4 (-1), 3) := by decide +kernel
theorem dX2_append_46 : decode cX2_append 46 = .ok (.goto (-41), 3) := by decide +kernel
theorem dX2_append_49 : decode cX2_append 49 = .ok (.return_, 1) := by decide +kernel
theorem dX2_clear_0 : decode cX2_clear 0 = .ok (.aload_n 0, 1) := by decide +kernel
theorem dX2_clear_1 : decode cX2_clear 1 = .ok (.iconst 0, 1) := by decide +kernel
theorem dX2_clear_2 : decode cX2_clear 2 = .ok (.putfield 15, 3) := by decide +kernel
theorem dX2_clear_5 : decode cX2_clear 5 = .ok (.return_, 1) := by decide +kernel
set_option maxRecDepth 20000 in
theorem ggX2_signAt_X4_at : GoodIn wsX2_signAt wsX4_at := goodIn_r _ [4] rfl (by decide +kernel)
theorem gX2_signAt_X4_at_n25 : GoodIn wsX2_signAt (wsX4_at) := ggX2_signAt_X4_at
theorem dX2_signAt_0 : decode cX2_signAt 0 = .ok (.aload_n 0, 1) := by decide +kernel
theorem dX2_signAt_1 : decode cX2_signAt 1 = .ok (.getfield 9, 3) := by decide +kernel
theorem dX2_signAt_4 : decode cX2_signAt 4 = .ok (.iload_n 1, 1) := by decide +kernel
theorem dX2_signAt_5 : decode cX2_signAt 5 = .ok (.invokestatic 25, 3) := by decide +kernel
theorem dX2_signAt_8 : decode cX2_signAt 8 = .ok (.ireturn, 1) := by decide +kernel
theorem dX3_init_0 : decode cX3_init 0 = .ok (.aload_n 0, 1) := by decide +kernel
theorem dX3_init_1 : decode cX3_init 1 = .ok (.invokespecial 3, 3) := by decide +kernel
theorem dX3_init_4 : decode cX3_init 4 = .ok (.aload_n 0, 1) := by decide +kernel
theorem dX3_init_5 : decode cX3_init 5 = .ok (.bipush 21, 2) := by decide +kernel
theorem dX3_init_7 : decode cX3_init 7 = .ok (.newarray .int, 2) := by decide +kernel
theorem dX3_init_9 : decode cX3_init 9 = .ok (.putfield 9, 3) := by decide +kernel
theorem dX3_init_12 : decode cX3_init 12 = .ok (.aload_n 0, 1) := by decide +kernel
theorem dX3_init_13 : decode cX3_init 13 = .ok (.bipush 21, 2) := by decide +kernel
theorem dX3_init_15 : decode cX3_init 15 = .ok (.newarray .int, 2) := by decide +kernel
theorem dX3_init_17 : decode cX3_init 17 = .ok (.putfield 15, 3) := by decide +kernel
theorem dX3_init_20 : decode cX3_init 20 = .ok (.aload_n 0, 1) := by decide +kernel
theorem dX3_init_21 : decode cX3_init 21 = .ok (.bipush 21, 2) := by decide +kernel
theorem dX3_init_23 : decode cX3_init 23 = .ok (.newarray .int, 2) := by decide +kernel
theorem dX3_init_25 : decode cX3_init 25 = .ok (.putfield 18, 3) := by decide +kernel
theorem dX3_init_28 : decode cX3_init 28 = .ok (.aload_n 0, 1) := by decide +kernel
theorem dX3_init_29 : decode cX3_init 29 = .ok (.iconst 0, 1) := by decide +kernel
theorem dX3_init_30 : decode cX3_init 30 = .ok (.putfield 21, 3) := by decide +kernel
theorem dX3_init_33 : decode cX3_init 33 = .ok (.aload_n 0, 1) := by decide +kernel
theorem dX3_init_34 : decode cX3_init 34 = .ok (.iconst 0, 1) := by decide +kernel
theorem dX3_init_35 : decode cX3_init 35 = .ok (.putfield 25, 3) := by decide +kernel
theorem dX3_init_38 : decode cX3_init 38 = .ok (.return_, 1) := by decide +kernel
set_option maxRecDepth 20000 in
theorem ggX3_parse_X2_signAt : GoodIn wsX3_parse wsX2_signAt := goodIn_r _ [8, 9, 10, 11, 12, 54, 55] rfl (by decide +kernel)
set_option maxRecDepth 20000 in
theorem gX3_parse_X2_signAt : GoodIn wsX3_parse (wsV RX3 33 RX2 yX2_signAt wsX2_signAt) := goodIn_app (goodIn_of _ (by decide +kernel)) ggX3_parse_X2_signAt
set_option maxRecDepth 20000 in
theorem ggX3_parse_X3_takes : GoodIn wsX3_parse wsX3_takes := goodIn_r _ [17, 2, 18, 19, 20, 21, 22, 16, 23, 1, 24, 11, 25, 26, 27, 28, 29, 30, 31, 32, 33, 34, 35, 36, 10, 12, 37, 38, 39, 40, 41, 42, 43, 44, 45, 46, 47, 48, 49, 50, 51, 52, 53] rfl (by decide +kernel)
set_option maxRecDepth 20000 in
theorem gX3_parse_X3_takes : GoodIn wsX3_parse (wsV RX3 37 RX3 yX3_takes wsX3_takes) := goodIn_app (goodIn_of _ (by decide +kernel)) ggX3_parse_X3_takes
set_option maxRecDepth 20000 in
theorem ggX3_parse_X3_isWriting : GoodIn wsX3_parse wsX3_isWriting := goodIn_r _ [44, 19, 10, 11, 12, 49, 50, 51, 52, 53] rfl (by decide +kernel)
set_option maxRecDepth 20000 in
theorem gX3_parse_X3_isWriting : GoodIn wsX3_parse (wsV RX3 41 RX3 yX3_isWriting wsX3_isWriting) := goodIn_app (goodIn_of _ (by decide +kernel)) ggX3_parse_X3_isWriting
theorem dX3_parse_0 : decode cX3_parse 0 = .ok (.aload_n 0, 1) := by decide +kernel
theorem dX3_parse_1 : decode cX3_parse 1 = .ok (.iconst 0, 1) := by decide +kernel
theorem dX3_parse_2 : decode cX3_parse 2 = .ok (.putfield 21, 3) := by decide +kernel
theorem dX3_parse_5 : decode cX3_parse 5 = .ok (.aload_n 0, 1) := by decide +kernel
theorem dX3_parse_6 : decode cX3_parse 6 = .ok (.iconst 0, 1) := by decide +kernel
theorem dX3_parse_7 : decode cX3_parse 7 = .ok (.putfield 25, 3) := by decide +kernel
theorem dX3_parse_10 : decode cX3_parse 10 = .ok (.iconst 0, 1) := by decide +kernel
theorem dX3_parse_11 : decode cX3_parse 11 = .ok (.istore_n 2, 1) := by decide +kernel
theorem dX3_parse_12 : decode cX3_parse 12 = .ok (.iload_n 2, 1) := by decide +kernel
theorem dX3_parse_13 : decode cX3_parse 13 = .ok (.aload_n 1, 1) := by decide +kernel
theorem dX3_parse_14 : decode cX3_parse 14 = .ok (.getfield 28, 3) := by decide +kernel
theorem dX3_parse_17 : decode cX3_parse 17 = .ok (.if_icmp .ge 23, 3) := by decide +kernel
theorem dX3_parse_20 : decode cX3_parse 20 = .ok (.aload_n 0, 1) := by decide +kernel
theorem dX3_parse_21 : decode cX3_parse 21 = .ok (.aload_n 1, 1) := by decide +kernel
theorem dX3_parse_22 : decode cX3_parse 22 = .ok (.iload_n 2, 1) := by decide +kernel
theorem dX3_parse_23 : decode cX3_parse 23 = .ok (.invokevirtual 33, 3) := by decide +kernel
theorem dX3_parse_26 : decode cX3_parse 26 = .ok (.invokevirtual 37, 3) := by decide +kernel
theorem dX3_parse_29 : decode cX3_parse 29 = .ok (.ifCond .ne 5, 3) := by decide +kernel
theorem dX3_parse_32 : decode cX3_parse 32 = .ok (.iload_n 2, 1) := by decide +kernel
theorem dX3_parse_33 : decode cX3_parse 33 = .ok (.ireturn, 1) := by decide +kernel
theorem dX3_parse_34 : decode cX3_parse 34 = .ok (.iinc 2 1, 3) := by decide +kernel
theorem dX3_parse_37 : decode cX3_parse 37 = .ok (.goto (-25), 3) := by decide +kernel
theorem dX3_parse_40 : decode cX3_parse 40 = .ok (.aload_n 0, 1) := by decide +kernel
theorem dX3_parse_41 : decode cX3_parse 41 = .ok (.getfield 25, 3) := by decide +kernel
theorem dX3_parse_44 : decode cX3_parse 44 = .ok (.iconst 4, 1) := by decide +kernel
theorem dX3_parse_45 : decode cX3_parse 45 = .ok (.if_icmp .eq 24, 3) := by decide +kernel
theorem dX3_parse_48 : decode cX3_parse 48 = .ok (.aload_n 0, 1) := by decide +kernel
theorem dX3_parse_49 : decode cX3_parse 49 = .ok (.getfield 25, 3) := by decide +kernel
theorem dX3_parse_52 : decode cX3_parse 52 = .ok (.iconst 2, 1) := by decide +kernel
theorem dX3_parse_53 : decode cX3_parse 53 = .ok (.if_icmp .ne 20, 3) := by decide +kernel
theorem dX3_parse_56 : decode cX3_parse 56 = .ok (.aload_n 0, 1) := by decide +kernel
theorem dX3_parse_57 : decode cX3_parse 57 = .ok (.aload_n 0, 1) := by decide +kernel
theorem dX3_parse_58 : decode cX3_parse 58 = .ok (.getfield 21, 3) := by decide +kernel
theorem dX3_parse_61 : decode cX3_parse 61 = .ok (.iconst 1, 1) := by decide +kernel
theorem dX3_parse_62 : decode cX3_parse 62 = .ok (.isub, 1) := by decide +kernel
theorem dX3_parse_63 : decode cX3_parse 63 = .ok (.invokevirtual 41, 3) := by decide +kernel
theorem dX3_parse_66 : decode cX3_parse 66 = .ok (.ifCond .ne 7, 3) := by decide +kernel
theorem dX3_parse_69 : decode cX3_parse 69 = .ok (.iconst 1, 1) := by decide +kernel
theorem dX3_parse_70 : decode cX3_parse 70 = .ok (.goto 4, 3) := by decide +kernel
theorem dX3_parse_73 : decode cX3_parse 73 = .ok (.iconst 0, 1) := by decide +kernel
theorem dX3_parse_74 : decode cX3_parse 74 = .ok (.istore_n 2, 1) := by decide +kernel
theorem dX3_parse_75 : decode cX3_parse 75 = .ok (.iload_n 2, 1) := by decide +kernel
theorem dX3_parse_76 : decode cX3_parse 76 = .ok (.ifCond .eq 8, 3) := by decide +kernel
theorem dX3_parse_79 : decode cX3_parse 79 = .ok (.bipush (-6), 2) := by decide +kernel
theorem dX3_parse_81 : decode cX3_parse 81 = .ok (.goto 7, 3) := by decide +kernel
theorem dX3_parse_84 : decode cX3_parse 84 = .ok (.aload_n 1, 1) := by decide +kernel
theorem dX3_parse_85 : decode cX3_parse 85 = .ok (.getfield 28, 3) := by decide +kernel
theorem dX3_parse_88 : decode cX3_parse 88 = .ok (.ireturn, 1) := by decide +kernel
set_option maxRecDepth 20000 in
theorem ggX3_takes_X3_takesKind : GoodIn wsX3_takes wsX3_takesKind := goodIn_r _ [8, 3, 9, 1, 10, 11, 12, 38, 39, 40, 41, 42] rfl (by decide +kernel)
set_option maxRecDepth 20000 in
theorem gX3_takes_X3_takesKind : GoodIn wsX3_takes (wsV RX3 44 RX3 yX3_takesKind wsX3_takesKind) := goodIn_app (goodIn_of _ (by decide +kernel)) ggX3_takes_X3_takesKind
set_option maxRecDepth 20000 in
theorem ggX3_takes_X3_takesFirstDigit : GoodIn wsX3_takes wsX3_takesFirstDigit := goodIn_r _ [16, 9, 1, 17, 18, 7, 19, 10, 11, 12, 38, 39, 40, 41, 42] rfl (by decide +kernel)
set_option maxRecDepth 20000 in
theorem gX3_takes_X3_takesFirstDigit : GoodIn wsX3_takes (wsV RX3 47 RX3 yX3_takesFirstDigit wsX3_takesFirstDigit) := goodIn_app (goodIn_of _ (by decide +kernel)) ggX3_takes_X3_takesFirstDigit
set_option maxRecDepth 20000 in
theorem ggX3_takes_X3_takesDigit : GoodIn wsX3_takes wsX3_takesDigit := goodIn_r _ [23, 9, 24, 11, 25, 17, 18, 7, 19, 10, 12, 38, 39, 40, 41, 42] rfl (by decide +kernel)
set_option maxRecDepth 20000 in
theorem gX3_takes_X3_takesDigit : GoodIn wsX3_takes (wsV RX3 51 RX3 yX3_takesDigit wsX3_takesDigit) := goodIn_app (goodIn_of _ (by decide +kernel)) ggX3_takes_X3_takesDigit
set_option maxRecDepth 20000 in
theorem ggX3_takes_X3_takesEndOfAddress : GoodIn wsX3_takes wsX3_takesEndOfAddress := goodIn_r _ [29, 9, 30, 31, 32, 7, 33, 3, 24, 11, 25, 34, 35, 36, 37, 1, 38, 39, 40, 41, 42] rfl (by decide +kernel)
set_option maxRecDepth 20000 in
theorem gX3_takes_X3_takesEndOfAddress : GoodIn wsX3_takes (wsV RX3 54 RX3 yX3_takesEndOfAddress wsX3_takesEndOfAddress) := goodIn_app (goodIn_of _ (by decide +kernel)) ggX3_takes_X3_takesEndOfAddress
set_option maxRecDepth 20000 in
theorem ggX3_takes_X3_takesMark : GoodIn wsX3_takes wsX3_takesMark := goodIn_r _ [37, 1, 38, 39, 40, 41, 42] rfl (by decide +kernel)
set_option maxRecDepth 20000 in
theorem gX3_takes_X3_takesMark : GoodIn wsX3_takes (wsV RX3 57 RX3 yX3_takesMark wsX3_takesMark) := goodIn_app (goodIn_of _ (by decide +kernel)) ggX3_takes_X3_takesMark
theorem dX3_takes_0 : decode cX3_takes 0 = .ok (.aload_n 0, 1) := by decide +kernel
theorem dX3_takes_1 : decode cX3_takes 1 = .ok (.getfield 25, 3) := by decide +kernel
theorem dX3_takes_4 : decode cX3_takes 4 = .ok (.tableswitch 89 0 3 #[32, 38, 49, 78], 32) := by decide +kernel
theorem dX3_takes_36 : decode cX3_takes 36 = .ok (.aload_n 0, 1) := by decide +kernel
theorem dX3_takes_37 : decode cX3_takes 37 = .ok (.iload_n 1, 1) := by decide +kernel
theorem dX3_takes_38 : decode cX3_takes 38 = .ok (.invokevirtual 44, 3) := by decide +kernel
theorem dX3_takes_41 : decode cX3_takes 41 = .ok (.ireturn, 1) := by decide +kernel
theorem dX3_takes_42 : decode cX3_takes 42 = .ok (.aload_n 0, 1) := by decide +kernel
theorem dX3_takes_43 : decode cX3_takes 43 = .ok (.iload_n 1, 1) := by decide +kernel
theorem dX3_takes_44 : decode cX3_takes 44 = .ok (.aload_n 0, 1) := by decide +kernel
theorem dX3_takes_45 : decode cX3_takes 45 = .ok (.getfield 9, 3) := by decide +kernel
theorem dX3_takes_48 : decode cX3_takes 48 = .ok (.iconst 2, 1) := by decide +kernel
theorem dX3_takes_49 : decode cX3_takes 49 = .ok (.invokevirtual 47, 3) := by decide +kernel
theorem dX3_takes_52 : decode cX3_takes 52 = .ok (.ireturn, 1) := by decide +kernel
theorem dX3_takes_53 : decode cX3_takes 53 = .ok (.aload_n 0, 1) := by decide +kernel
theorem dX3_takes_54 : decode cX3_takes 54 = .ok (.iload_n 1, 1) := by decide +kernel
theorem dX3_takes_55 : decode cX3_takes 55 = .ok (.aload_n 0, 1) := by decide +kernel
theorem dX3_takes_56 : decode cX3_takes 56 = .ok (.getfield 9, 3) := by decide +kernel
theorem dX3_takes_59 : decode cX3_takes 59 = .ok (.sipush 191, 3) := by decide +kernel
theorem dX3_takes_62 : decode cX3_takes 62 = .ok (.invokevirtual 51, 3) := by decide +kernel
theorem dX3_takes_65 : decode cX3_takes 65 = .ok (.ifCond .ne 11, 3) := by decide +kernel
theorem dX3_takes_68 : decode cX3_takes 68 = .ok (.aload_n 0, 1) := by decide +kernel
theorem dX3_takes_69 : decode cX3_takes 69 = .ok (.iload_n 1, 1) := by decide +kernel
theorem dX3_takes_70 : decode cX3_takes 70 = .ok (.invokevirtual 54, 3) := by decide +kernel
theorem dX3_takes_73 : decode cX3_takes 73 = .ok (.ifCond .eq 7, 3) := by decide +kernel
theorem dX3_takes_76 : decode cX3_takes 76 = .ok (.iconst 1, 1) := by decide +kernel
theorem dX3_takes_77 : decode cX3_takes 77 = .ok (.goto 4, 3) := by decide +kernel
theorem dX3_takes_80 : decode cX3_takes 80 = .ok (.iconst 0, 1) := by decide +kernel
theorem dX3_takes_81 : decode cX3_takes 81 = .ok (.ireturn, 1) := by decide +kernel
theorem dX3_takes_82 : decode cX3_takes 82 = .ok (.aload_n 0, 1) := by decide +kernel
theorem dX3_takes_83 : decode cX3_takes 83 = .ok (.iload_n 1, 1) := by decide +kernel
theorem dX3_takes_84 : decode cX3_takes 84 = .ok (.aload_n 0, 1) := by decide +kernel
theorem dX3_takes_85 : decode cX3_takes 85 = .ok (.getfield 15, 3) := by decide +kernel
theorem dX3_takes_88 : decode cX3_takes 88 = .ok (.iconst 4, 1) := by decide +kernel
theorem dX3_takes_89 : decode cX3_takes 89 = .ok (.invokevirtual 47, 3) := by decide +kernel
theorem dX3_takes_92 : decode cX3_takes 92 = .ok (.ireturn, 1) := by decide +kernel
theorem dX3_takes_93 : decode cX3_takes 93 = .ok (.aload_n 0, 1) := by decide +kernel
theorem dX3_takes_94 : decode cX3_takes 94 = .ok (.iload_n 1, 1) := by decide +kernel
theorem dX3_takes_95 : decode cX3_takes 95 = .ok (.aload_n 0, 1) := by decide +kernel
theorem dX3_takes_96 : decode cX3_takes 96 = .ok (.getfield 15, 3) := by decide +kernel
theorem dX3_takes_99 : decode cX3_takes 99 = .ok (.sipush 255, 3) := by decide +kernel
theorem dX3_takes_102 : decode cX3_takes 102 = .ok (.invokevirtual 51, 3) := by decide +kernel
theorem dX3_takes_105 : decode cX3_takes 105 = .ok (.ifCond .ne 14, 3) := by decide +kernel
theorem dX3_takes_108 : decode cX3_takes 108 = .ok (.aload_n 0, 1) := by decide +kernel
theorem dX3_takes_109 : decode cX3_takes 109 = .ok (.iload_n 1, 1) := by decide +kernel
theorem dX3_takes_110 : decode cX3_takes 110 = .ok (.bipush 59, 2) := by decide +kernel
theorem dX3_takes_112 : decode cX3_takes 112 = .ok (.iconst 0, 1) := by decide +kernel
theorem dX3_takes_113 : decode cX3_takes 113 = .ok (.invokevirtual 57, 3) := by decide +kernel
theorem dX3_takes_116 : decode cX3_takes 116 = .ok (.ifCond .eq 7, 3) := by decide +kernel
theorem dX3_takes_119 : decode cX3_takes 119 = .ok (.iconst 1, 1) := by decide +kernel
theorem dX3_takes_120 : decode cX3_takes 120 = .ok (.goto 4, 3) := by decide +kernel
theorem dX3_takes_123 : decode cX3_takes 123 = .ok (.iconst 0, 1) := by decide +kernel
theorem dX3_takes_124 : decode cX3_takes 124 = .ok (.ireturn, 1) := by decide +kernel
set_option maxRecDepth 20000 in
theorem ggX3_takesKind_X4_lay : GoodIn wsX3_takesKind wsX4_lay := goodIn_r _ [6] rfl (by decide +kernel)
theorem gX3_takesKind_X4_lay_n61 : GoodIn wsX3_takesKind (wsX4_lay) := ggX3_takesKind_X4_lay
theorem dX3_takesKind_0 : decode cX3_takesKind 0 = .ok (.iload_n 1, 1) := by decide +kernel
theorem dX3_takesKind_1 : decode cX3_takesKind 1 = .ok (.bipush 119, 2) := by decide +kernel
theorem dX3_takesKind_3 : decode cX3_takesKind 3 = .ok (.if_icmp .eq 11, 3) := by decide +kernel
theorem dX3_takesKind_6 : decode cX3_takesKind 6 = .ok (.iload_n 1, 1) := by decide +kernel
theorem dX3_takesKind_7 : decode cX3_takesKind 7 = .ok (.bipush 114, 2) := by decide +kernel
theorem dX3_takesKind_9 : decode cX3_takesKind 9 = .ok (.if_icmp .eq 5, 3) := by decide +kernel
theorem dX3_takesKind_12 : decode cX3_takesKind 12 = .ok (.iconst 0, 1) := by decide +kernel
theorem dX3_takesKind_13 : decode cX3_takesKind 13 = .ok (.ireturn, 1) := by decide +kernel
theorem dX3_takesKind_14 : decode cX3_takesKind 14 = .ok (.aload_n 0, 1) := by decide +kernel
theorem dX3_takesKind_15 : decode cX3_takesKind 15 = .ok (.getfield 15, 3) := by decide +kernel
theorem dX3_takesKind_18 : decode cX3_takesKind 18 = .ok (.aload_n 0, 1) := by decide +kernel
theorem dX3_takesKind_19 : decode cX3_takesKind 19 = .ok (.getfield 21, 3) := by decide +kernel
theorem dX3_takesKind_22 : decode cX3_takesKind 22 = .ok (.iload_n 1, 1) := by decide +kernel
theorem dX3_takesKind_23 : decode cX3_takesKind 23 = .ok (.bipush 119, 2) := by decide +kernel
theorem dX3_takesKind_25 : decode cX3_takesKind 25 = .ok (.if_icmp .ne 7, 3) := by decide +kernel
theorem dX3_takesKind_28 : decode cX3_takesKind 28 = .ok (.iconst 0, 1) := by decide +kernel
theorem dX3_takesKind_29 : decode cX3_takesKind 29 = .ok (.goto 5, 3) := by decide +kernel
theorem dX3_takesKind_32 : decode cX3_takesKind 32 = .ok (.bipush (-6), 2) := by decide +kernel
theorem dX3_takesKind_34 : decode cX3_takesKind 34 = .ok (.invokestatic 61, 3) := by decide +kernel
theorem dX3_takesKind_37 : decode cX3_takesKind 37 = .ok (.aload_n 0, 1) := by decide +kernel
theorem dX3_takesKind_38 : decode cX3_takesKind 38 = .ok (.dup, 1) := by decide +kernel
theorem dX3_takesKind_39 : decode cX3_takesKind 39 = .ok (.getfield 21, 3) := by decide +kernel
theorem dX3_takesKind_42 : decode cX3_takesKind 42 = .ok (.iconst 1, 1) := by decide +kernel
theorem dX3_takesKind_43 : decode cX3_takesKind 43 = .ok (.iadd, 1) := by decide +kernel
theorem dX3_takesKind_44 : decode cX3_takesKind 44 = .ok (.putfield 21, 3) := by decide +kernel
theorem dX3_takesKind_47 : decode cX3_takesKind 47 = .ok (.aload_n 0, 1) := by decide +kernel
theorem dX3_takesKind_48 : decode cX3_takesKind 48 = .ok (.iconst 1, 1) := by decide +kernel
theorem dX3_takesKind_49 : decode cX3_takesKind 49 = .ok (.putfield 25, 3) := by decide +kernel
theorem dX3_takesKind_52 : decode cX3_takesKind 52 = .ok (.iconst 1, 1) := by decide +kernel
theorem dX3_takesKind_53 : decode cX3_takesKind 53 = .ok (.ireturn, 1) := by decide +kernel
set_option maxRecDepth 20000 in
theorem ggX3_takesFirstDigit_X3_isDigit : GoodIn wsX3_takesFirstDigit wsX3_isDigit := goodIn_r _ [6] rfl (by decide +kernel)
set_option maxRecDepth 20000 in
theorem gX3_takesFirstDigit_X3_isDigit : GoodIn wsX3_takesFirstDigit (va_wsS RX3 65 yX3_isDigit wsX3_isDigit) := goodIn_app (goodIn_of _ (by decide +kernel)) ggX3_takesFirstDigit_X3_isDigit
set_option maxRecDepth 20000 in
theorem ggX3_takesFirstDigit_X4_lay : GoodIn wsX3_takesFirstDigit wsX4_lay := goodIn_r _ [9] rfl (by decide +kernel)
theorem gX3_takesFirstDigit_X4_lay_n61 : GoodIn wsX3_takesFirstDigit (wsX4_lay) := ggX3_takesFirstDigit_X4_lay
theorem dX3_takesFirstDigit_0 : decode cX3_takesFirstDigit 0 = .ok (.iload_n 1, 1) := by decide +kernel
theorem dX3_takesFirstDigit_1 : decode cX3_takesFirstDigit 1 = .ok (.invokestatic 65, 3) := by decide +kernel
theorem dX3_takesFirstDigit_4 : decode cX3_takesFirstDigit 4 = .ok (.ifCond .ne 5, 3) := by decide +kernel
theorem dX3_takesFirstDigit_7 : decode cX3_takesFirstDigit 7 = .ok (.iconst 0, 1) := by decide +kernel
theorem dX3_takesFirstDigit_8 : decode cX3_takesFirstDigit 8 = .ok (.ireturn, 1) := by decide +kernel
theorem dX3_takesFirstDigit_9 : decode cX3_takesFirstDigit 9 = .ok (.aload_n 2, 1) := by decide +kernel
theorem dX3_takesFirstDigit_10 : decode cX3_takesFirstDigit 10 = .ok (.aload_n 0, 1) := by decide +kernel
theorem dX3_takesFirstDigit_11 : decode cX3_takesFirstDigit 11 = .ok (.getfield 21, 3) := by decide +kernel
theorem dX3_takesFirstDigit_14 : decode cX3_takesFirstDigit 14 = .ok (.iconst 1, 1) := by decide +kernel
theorem dX3_takesFirstDigit_15 : decode cX3_takesFirstDigit 15 = .ok (.isub, 1) := by decide +kernel
theorem dX3_takesFirstDigit_16 : decode cX3_takesFirstDigit 16 = .ok (.iload_n 1, 1) := by decide +kernel
theorem dX3_takesFirstDigit_17 : decode cX3_takesFirstDigit 17 = .ok (.bipush 48, 2) := by decide +kernel
theorem dX3_takesFirstDigit_19 : decode cX3_takesFirstDigit 19 = .ok (.isub, 1) := by decide +kernel
theorem dX3_takesFirstDigit_20 : decode cX3_takesFirstDigit 20 = .ok (.invokestatic 61, 3) := by decide +kernel
theorem dX3_takesFirstDigit_23 : decode cX3_takesFirstDigit 23 = .ok (.aload_n 0, 1) := by decide +kernel
theorem dX3_takesFirstDigit_24 : decode cX3_takesFirstDigit 24 = .ok (.iload_n 3, 1) := by decide +kernel
theorem dX3_takesFirstDigit_25 : decode cX3_takesFirstDigit 25 = .ok (.putfield 25, 3) := by decide +kernel
theorem dX3_takesFirstDigit_28 : decode cX3_takesFirstDigit 28 = .ok (.iconst 1, 1) := by decide +kernel
theorem dX3_takesFirstDigit_29 : decode cX3_takesFirstDigit 29 = .ok (.ireturn, 1) := by decide +kernel
set_option maxRecDepth 20000 in
theorem ggX3_takesDigit_X4_at : GoodIn wsX3_takesDigit wsX4_at := goodIn_r _ [4] rfl (by decide +kernel)
theorem gX3_takesDigit_X4_at_n68 : GoodIn wsX3_takesDigit (wsX4_at) := ggX3_takesDigit_X4_at
set_option maxRecDepth 20000 in
theorem ggX3_takesDigit_X3_isDigit : GoodIn wsX3_takesDigit wsX3_isDigit := goodIn_r _ [8] rfl (by decide +kernel)
set_option maxRecDepth 20000 in
theorem gX3_takesDigit_X3_isDigit : GoodIn wsX3_takesDigit (va_wsS RX3 65 yX3_isDigit wsX3_isDigit) := goodIn_app (goodIn_of _ (by decide +kernel)) ggX3_takesDigit_X3_isDigit
set_option maxRecDepth 20000 in
theorem ggX3_takesDigit_X4_lay : GoodIn wsX3_takesDigit wsX4_lay := goodIn_r _ [10] rfl (by decide +kernel)
theorem gX3_takesDigit_X4_lay_n61 : GoodIn wsX3_takesDigit (wsX4_lay) := ggX3_takesDigit_X4_lay
theorem dX3_takesDigit_0 : decode cX3_takesDigit 0 = .ok (.aload_n 2, 1) := by decide +kernel
theorem dX3_takesDigit_1 : decode cX3_takesDigit 1 = .ok (.aload_n 0, 1) := by decide +kernel
theorem dX3_takesDigit_2 : decode cX3_takesDigit 2 = .ok (.getfield 21, 3) := by decide +kernel
theorem dX3_takesDigit_5 : decode cX3_takesDigit 5 = .ok (.iconst 1, 1) := by decide +kernel
theorem dX3_takesDigit_6 : decode cX3_takesDigit 6 = .ok (.isub, 1) := by decide +kernel
theorem dX3_takesDigit_7 : decode cX3_takesDigit 7 = .ok (.invokestatic 68, 3) := by decide +kernel
theorem dX3_takesDigit_10 : decode cX3_takesDigit 10 = .ok (.istore 4, 2) := by decide +kernel
theorem dX3_takesDigit_12 : decode cX3_takesDigit 12 = .ok (.iload 4, 2) := by decide +kernel
theorem dX3_takesDigit_14 : decode cX3_takesDigit 14 = .ok (.bipush 10, 2) := by decide +kernel
theorem dX3_takesDigit_16 : decode cX3_takesDigit 16 = .ok (.imul, 1) := by decide +kernel
theorem dX3_takesDigit_17 : decode cX3_takesDigit 17 = .ok (.iload_n 1, 1) := by decide +kernel
theorem dX3_takesDigit_18 : decode cX3_takesDigit 18 = .ok (.bipush 48, 2) := by decide +kernel
theorem dX3_takesDigit_20 : decode cX3_takesDigit 20 = .ok (.isub, 1) := by decide +kernel
theorem dX3_takesDigit_21 : decode cX3_takesDigit 21 = .ok (.iadd, 1) := by decide +kernel
theorem dX3_takesDigit_22 : decode cX3_takesDigit 22 = .ok (.istore 5, 2) := by decide +kernel
theorem dX3_takesDigit_24 : decode cX3_takesDigit 24 = .ok (.iload_n 1, 1) := by decide +kernel
theorem dX3_takesDigit_25 : decode cX3_takesDigit 25 = .ok (.invokestatic 65, 3) := by decide +kernel
theorem dX3_takesDigit_28 : decode cX3_takesDigit 28 = .ok (.ifCond .eq 14, 3) := by decide +kernel
theorem dX3_takesDigit_31 : decode cX3_takesDigit 31 = .ok (.iload 4, 2) := by decide +kernel
theorem dX3_takesDigit_33 : decode cX3_takesDigit 33 = .ok (.ifCond .eq 9, 3) := by decide +kernel
theorem dX3_takesDigit_36 : decode cX3_takesDigit 36 = .ok (.iload 5, 2) := by decide +kernel
theorem dX3_takesDigit_38 : decode cX3_takesDigit 38 = .ok (.iload_n 3, 1) := by decide +kernel
theorem dX3_takesDigit_39 : decode cX3_takesDigit 39 = .ok (.if_icmp .le 5, 3) := by decide +kernel
theorem dX3_takesDigit_42 : decode cX3_takesDigit 42 = .ok (.iconst 0, 1) := by decide +kernel
theorem dX3_takesDigit_43 : decode cX3_takesDigit 43 = .ok (.ireturn, 1) := by decide +kernel
theorem dX3_takesDigit_44 : decode cX3_takesDigit 44 = .ok (.aload_n 2, 1) := by decide +kernel
theorem dX3_takesDigit_45 : decode cX3_takesDigit 45 = .ok (.aload_n 0, 1) := by decide +kernel
theorem dX3_takesDigit_46 : decode cX3_takesDigit 46 = .ok (.getfield 21, 3) := by decide +kernel
theorem dX3_takesDigit_49 : decode cX3_takesDigit 49 = .ok (.iconst 1, 1) := by decide +kernel
theorem dX3_takesDigit_50 : decode cX3_takesDigit 50 = .ok (.isub, 1) := by decide +kernel
theorem dX3_takesDigit_51 : decode cX3_takesDigit 51 = .ok (.iload 5, 2) := by decide +kernel
theorem dX3_takesDigit_53 : decode cX3_takesDigit 53 = .ok (.invokestatic 61, 3) := by decide +kernel
theorem dX3_takesDigit_56 : decode cX3_takesDigit 56 = .ok (.iconst 1, 1) := by decide +kernel
theorem dX3_takesDigit_57 : decode cX3_takesDigit 57 = .ok (.ireturn, 1) := by decide +kernel
set_option maxRecDepth 20000 in
theorem ggX3_takesEndOfAddress_X3_isWriting : GoodIn wsX3_takesEndOfAddress wsX3_isWriting := goodIn_r _ [6, 7, 8, 9, 10, 16, 17, 18, 19, 20] rfl (by decide +kernel)
set_option maxRecDepth 20000 in
theorem gX3_takesEndOfAddress_X3_isWriting : GoodIn wsX3_takesEndOfAddress (wsV RX3 41 RX3 yX3_isWriting wsX3_isWriting) := goodIn_app (goodIn_of _ (by decide +kernel)) ggX3_takesEndOfAddress_X3_isWriting
set_option maxRecDepth 20000 in
theorem ggX3_takesEndOfAddress_X3_takesMark : GoodIn wsX3_takesEndOfAddress wsX3_takesMark := goodIn_r _ [14, 15, 16, 17, 18, 19, 20] rfl (by decide +kernel)
set_option maxRecDepth 20000 in
theorem gX3_takesEndOfAddress_X3_takesMark : GoodIn wsX3_takesEndOfAddress (wsV RX3 57 RX3 yX3_takesMark wsX3_takesMark) := goodIn_app (goodIn_of _ (by decide +kernel)) ggX3_takesEndOfAddress_X3_takesMark
theorem dX3_takesEndOfAddress_0 : decode cX3_takesEndOfAddress 0 = .ok (.aload_n 0, 1) := by decide +kernel
theorem dX3_takesEndOfAddress_1 : decode cX3_takesEndOfAddress 1 = .ok (.aload_n 0, 1) := by decide +kernel
theorem dX3_takesEndOfAddress_2 : decode cX3_takesEndOfAddress 2 = .ok (.getfield 21, 3) := by decide +kernel
theorem dX3_takesEndOfAddress_5 : decode cX3_takesEndOfAddress 5 = .ok (.iconst 1, 1) := by decide +kernel
theorem dX3_takesEndOfAddress_6 : decode cX3_takesEndOfAddress 6 = .ok (.isub, 1) := by decide +kernel
theorem dX3_takesEndOfAddress_7 : decode cX3_takesEndOfAddress 7 = .ok (.invokevirtual 41, 3) := by decide +kernel
theorem dX3_takesEndOfAddress_10 : decode cX3_takesEndOfAddress 10 = .ok (.ifCond .eq 14, 3) := by decide +kernel
theorem dX3_takesEndOfAddress_13 : decode cX3_takesEndOfAddress 13 = .ok (.aload_n 0, 1) := by decide +kernel
theorem dX3_takesEndOfAddress_14 : decode cX3_takesEndOfAddress 14 = .ok (.iload_n 1, 1) := by decide +kernel
theorem dX3_takesEndOfAddress_15 : decode cX3_takesEndOfAddress 15 = .ok (.bipush 61, 2) := by decide +kernel
theorem dX3_takesEndOfAddress_17 : decode cX3_takesEndOfAddress 17 = .ok (.iconst 3, 1) := by decide +kernel
theorem dX3_takesEndOfAddress_18 : decode cX3_takesEndOfAddress 18 = .ok (.invokevirtual 57, 3) := by decide +kernel
theorem dX3_takesEndOfAddress_21 : decode cX3_takesEndOfAddress 21 = .ok (.goto 11, 3) := by decide +kernel
theorem dX3_takesEndOfAddress_24 : decode cX3_takesEndOfAddress 24 = .ok (.aload_n 0, 1) := by decide +kernel
theorem dX3_takesEndOfAddress_25 : decode cX3_takesEndOfAddress 25 = .ok (.iload_n 1, 1) := by decide +kernel
theorem dX3_takesEndOfAddress_26 : decode cX3_takesEndOfAddress 26 = .ok (.bipush 59, 2) := by decide +kernel
theorem dX3_takesEndOfAddress_28 : decode cX3_takesEndOfAddress 28 = .ok (.iconst 0, 1) := by decide +kernel
theorem dX3_takesEndOfAddress_29 : decode cX3_takesEndOfAddress 29 = .ok (.invokevirtual 57, 3) := by decide +kernel
theorem dX3_takesEndOfAddress_32 : decode cX3_takesEndOfAddress 32 = .ok (.ireturn, 1) := by decide +kernel
theorem dX3_takesMark_0 : decode cX3_takesMark 0 = .ok (.iload_n 1, 1) := by decide +kernel
theorem dX3_takesMark_1 : decode cX3_takesMark 1 = .ok (.iload_n 2, 1) := by decide +kernel
theorem dX3_takesMark_2 : decode cX3_takesMark 2 = .ok (.if_icmp .eq 5, 3) := by decide +kernel
theorem dX3_takesMark_5 : decode cX3_takesMark 5 = .ok (.iconst 0, 1) := by decide +kernel
theorem dX3_takesMark_6 : decode cX3_takesMark 6 = .ok (.ireturn, 1) := by decide +kernel
theorem dX3_takesMark_7 : decode cX3_takesMark 7 = .ok (.aload_n 0, 1) := by decide +kernel
theorem dX3_takesMark_8 : decode cX3_takesMark 8 = .ok (.iload_n 3, 1) := by decide +kernel
theorem dX3_takesMark_9 : decode cX3_takesMark 9 = .ok (.putfield 25, 3) := by decide +kernel
theorem dX3_takesMark_12 : decode cX3_takesMark 12 = .ok (.iconst 1, 1) := by decide +kernel
theorem dX3_takesMark_13 : decode cX3_takesMark 13 = .ok (.ireturn, 1) := by decide +kernel
theorem dX3_isDigit_0 : decode cX3_isDigit 0 = .ok (.iload_n 0, 1) := by decide +kernel
theorem dX3_isDigit_1 : decode cX3_isDigit 1 = .ok (.bipush 48, 2) := by decide +kernel
theorem dX3_isDigit_3 : decode cX3_isDigit 3 = .ok (.if_icmp .lt 13, 3) := by decide +kernel
theorem dX3_isDigit_6 : decode cX3_isDigit 6 = .ok (.iload_n 0, 1) := by decide +kernel
theorem dX3_isDigit_7 : decode cX3_isDigit 7 = .ok (.bipush 57, 2) := by decide +kernel
theorem dX3_isDigit_9 : decode cX3_isDigit 9 = .ok (.if_icmp .gt 7, 3) := by decide +kernel
theorem dX3_isDigit_12 : decode cX3_isDigit 12 = .ok (.iconst 1, 1) := by decide +kernel
theorem dX3_isDigit_13 : decode cX3_isDigit 13 = .ok (.goto 4, 3) := by decide +kernel
theorem dX3_isDigit_16 : decode cX3_isDigit 16 = .ok (.iconst 0, 1) := by decide +kernel
theorem dX3_isDigit_17 : decode cX3_isDigit 17 = .ok (.ireturn, 1) := by decide +kernel
set_option maxRecDepth 20000 in
theorem ggX3_isWriting_X4_at : GoodIn wsX3_isWriting wsX4_at := goodIn_r _ [4] rfl (by decide +kernel)
theorem gX3_isWriting_X4_at_n68 : GoodIn wsX3_isWriting (wsX4_at) := ggX3_isWriting_X4_at
theorem dX3_isWriting_0 : decode cX3_isWriting 0 = .ok (.aload_n 0, 1) := by decide +kernel
theorem dX3_isWriting_1 : decode cX3_isWriting 1 = .ok (.getfield 15, 3) := by decide +kernel
theorem dX3_isWriting_4 : decode cX3_isWriting 4 = .ok (.iload_n 1, 1) := by decide +kernel
theorem dX3_isWriting_5 : decode cX3_isWriting 5 = .ok (.invokestatic 68, 3) := by decide +kernel
theorem dX3_isWriting_8 : decode cX3_isWriting 8 = .ok (.bipush (-6), 2) := by decide +kernel
theorem dX3_isWriting_10 : decode cX3_isWriting 10 = .ok (.if_icmp .eq 7, 3) := by decide +kernel
theorem dX3_isWriting_13 : decode cX3_isWriting 13 = .ok (.iconst 1, 1) := by decide +kernel
theorem dX3_isWriting_14 : decode cX3_isWriting 14 = .ok (.goto 4, 3) := by decide +kernel
theorem dX3_isWriting_17 : decode cX3_isWriting 17 = .ok (.iconst 0, 1) := by decide +kernel
theorem dX3_isWriting_18 : decode cX3_isWriting 18 = .ok (.ireturn, 1) := by decide +kernel
set_option maxRecDepth 20000 in
theorem ggX3_doOn_X3_noteTracks : GoodIn wsX3_doOn wsX3_noteTracks := goodIn_r _ [7, 1, 8, 2, 9, 10, 11, 12, 13, 14, 15, 16, 17, 18, 19, 20, 21, 124, 125, 126, 127, 128, 129, 130, 131, 132, 133, 134, 135, 136, 137] rfl (by decide +kernel)
set_option maxRecDepth 20000 in
theorem gX3_doOn_X3_noteTracks : GoodIn wsX3_doOn (wsV RX3 72 RX3 yX3_noteTracks wsX3_noteTracks) := goodIn_app (goodIn_of _ (by decide +kernel)) ggX3_doOn_X3_noteTracks
set_option maxRecDepth 20000 in
theorem ggX3_doOn_X4_at : GoodIn wsX3_doOn wsX4_at := goodIn_r _ [11] rfl (by decide +kernel)
theorem gX3_doOn_X4_at_n68 : GoodIn wsX3_doOn (wsX4_at) := ggX3_doOn_X4_at
set_option maxRecDepth 20000 in
theorem ggX3_doOn_X3_doOne : GoodIn wsX3_doOn wsX3_doOne := goodIn_r _ [25, 8, 26, 9, 10, 11, 27, 28, 29, 6, 30, 31, 32, 33, 15, 34, 35, 36, 37, 38, 39, 40, 13, 14, 16, 17, 41, 42, 43, 44, 45, 46, 47, 48, 49, 50, 51, 52, 53, 54, 55, 56, 57, 58, 59, 18, 19, 60, 61, 62, 63, 64, 65, 66, 67, 68, 69, 70, 71, 72, 73, 74, 75, 76, 77, 78, 79, 80, 81, 82, 83, 20, 21, 84, 85, 86, 87, 88, 89, 90, 91, 92, 93, 94, 95, 96, 97, 98, 99, 100, 101, 102, 103, 104, 105, 106, 107, 108, 109, 110, 111, 112, 113, 114, 115, 116, 117, 118, 119, 120, 121, 122, 123, 124, 125, 126, 127, 128, 129, 130, 131, 132, 133, 134, 135, 136, 137] rfl (by decide +kernel)
set_option maxRecDepth 20000 in
theorem gX3_doOn_X3_doOne : GoodIn wsX3_doOn (wsV RX3 76 RX3 yX3_doOne wsX3_doOne) := goodIn_app (goodIn_of _ (by decide +kernel)) ggX3_doOn_X3_doOne
theorem dX3_doOn_0 : decode cX3_doOn 0 = .ok (.aload_n 0, 1) := by decide +kernel
theorem dX3_doOn_1 : decode cX3_doOn 1 = .ok (.aload_n 1, 1) := by decide +kernel
theorem dX3_doOn_2 : decode cX3_doOn 2 = .ok (.iload_n 2, 1) := by decide +kernel
theorem dX3_doOn_3 : decode cX3_doOn 3 = .ok (.invokevirtual 72, 3) := by decide +kernel
theorem dX3_doOn_6 : decode cX3_doOn 6 = .ok (.iconst 0, 1) := by decide +kernel
theorem dX3_doOn_7 : decode cX3_doOn 7 = .ok (.istore_n 3, 1) := by decide +kernel
theorem dX3_doOn_8 : decode cX3_doOn 8 = .ok (.iconst 0, 1) := by decide +kernel
theorem dX3_doOn_9 : decode cX3_doOn 9 = .ok (.istore 4, 2) := by decide +kernel
theorem dX3_doOn_11 : decode cX3_doOn 11 = .ok (.iload 4, 2) := by decide +kernel
theorem dX3_doOn_13 : decode cX3_doOn 13 = .ok (.bipush 16, 2) := by decide +kernel
theorem dX3_doOn_15 : decode cX3_doOn 15 = .ok (.if_icmp .gt 51, 3) := by decide +kernel
theorem dX3_doOn_18 : decode cX3_doOn 18 = .ok (.iconst 0, 1) := by decide +kernel
theorem dX3_doOn_19 : decode cX3_doOn 19 = .ok (.istore 5, 2) := by decide +kernel
theorem dX3_doOn_21 : decode cX3_doOn 21 = .ok (.iload 5, 2) := by decide +kernel
theorem dX3_doOn_23 : decode cX3_doOn 23 = .ok (.aload_n 0, 1) := by decide +kernel
theorem dX3_doOn_24 : decode cX3_doOn 24 = .ok (.getfield 21, 3) := by decide +kernel
theorem dX3_doOn_27 : decode cX3_doOn 27 = .ok (.if_icmp .ge 33, 3) := by decide +kernel
theorem dX3_doOn_30 : decode cX3_doOn 30 = .ok (.aload_n 0, 1) := by decide +kernel
theorem dX3_doOn_31 : decode cX3_doOn 31 = .ok (.getfield 18, 3) := by decide +kernel
theorem dX3_doOn_34 : decode cX3_doOn 34 = .ok (.iload 5, 2) := by decide +kernel
theorem dX3_doOn_36 : decode cX3_doOn 36 = .ok (.invokestatic 68, 3) := by decide +kernel
theorem dX3_doOn_39 : decode cX3_doOn 39 = .ok (.iload 4, 2) := by decide +kernel
theorem dX3_doOn_41 : decode cX3_doOn 41 = .ok (.if_icmp .ne 13, 3) := by decide +kernel
theorem dX3_doOn_44 : decode cX3_doOn 44 = .ok (.iload_n 3, 1) := by decide +kernel
theorem dX3_doOn_45 : decode cX3_doOn 45 = .ok (.aload_n 0, 1) := by decide +kernel
theorem dX3_doOn_46 : decode cX3_doOn 46 = .ok (.aload_n 1, 1) := by decide +kernel
theorem dX3_doOn_47 : decode cX3_doOn 47 = .ok (.iload 5, 2) := by decide +kernel
theorem dX3_doOn_49 : decode cX3_doOn 49 = .ok (.invokevirtual 76, 3) := by decide +kernel
theorem dX3_doOn_52 : decode cX3_doOn 52 = .ok (.iadd, 1) := by decide +kernel
theorem dX3_doOn_53 : decode cX3_doOn 53 = .ok (.istore_n 3, 1) := by decide +kernel
theorem dX3_doOn_54 : decode cX3_doOn 54 = .ok (.iinc 5 1, 3) := by decide +kernel
theorem dX3_doOn_57 : decode cX3_doOn 57 = .ok (.goto (-36), 3) := by decide +kernel
theorem dX3_doOn_60 : decode cX3_doOn 60 = .ok (.iinc 4 1, 3) := by decide +kernel
theorem dX3_doOn_63 : decode cX3_doOn 63 = .ok (.goto (-52), 3) := by decide +kernel
theorem dX3_doOn_66 : decode cX3_doOn 66 = .ok (.iload_n 3, 1) := by decide +kernel
theorem dX3_doOn_67 : decode cX3_doOn 67 = .ok (.ireturn, 1) := by decide +kernel
set_option maxRecDepth 20000 in
theorem ggX3_noteTracks_X4_at : GoodIn wsX3_noteTracks wsX4_at := goodIn_r _ [6] rfl (by decide +kernel)
theorem gX3_noteTracks_X4_at_n68 : GoodIn wsX3_noteTracks (wsX4_at) := ggX3_noteTracks_X4_at
set_option maxRecDepth 20000 in
theorem ggX3_noteTracks_X0_sectorFor : GoodIn wsX3_noteTracks wsX0_sectorFor := goodIn_r _ [11, 12, 4, 5, 6, 22, 23, 24, 25, 26, 27, 28, 29, 30] rfl (by decide +kernel)
set_option maxRecDepth 20000 in
theorem gX3_noteTracks_X0_sectorFor : GoodIn wsX3_noteTracks (wsV RX3 80 RX0 yX0_sectorFor wsX0_sectorFor) := goodIn_app (goodIn_of _ (by decide +kernel)) ggX3_noteTracks_X0_sectorFor
set_option maxRecDepth 20000 in
theorem ggX3_noteTracks_X4_trackOf : GoodIn wsX3_noteTracks wsX4_trackOf := goodIn_r _ [14] rfl (by decide +kernel)
theorem gX3_noteTracks_X4_trackOf_n85 : GoodIn wsX3_noteTracks (wsX4_trackOf) := ggX3_noteTracks_X4_trackOf
set_option maxRecDepth 20000 in
theorem ggX3_noteTracks_X4_lay : GoodIn wsX3_noteTracks wsX4_lay := goodIn_r _ [16] rfl (by decide +kernel)
theorem gX3_noteTracks_X4_lay_n61 : GoodIn wsX3_noteTracks (wsX4_lay) := ggX3_noteTracks_X4_lay
theorem dX3_noteTracks_0 : decode cX3_noteTracks 0 = .ok (.iconst 0, 1) := by decide +kernel
theorem dX3_noteTracks_1 : decode cX3_noteTracks 1 = .ok (.istore_n 3, 1) := by decide +kernel
theorem dX3_noteTracks_2 : decode cX3_noteTracks 2 = .ok (.iload_n 3, 1) := by decide +kernel
theorem dX3_noteTracks_3 : decode cX3_noteTracks 3 = .ok (.aload_n 0, 1) := by decide +kernel
theorem dX3_noteTracks_4 : decode cX3_noteTracks 4 = .ok (.getfield 21, 3) := by decide +kernel
theorem dX3_noteTracks_7 : decode cX3_noteTracks 7 = .ok (.if_icmp .ge 44, 3) := by decide +kernel
theorem dX3_noteTracks_10 : decode cX3_noteTracks 10 = .ok (.aload_n 1, 1) := by decide +kernel
theorem dX3_noteTracks_11 : decode cX3_noteTracks 11 = .ok (.aload_n 0, 1) := by decide +kernel
theorem dX3_noteTracks_12 : decode cX3_noteTracks 12 = .ok (.getfield 9, 3) := by decide +kernel
theorem dX3_noteTracks_15 : decode cX3_noteTracks 15 = .ok (.iload_n 3, 1) := by decide +kernel
theorem dX3_noteTracks_16 : decode cX3_noteTracks 16 = .ok (.invokestatic 68, 3) := by decide +kernel
theorem dX3_noteTracks_19 : decode cX3_noteTracks 19 = .ok (.invokevirtual 80, 3) := by decide +kernel
theorem dX3_noteTracks_22 : decode cX3_noteTracks 22 = .ok (.invokestatic 85, 3) := by decide +kernel
theorem dX3_noteTracks_25 : decode cX3_noteTracks 25 = .ok (.istore 4, 2) := by decide +kernel
theorem dX3_noteTracks_27 : decode cX3_noteTracks 27 = .ok (.aload_n 0, 1) := by decide +kernel
theorem dX3_noteTracks_28 : decode cX3_noteTracks 28 = .ok (.getfield 18, 3) := by decide +kernel
theorem dX3_noteTracks_31 : decode cX3_noteTracks 31 = .ok (.iload_n 3, 1) := by decide +kernel
theorem dX3_noteTracks_32 : decode cX3_noteTracks 32 = .ok (.iload_n 2, 1) := by decide +kernel
theorem dX3_noteTracks_33 : decode cX3_noteTracks 33 = .ok (.ifCond .eq 8, 3) := by decide +kernel
theorem dX3_noteTracks_36 : decode cX3_noteTracks 36 = .ok (.iload 4, 2) := by decide +kernel
theorem dX3_noteTracks_38 : decode cX3_noteTracks 38 = .ok (.goto 4, 3) := by decide +kernel
theorem dX3_noteTracks_41 : decode cX3_noteTracks 41 = .ok (.iconst 0, 1) := by decide +kernel
theorem dX3_noteTracks_42 : decode cX3_noteTracks 42 = .ok (.invokestatic 61, 3) := by decide +kernel
theorem dX3_noteTracks_45 : decode cX3_noteTracks 45 = .ok (.iinc 3 1, 3) := by decide +kernel
theorem dX3_noteTracks_48 : decode cX3_noteTracks 48 = .ok (.goto (-46), 3) := by decide +kernel
theorem dX3_noteTracks_51 : decode cX3_noteTracks 51 = .ok (.return_, 1) := by decide +kernel
set_option maxRecDepth 20000 in
theorem ggX3_doOne_X4_at : GoodIn wsX3_doOne wsX4_at := goodIn_r _ [5] rfl (by decide +kernel)
theorem gX3_doOne_X4_at_n68 : GoodIn wsX3_doOne (wsX4_at) := ggX3_doOne_X4_at
set_option maxRecDepth 20000 in
theorem ggX3_doOne_X3_isWriting : GoodIn wsX3_doOne wsX3_isWriting := goodIn_r _ [10, 2, 3, 4, 5, 113, 114, 115, 116, 117] rfl (by decide +kernel)
set_option maxRecDepth 20000 in
theorem gX3_doOne_X3_isWriting : GoodIn wsX3_doOne (wsV RX3 41 RX3 yX3_isWriting wsX3_isWriting) := goodIn_app (goodIn_of _ (by decide +kernel)) ggX3_doOne_X3_isWriting
set_option maxRecDepth 20000 in
theorem ggX3_doOne_X0_writeTo : GoodIn wsX3_doOne wsX0_writeTo := goodIn_r _ [15, 16, 17, 18, 14, 19, 20, 21, 22, 23, 24, 25, 3, 4, 5, 26, 27, 28, 29, 30, 31, 32, 33, 34, 35, 36, 37, 38, 39, 40, 41, 42, 43, 44, 45, 46, 47, 48, 49, 50, 51, 52, 53, 54, 55, 56, 57, 58, 59, 60, 61, 62, 63, 64, 65, 66, 67, 68, 69, 70, 71, 72, 73, 74, 75, 76, 77, 78, 79, 80, 81, 82, 83, 84, 85, 86, 87, 88, 89, 90, 91, 92, 93, 94, 95, 96, 97, 98, 99, 118, 119, 120, 121, 122, 123, 124, 125, 126] rfl (by decide +kernel)
set_option maxRecDepth 20000 in
theorem gX3_doOne_X0_writeTo : GoodIn wsX3_doOne (wsV RX3 88 RX0 yX0_writeTo wsX0_writeTo) := goodIn_app (goodIn_of _ (by decide +kernel)) ggX3_doOne_X0_writeTo
set_option maxRecDepth 20000 in
theorem ggX3_doOne_X0_readFrom : GoodIn wsX3_doOne wsX0_readFrom := goodIn_r _ [103, 104, 21, 22, 23, 14, 24, 25, 3, 4, 5, 105, 106, 107, 108, 88, 89, 90, 91, 69, 92, 93, 94, 95, 70, 31, 32, 33, 34, 35, 40, 41, 42, 43, 44, 45, 46, 47, 48, 49, 50, 51, 52, 53, 54, 55, 56, 57, 58, 59, 60, 61, 62, 63, 64, 96, 97, 98, 99, 109, 110, 111, 112, 118, 119, 120, 121, 122, 123, 124, 125, 126] rfl (by decide +kernel)
set_option maxRecDepth 20000 in
theorem gX3_doOne_X0_readFrom : GoodIn wsX3_doOne (wsV RX3 92 RX0 yX0_readFrom wsX0_readFrom) := goodIn_app (goodIn_of _ (by decide +kernel)) ggX3_doOne_X0_readFrom
theorem dX3_doOne_0 : decode cX3_doOne 0 = .ok (.aload_n 0, 1) := by decide +kernel
theorem dX3_doOne_1 : decode cX3_doOne 1 = .ok (.getfield 9, 3) := by decide +kernel
theorem dX3_doOne_4 : decode cX3_doOne 4 = .ok (.iload_n 2, 1) := by decide +kernel
theorem dX3_doOne_5 : decode cX3_doOne 5 = .ok (.invokestatic 68, 3) := by decide +kernel
theorem dX3_doOne_8 : decode cX3_doOne 8 = .ok (.istore_n 3, 1) := by decide +kernel
theorem dX3_doOne_9 : decode cX3_doOne 9 = .ok (.aload_n 0, 1) := by decide +kernel
theorem dX3_doOne_10 : decode cX3_doOne 10 = .ok (.iload_n 2, 1) := by decide +kernel
theorem dX3_doOne_11 : decode cX3_doOne 11 = .ok (.invokevirtual 41, 3) := by decide +kernel
theorem dX3_doOne_14 : decode cX3_doOne 14 = .ok (.ifCond .eq 19, 3) := by decide +kernel
theorem dX3_doOne_17 : decode cX3_doOne 17 = .ok (.aload_n 1, 1) := by decide +kernel
theorem dX3_doOne_18 : decode cX3_doOne 18 = .ok (.iload_n 3, 1) := by decide +kernel
theorem dX3_doOne_19 : decode cX3_doOne 19 = .ok (.aload_n 0, 1) := by decide +kernel
theorem dX3_doOne_20 : decode cX3_doOne 20 = .ok (.getfield 15, 3) := by decide +kernel
theorem dX3_doOne_23 : decode cX3_doOne 23 = .ok (.iload_n 2, 1) := by decide +kernel
theorem dX3_doOne_24 : decode cX3_doOne 24 = .ok (.invokestatic 68, 3) := by decide +kernel
theorem dX3_doOne_27 : decode cX3_doOne 27 = .ok (.invokevirtual 88, 3) := by decide +kernel
theorem dX3_doOne_30 : decode cX3_doOne 30 = .ok (.goto 8, 3) := by decide +kernel
theorem dX3_doOne_33 : decode cX3_doOne 33 = .ok (.aload_n 1, 1) := by decide +kernel
theorem dX3_doOne_34 : decode cX3_doOne 34 = .ok (.iload_n 3, 1) := by decide +kernel
theorem dX3_doOne_35 : decode cX3_doOne 35 = .ok (.invokevirtual 92, 3) := by decide +kernel
theorem dX3_doOne_38 : decode cX3_doOne 38 = .ok (.istore 4, 2) := by decide +kernel
theorem dX3_doOne_40 : decode cX3_doOne 40 = .ok (.iload 4, 2) := by decide +kernel
theorem dX3_doOne_42 : decode cX3_doOne 42 = .ok (.ifCond .ge 7, 3) := by decide +kernel
theorem dX3_doOne_45 : decode cX3_doOne 45 = .ok (.iconst 0, 1) := by decide +kernel
theorem dX3_doOne_46 : decode cX3_doOne 46 = .ok (.goto 4, 3) := by decide +kernel
theorem dX3_doOne_49 : decode cX3_doOne 49 = .ok (.iconst 1, 1) := by decide +kernel
theorem dX3_doOne_50 : decode cX3_doOne 50 = .ok (.ireturn, 1) := by decide +kernel
set_option maxRecDepth 20000 in
theorem ggX4_init_X0_init : GoodIn wsX4_init wsX0_init := goodIn_r _ [24, 25, 2, 3, 26, 27, 28, 29, 30, 31, 32, 33, 34, 35, 36, 37, 38, 39, 40, 41, 42, 43, 44, 45, 46, 47, 48, 49, 50, 71, 72, 73, 74, 75, 76, 77, 78, 79] rfl (by decide +kernel)
theorem gX4_init_X0_init : GoodIn wsX4_init (wsX0_init) := ggX4_init_X0_init
set_option maxRecDepth 20000 in
theorem ggX4_init_X2_init : GoodIn wsX4_init wsX2_init := goodIn_r _ [52, 53, 2, 3, 26, 54, 55, 86, 87] rfl (by decide +kernel)
theorem gX4_init_X2_init_n21 : GoodIn wsX4_init (wsX2_init) := ggX4_init_X2_init
set_option maxRecDepth 20000 in
theorem ggX4_init_X3_init : GoodIn wsX4_init wsX3_init := goodIn_r _ [57, 58, 2, 3, 26, 59, 60, 61, 62, 63, 88, 89, 90, 91, 92] rfl (by decide +kernel)
theorem gX4_init_X3_init_n28 : GoodIn wsX4_init (wsX3_init) := ggX4_init_X3_init
set_option maxRecDepth 20000 in
theorem ggX4_init_X1_init : GoodIn wsX4_init wsX1_init := goodIn_r _ [65, 66, 2, 3, 67, 68, 69, 70, 93, 94, 95] rfl (by decide +kernel)
theorem gX4_init_X1_init_n35 : GoodIn wsX4_init (wsX1_init) := ggX4_init_X1_init
theorem dX4_init_0 : decode cX4_init 0 = .ok (.aload_n 0, 1) := by decide +kernel
theorem dX4_init_1 : decode cX4_init 1 = .ok (.invokespecial 3, 3) := by decide +kernel
theorem dX4_init_4 : decode cX4_init 4 = .ok (.aload_n 0, 1) := by decide +kernel
theorem dX4_init_5 : decode cX4_init 5 = .ok (.new 9, 3) := by decide +kernel
theorem dX4_init_8 : decode cX4_init 8 = .ok (.dup, 1) := by decide +kernel
theorem dX4_init_9 : decode cX4_init 9 = .ok (.invokespecial 11, 3) := by decide +kernel
theorem dX4_init_12 : decode cX4_init 12 = .ok (.putfield 12, 3) := by decide +kernel
theorem dX4_init_15 : decode cX4_init 15 = .ok (.aload_n 0, 1) := by decide +kernel
theorem dX4_init_16 : decode cX4_init 16 = .ok (.new 9, 3) := by decide +kernel
theorem dX4_init_19 : decode cX4_init 19 = .ok (.dup, 1) := by decide +kernel
theorem dX4_init_20 : decode cX4_init 20 = .ok (.invokespecial 11, 3) := by decide +kernel
theorem dX4_init_23 : decode cX4_init 23 = .ok (.putfield 16, 3) := by decide +kernel
theorem dX4_init_26 : decode cX4_init 26 = .ok (.aload_n 0, 1) := by decide +kernel
theorem dX4_init_27 : decode cX4_init 27 = .ok (.new 19, 3) := by decide +kernel
theorem dX4_init_30 : decode cX4_init 30 = .ok (.dup, 1) := by decide +kernel
theorem dX4_init_31 : decode cX4_init 31 = .ok (.invokespecial 21, 3) := by decide +kernel
theorem dX4_init_34 : decode cX4_init 34 = .ok (.putfield 22, 3) := by decide +kernel
theorem dX4_init_37 : decode cX4_init 37 = .ok (.aload_n 0, 1) := by decide +kernel
theorem dX4_init_38 : decode cX4_init 38 = .ok (.new 26, 3) := by decide +kernel
theorem dX4_init_41 : decode cX4_init 41 = .ok (.dup, 1) := by decide +kernel
theorem dX4_init_42 : decode cX4_init 42 = .ok (.invokespecial 28, 3) := by decide +kernel
theorem dX4_init_45 : decode cX4_init 45 = .ok (.putfield 29, 3) := by decide +kernel
theorem dX4_init_48 : decode cX4_init 48 = .ok (.aload_n 0, 1) := by decide +kernel
theorem dX4_init_49 : decode cX4_init 49 = .ok (.new 33, 3) := by decide +kernel
theorem dX4_init_52 : decode cX4_init 52 = .ok (.dup, 1) := by decide +kernel
theorem dX4_init_53 : decode cX4_init 53 = .ok (.invokespecial 35, 3) := by decide +kernel
theorem dX4_init_56 : decode cX4_init 56 = .ok (.putfield 36, 3) := by decide +kernel
theorem dX4_init_59 : decode cX4_init 59 = .ok (.aload_n 0, 1) := by decide +kernel
theorem dX4_init_60 : decode cX4_init 60 = .ok (.iconst 2, 1) := by decide +kernel
theorem dX4_init_61 : decode cX4_init 61 = .ok (.anewarray 9, 3) := by decide +kernel
theorem dX4_init_64 : decode cX4_init 64 = .ok (.putfield 40, 3) := by decide +kernel
theorem dX4_init_67 : decode cX4_init 67 = .ok (.return_, 1) := by decide +kernel
set_option maxRecDepth 20000 in
theorem ggX4_set_X4_at : GoodIn wsX4_set wsX4_at := goodIn_r _ [7] rfl (by decide +kernel)
set_option maxRecDepth 20000 in
theorem gX4_set_X4_at : GoodIn wsX4_set (va_wsS RX4 51 yX4_at wsX4_at) := goodIn_app (goodIn_of _ (by decide +kernel)) ggX4_set_X4_at
set_option maxRecDepth 20000 in
theorem ggX4_set_X4_freshTrial : GoodIn wsX4_set wsX4_freshTrial := goodIn_r _ [11, 12, 13, 14, 15, 16, 17, 18, 19, 20, 21, 22, 23, 24, 25, 26, 27, 28, 6, 29, 30, 31, 32, 33, 34, 35, 36, 37, 74, 75, 76, 77, 78, 79, 80, 81, 82, 83, 84, 85, 86, 87, 88] rfl (by decide +kernel)
set_option maxRecDepth 20000 in
theorem gX4_set_X4_freshTrial : GoodIn wsX4_set (wsV RX4 58 RX4 yX4_freshTrial wsX4_freshTrial) := goodIn_app (goodIn_of _ (by decide +kernel)) ggX4_set_X4_freshTrial
set_option maxRecDepth 20000 in
theorem ggX4_set_X0_exchangeSetting : GoodIn wsX4_set wsX0_exchangeSetting := goodIn_r _ [41, 19, 5, 6, 7, 42, 43, 80, 81, 82, 83, 84, 85, 86, 87, 88] rfl (by decide +kernel)
set_option maxRecDepth 20000 in
theorem gX4_set_X0_exchangeSetting : GoodIn wsX4_set (wsV RX4 62 RX0 yX0_exchangeSetting wsX0_exchangeSetting) := goodIn_app (goodIn_of _ (by decide +kernel)) ggX4_set_X0_exchangeSetting
set_option maxRecDepth 20000 in
theorem ggX4_set_X4_adopt : GoodIn wsX4_set wsX4_adopt := goodIn_r _ [47, 48, 13, 12, 49, 50, 17, 51, 52, 53, 54, 55, 56, 57, 58, 59, 60, 61, 62, 63, 64, 65, 66, 67, 68, 69, 19, 20, 21, 22, 23, 24, 25, 26, 27, 28, 6, 29, 30, 31, 32, 33, 34, 35, 36, 37, 70, 71, 72, 73, 74, 75, 76, 77, 78, 79, 80, 81, 82, 83, 84, 85, 86, 87, 88, 89, 90, 91] rfl (by decide +kernel)
set_option maxRecDepth 20000 in
theorem gX4_set_X4_adopt : GoodIn wsX4_set (wsV RX4 66 RX4 yX4_adopt wsX4_adopt) := goodIn_app (goodIn_of _ (by decide +kernel)) ggX4_set_X4_adopt
theorem dX4_set_0 : decode cX4_set 0 = .ok (.iload_n 1, 1) := by decide +kernel
theorem dX4_set_1 : decode cX4_set 1 = .ok (.ifCond .lt 11, 3) := by decide +kernel
theorem dX4_set_4 : decode cX4_set 4 = .ok (.iload_n 1, 1) := by decide +kernel
theorem dX4_set_5 : decode cX4_set 5 = .ok (.getstatic 44, 3) := by decide +kernel
theorem dX4_set_8 : decode cX4_set 8 = .ok (.arraylength, 1) := by decide +kernel
theorem dX4_set_9 : decode cX4_set 9 = .ok (.if_icmp .lt 6, 3) := by decide +kernel
theorem dX4_set_12 : decode cX4_set 12 = .ok (.bipush (-2), 2) := by decide +kernel
theorem dX4_set_14 : decode cX4_set 14 = .ok (.ireturn, 1) := by decide +kernel
theorem dX4_set_15 : decode cX4_set 15 = .ok (.iload_n 2, 1) := by decide +kernel
theorem dX4_set_16 : decode cX4_set 16 = .ok (.getstatic 48, 3) := by decide +kernel
theorem dX4_set_19 : decode cX4_set 19 = .ok (.iload_n 1, 1) := by decide +kernel
theorem dX4_set_20 : decode cX4_set 20 = .ok (.invokestatic 51, 3) := by decide +kernel
theorem dX4_set_23 : decode cX4_set 23 = .ok (.if_icmp .lt 14, 3) := by decide +kernel
theorem dX4_set_26 : decode cX4_set 26 = .ok (.iload_n 2, 1) := by decide +kernel
theorem dX4_set_27 : decode cX4_set 27 = .ok (.getstatic 55, 3) := by decide +kernel
theorem dX4_set_30 : decode cX4_set 30 = .ok (.iload_n 1, 1) := by decide +kernel
theorem dX4_set_31 : decode cX4_set 31 = .ok (.invokestatic 51, 3) := by decide +kernel
theorem dX4_set_34 : decode cX4_set 34 = .ok (.if_icmp .le 6, 3) := by decide +kernel
theorem dX4_set_37 : decode cX4_set 37 = .ok (.bipush (-2), 2) := by decide +kernel
theorem dX4_set_39 : decode cX4_set 39 = .ok (.ireturn, 1) := by decide +kernel
theorem dX4_set_40 : decode cX4_set 40 = .ok (.aload_n 0, 1) := by decide +kernel
theorem dX4_set_41 : decode cX4_set 41 = .ok (.aload_n 0, 1) := by decide +kernel
theorem dX4_set_42 : decode cX4_set 42 = .ok (.invokevirtual 58, 3) := by decide +kernel
theorem dX4_set_45 : decode cX4_set 45 = .ok (.iload_n 1, 1) := by decide +kernel
theorem dX4_set_46 : decode cX4_set 46 = .ok (.iload_n 2, 1) := by decide +kernel
theorem dX4_set_47 : decode cX4_set 47 = .ok (.invokevirtual 62, 3) := by decide +kernel
theorem dX4_set_50 : decode cX4_set 50 = .ok (.invokevirtual 66, 3) := by decide +kernel
theorem dX4_set_53 : decode cX4_set 53 = .ok (.ireturn, 1) := by decide +kernel
set_option maxRecDepth 20000 in
theorem ggX4_write_X4_isAddress : GoodIn wsX4_write wsX4_isAddress := goodIn_r _ [4] rfl (by decide +kernel)
set_option maxRecDepth 20000 in
theorem gX4_write_X4_isAddress : GoodIn wsX4_write (va_wsS RX4 70 yX4_isAddress wsX4_isAddress) := goodIn_app (goodIn_of _ (by decide +kernel)) ggX4_write_X4_isAddress
set_option maxRecDepth 20000 in
theorem ggX4_write_X4_freshTrial : GoodIn wsX4_write wsX4_freshTrial := goodIn_r _ [8, 9, 10, 11, 12, 13, 14, 15, 16, 17, 18, 19, 20, 21, 22, 23, 24, 25, 3, 26, 27, 28, 29, 30, 31, 32, 33, 34, 142, 143, 144, 145, 146, 147, 148, 149, 150, 151, 152, 153, 154, 155, 156] rfl (by decide +kernel)
set_option maxRecDepth 20000 in
theorem gX4_write_X4_freshTrial : GoodIn wsX4_write (wsV RX4 58 RX4 yX4_freshTrial wsX4_freshTrial) := goodIn_app (goodIn_of _ (by decide +kernel)) ggX4_write_X4_freshTrial
set_option maxRecDepth 20000 in
theorem ggX4_write_X0_writeTo : GoodIn wsX4_write wsX0_writeTo := goodIn_r _ [38, 39, 40, 41, 14, 42, 21, 43, 44, 45, 46, 20, 47, 3, 48, 49, 50, 51, 52, 19, 53, 54, 55, 56, 16, 57, 58, 59, 60, 61, 62, 63, 64, 23, 65, 66, 67, 68, 69, 70, 24, 71, 72, 29, 73, 74, 75, 76, 77, 78, 79, 80, 81, 82, 83, 84, 85, 86, 17, 18, 87, 88, 89, 90, 91, 92, 93, 94, 95, 28, 30, 96, 97, 98, 99, 2, 4, 100, 101, 102, 103, 104, 105, 106, 107, 108, 109, 110, 111, 148, 149, 150, 151, 152, 153, 154, 155, 156] rfl (by decide +kernel)
set_option maxRecDepth 20000 in
theorem gX4_write_X0_writeTo : GoodIn wsX4_write (wsV RX4 74 RX0 yX0_writeTo wsX0_writeTo) := goodIn_app (goodIn_of _ (by decide +kernel)) ggX4_write_X0_writeTo
set_option maxRecDepth 20000 in
theorem ggX4_write_X4_adopt : GoodIn wsX4_write wsX4_adopt := goodIn_r _ [115, 116, 10, 9, 117, 118, 14, 119, 120, 121, 122, 123, 124, 125, 126, 127, 128, 129, 130, 131, 132, 133, 134, 135, 136, 137, 16, 17, 18, 19, 20, 21, 22, 23, 24, 25, 3, 26, 27, 28, 29, 30, 31, 32, 33, 34, 138, 139, 140, 141, 142, 143, 144, 145, 146, 147, 148, 149, 150, 151, 152, 153, 154, 155, 156, 157, 158, 159] rfl (by decide +kernel)
set_option maxRecDepth 20000 in
theorem gX4_write_X4_adopt : GoodIn wsX4_write (wsV RX4 66 RX4 yX4_adopt wsX4_adopt) := goodIn_app (goodIn_of _ (by decide +kernel)) ggX4_write_X4_adopt
theorem dX4_write_0 : decode cX4_write 0 = .ok (.iload_n 1, 1) := by decide +kernel
theorem dX4_write_1 : decode cX4_write 1 = .ok (.invokestatic 70, 3) := by decide +kernel
theorem dX4_write_4 : decode cX4_write 4 = .ok (.ifCond .ne 5, 3) := by decide +kernel
theorem dX4_write_7 : decode cX4_write 7 = .ok (.iconst (-1), 1) := by decide +kernel
theorem dX4_write_8 : decode cX4_write 8 = .ok (.ireturn, 1) := by decide +kernel
theorem dX4_write_9 : decode cX4_write 9 = .ok (.iload_n 2, 1) := by decide +kernel
theorem dX4_write_10 : decode cX4_write 10 = .ok (.ifCond .lt 10, 3) := by decide +kernel
theorem dX4_write_13 : decode cX4_write 13 = .ok (.iload_n 2, 1) := by decide +kernel
theorem dX4_write_14 : decode cX4_write 14 = .ok (.sipush 255, 3) := by decide +kernel
theorem dX4_write_17 : decode cX4_write 17 = .ok (.if_icmp .le 6, 3) := by decide +kernel
theorem dX4_write_20 : decode cX4_write 20 = .ok (.bipush (-2), 2) := by decide +kernel
theorem dX4_write_22 : decode cX4_write 22 = .ok (.ireturn, 1) := by decide +kernel
theorem dX4_write_23 : decode cX4_write 23 = .ok (.aload_n 0, 1) := by decide +kernel
theorem dX4_write_24 : decode cX4_write 24 = .ok (.aload_n 0, 1) := by decide +kernel
theorem dX4_write_25 : decode cX4_write 25 = .ok (.invokevirtual 58, 3) := by decide +kernel
theorem dX4_write_28 : decode cX4_write 28 = .ok (.iload_n 1, 1) := by decide +kernel
theorem dX4_write_29 : decode cX4_write 29 = .ok (.iload_n 2, 1) := by decide +kernel
theorem dX4_write_30 : decode cX4_write 30 = .ok (.invokevirtual 74, 3) := by decide +kernel
theorem dX4_write_33 : decode cX4_write 33 = .ok (.invokevirtual 66, 3) := by decide +kernel
theorem dX4_write_36 : decode cX4_write 36 = .ok (.ireturn, 1) := by decide +kernel
set_option maxRecDepth 20000 in
theorem ggX4_read_X4_isAddress : GoodIn wsX4_read wsX4_isAddress := goodIn_r _ [4] rfl (by decide +kernel)
set_option maxRecDepth 20000 in
theorem gX4_read_X4_isAddress : GoodIn wsX4_read (va_wsS RX4 70 yX4_isAddress wsX4_isAddress) := goodIn_app (goodIn_of _ (by decide +kernel)) ggX4_read_X4_isAddress
set_option maxRecDepth 20000 in
theorem ggX4_read_X4_freshTrial : GoodIn wsX4_read wsX4_freshTrial := goodIn_r _ [8, 9, 10, 11, 12, 13, 14, 15, 16, 17, 18, 19, 20, 21, 22, 23, 24, 25, 3, 26, 27, 28, 29, 30, 31, 32, 33, 34, 121, 122, 123, 124, 125, 126, 127, 128, 129, 130, 131, 132, 133, 134, 135] rfl (by decide +kernel)
set_option maxRecDepth 20000 in
theorem gX4_read_X4_freshTrial : GoodIn wsX4_read (wsV RX4 58 RX4 yX4_freshTrial wsX4_freshTrial) := goodIn_app (goodIn_of _ (by decide +kernel)) ggX4_read_X4_freshTrial
set_option maxRecDepth 20000 in
theorem ggX4_read_X0_readFrom : GoodIn wsX4_read wsX0_readFrom := goodIn_r _ [38, 22, 39, 40, 41, 14, 42, 20, 43, 3, 44, 45, 46, 47, 48, 49, 50, 51, 52, 17, 53, 54, 55, 56, 18, 57, 58, 59, 60, 16, 61, 62, 63, 64, 23, 65, 66, 67, 68, 69, 70, 24, 71, 72, 29, 73, 74, 75, 76, 77, 78, 79, 80, 81, 82, 83, 84, 85, 86, 87, 88, 89, 90, 127, 128, 129, 130, 131, 132, 133, 134, 135] rfl (by decide +kernel)
set_option maxRecDepth 20000 in
theorem gX4_read_X0_readFrom : GoodIn wsX4_read (wsV RX4 77 RX0 yX0_readFrom wsX0_readFrom) := goodIn_app (goodIn_of _ (by decide +kernel)) ggX4_read_X0_readFrom
set_option maxRecDepth 20000 in
theorem ggX4_read_X4_adopt : GoodIn wsX4_read wsX4_adopt := goodIn_r _ [94, 95, 10, 9, 96, 97, 14, 98, 99, 100, 101, 102, 103, 104, 105, 106, 107, 108, 109, 110, 111, 112, 113, 114, 115, 116, 16, 17, 18, 19, 20, 21, 22, 23, 24, 25, 3, 26, 27, 28, 29, 30, 31, 32, 33, 34, 117, 118, 119, 120, 121, 122, 123, 124, 125, 126, 127, 128, 129, 130, 131, 132, 133, 134, 135, 136, 137, 138] rfl (by decide +kernel)
set_option maxRecDepth 20000 in
theorem gX4_read_X4_adopt : GoodIn wsX4_read (wsV RX4 66 RX4 yX4_adopt wsX4_adopt) := goodIn_app (goodIn_of _ (by decide +kernel)) ggX4_read_X4_adopt
theorem dX4_read_0 : decode cX4_read 0 = .ok (.iload_n 1, 1) := by decide +kernel
theorem dX4_read_1 : decode cX4_read 1 = .ok (.invokestatic 70, 3) := by decide +kernel
theorem dX4_read_4 : decode cX4_read 4 = .ok (.ifCond .ne 5, 3) := by decide +kernel
theorem dX4_read_7 : decode cX4_read 7 = .ok (.iconst (-1), 1) := by decide +kernel
theorem dX4_read_8 : decode cX4_read 8 = .ok (.ireturn, 1) := by decide +kernel
theorem dX4_read_9 : decode cX4_read 9 = .ok (.aload_n 0, 1) := by decide +kernel
theorem dX4_read_10 : decode cX4_read 10 = .ok (.aload_n 0, 1) := by decide +kernel
theorem dX4_read_11 : decode cX4_read 11 = .ok (.invokevirtual 58, 3) := by decide +kernel
theorem dX4_read_14 : decode cX4_read 14 = .ok (.iload_n 1, 1) := by decide +kernel
theorem dX4_read_15 : decode cX4_read 15 = .ok (.invokevirtual 77, 3) := by decide +kernel
theorem dX4_read_18 : decode cX4_read 18 = .ok (.invokevirtual 66, 3) := by decide +kernel
theorem dX4_read_21 : decode cX4_read 21 = .ok (.ireturn, 1) := by decide +kernel
set_option maxRecDepth 20000 in
theorem ggX4_refresh_X4_isAddress : GoodIn wsX4_refresh wsX4_isAddress := goodIn_r _ [5] rfl (by decide +kernel)
set_option maxRecDepth 20000 in
theorem gX4_refresh_X4_isAddress : GoodIn wsX4_refresh (va_wsS RX4 70 yX4_isAddress wsX4_isAddress) := goodIn_app (goodIn_of _ (by decide +kernel)) ggX4_refresh_X4_isAddress
set_option maxRecDepth 20000 in
theorem ggX4_refresh_X0_sectorFor : GoodIn wsX4_refresh wsX0_sectorFor := goodIn_r _ [10, 11, 12, 4, 13, 162, 163, 164, 165, 166, 167, 168, 169, 170] rfl (by decide +kernel)
set_option maxRecDepth 20000 in
theorem gX4_refresh_X0_sectorFor : GoodIn wsX4_refresh (wsV RX4 80 RX0 yX0_sectorFor wsX0_sectorFor) := goodIn_app (goodIn_of _ (by decide +kernel)) ggX4_refresh_X0_sectorFor
set_option maxRecDepth 20000 in
theorem ggX4_refresh_X0_blurOf : GoodIn wsX4_refresh wsX0_blurOf := goodIn_r _ [17, 18, 12, 4, 13, 162, 163, 164, 165, 166, 167, 168, 169, 170] rfl (by decide +kernel)
set_option maxRecDepth 20000 in
theorem gX4_refresh_X0_blurOf : GoodIn wsX4_refresh (wsV RX4 83 RX0 yX0_blurOf wsX0_blurOf) := goodIn_app (goodIn_of _ (by decide +kernel)) ggX4_refresh_X0_blurOf
set_option maxRecDepth 20000 in
theorem ggX4_refresh_X4_freshTrial : GoodIn wsX4_refresh wsX4_freshTrial := goodIn_r _ [22, 23, 1, 24, 25, 26, 9, 27, 28, 29, 18, 30, 11, 31, 32, 33, 34, 35, 4, 36, 37, 38, 39, 40, 41, 42, 43, 44, 156, 157, 158, 159, 160, 161, 162, 163, 164, 165, 166, 167, 168, 169, 170] rfl (by decide +kernel)
set_option maxRecDepth 20000 in
theorem gX4_refresh_X4_freshTrial : GoodIn wsX4_refresh (wsV RX4 58 RX4 yX4_freshTrial wsX4_freshTrial) := goodIn_app (goodIn_of _ (by decide +kernel)) ggX4_refresh_X4_freshTrial
set_option maxRecDepth 20000 in
theorem ggX4_refresh_X0_readFrom : GoodIn wsX4_refresh wsX0_readFrom := goodIn_r _ [48, 32, 49, 7, 8, 9, 10, 11, 12, 4, 13, 50, 51, 52, 53, 54, 55, 56, 57, 29, 58, 15, 16, 17, 18, 59, 60, 61, 62, 28, 63, 64, 65, 66, 33, 67, 68, 69, 70, 71, 72, 34, 73, 74, 39, 75, 76, 77, 78, 79, 80, 81, 82, 83, 84, 85, 86, 87, 88, 89, 90, 91, 92, 162, 163, 164, 165, 166, 167, 168, 169, 170] rfl (by decide +kernel)
set_option maxRecDepth 20000 in
theorem gX4_refresh_X0_readFrom : GoodIn wsX4_refresh (wsV RX4 77 RX0 yX0_readFrom wsX0_readFrom) := goodIn_app (goodIn_of _ (by decide +kernel)) ggX4_refresh_X0_readFrom
set_option maxRecDepth 20000 in
theorem ggX4_refresh_X0_writeTo : GoodIn wsX4_refresh wsX0_writeTo := goodIn_r _ [96, 97, 98, 99, 9, 100, 31, 49, 7, 8, 10, 11, 12, 4, 13, 101, 102, 103, 104, 30, 59, 60, 61, 62, 28, 105, 106, 107, 108, 63, 64, 65, 66, 33, 67, 68, 69, 70, 71, 72, 34, 73, 74, 39, 75, 76, 77, 78, 79, 80, 81, 82, 83, 84, 109, 110, 111, 112, 29, 18, 113, 114, 115, 116, 117, 118, 119, 120, 121, 38, 40, 122, 123, 124, 125, 3, 5, 54, 55, 56, 57, 58, 15, 16, 17, 85, 86, 87, 88, 162, 163, 164, 165, 166, 167, 168, 169, 170] rfl (by decide +kernel)
set_option maxRecDepth 20000 in
theorem gX4_refresh_X0_writeTo : GoodIn wsX4_refresh (wsV RX4 74 RX0 yX0_writeTo wsX0_writeTo) := goodIn_app (goodIn_of _ (by decide +kernel)) ggX4_refresh_X0_writeTo
set_option maxRecDepth 20000 in
theorem ggX4_refresh_X4_adopt : GoodIn wsX4_refresh wsX4_adopt := goodIn_r _ [129, 130, 1, 23, 131, 132, 9, 133, 134, 135, 136, 137, 138, 139, 140, 141, 142, 143, 144, 145, 146, 147, 148, 149, 150, 151, 28, 29, 18, 30, 11, 31, 32, 33, 34, 35, 4, 36, 37, 38, 39, 40, 41, 42, 43, 44, 152, 153, 154, 155, 156, 157, 158, 159, 160, 161, 162, 163, 164, 165, 166, 167, 168, 169, 170, 171, 172, 173] rfl (by decide +kernel)
set_option maxRecDepth 20000 in
theorem gX4_refresh_X4_adopt : GoodIn wsX4_refresh (wsV RX4 66 RX4 yX4_adopt wsX4_adopt) := goodIn_app (goodIn_of _ (by decide +kernel)) ggX4_refresh_X4_adopt
theorem dX4_refresh_0 : decode cX4_refresh 0 = .ok (.iload_n 1, 1) := by decide +kernel
theorem dX4_refresh_1 : decode cX4_refresh 1 = .ok (.invokestatic 70, 3) := by decide +kernel
theorem dX4_refresh_4 : decode cX4_refresh 4 = .ok (.ifCond .ne 5, 3) := by decide +kernel
theorem dX4_refresh_7 : decode cX4_refresh 7 = .ok (.iconst (-1), 1) := by decide +kernel
theorem dX4_refresh_8 : decode cX4_refresh 8 = .ok (.ireturn, 1) := by decide +kernel
theorem dX4_refresh_9 : decode cX4_refresh 9 = .ok (.aload_n 0, 1) := by decide +kernel
theorem dX4_refresh_10 : decode cX4_refresh 10 = .ok (.getfield 12, 3) := by decide +kernel
theorem dX4_refresh_13 : decode cX4_refresh 13 = .ok (.aload_n 0, 1) := by decide +kernel
theorem dX4_refresh_14 : decode cX4_refresh 14 = .ok (.getfield 12, 3) := by decide +kernel
theorem dX4_refresh_17 : decode cX4_refresh 17 = .ok (.iload_n 1, 1) := by decide +kernel
theorem dX4_refresh_18 : decode cX4_refresh 18 = .ok (.invokevirtual 80, 3) := by decide +kernel
theorem dX4_refresh_21 : decode cX4_refresh 21 = .ok (.invokevirtual 83, 3) := by decide +kernel
theorem dX4_refresh_24 : decode cX4_refresh 24 = .ok (.istore_n 2, 1) := by decide +kernel
theorem dX4_refresh_25 : decode cX4_refresh 25 = .ok (.aload_n 0, 1) := by decide +kernel
theorem dX4_refresh_26 : decode cX4_refresh 26 = .ok (.invokevirtual 58, 3) := by decide +kernel
theorem dX4_refresh_29 : decode cX4_refresh 29 = .ok (.astore_n 3, 1) := by decide +kernel
theorem dX4_refresh_30 : decode cX4_refresh 30 = .ok (.aload_n 3, 1) := by decide +kernel
theorem dX4_refresh_31 : decode cX4_refresh 31 = .ok (.iload_n 1, 1) := by decide +kernel
theorem dX4_refresh_32 : decode cX4_refresh 32 = .ok (.invokevirtual 77, 3) := by decide +kernel
theorem dX4_refresh_35 : decode cX4_refresh 35 = .ok (.istore 4, 2) := by decide +kernel
theorem dX4_refresh_37 : decode cX4_refresh 37 = .ok (.iload 4, 2) := by decide +kernel
theorem dX4_refresh_39 : decode cX4_refresh 39 = .ok (.ifCond .ge 6, 3) := by decide +kernel
theorem dX4_refresh_42 : decode cX4_refresh 42 = .ok (.iload 4, 2) := by decide +kernel
theorem dX4_refresh_44 : decode cX4_refresh 44 = .ok (.ireturn, 1) := by decide +kernel
theorem dX4_refresh_45 : decode cX4_refresh 45 = .ok (.aload_n 3, 1) := by decide +kernel
theorem dX4_refresh_46 : decode cX4_refresh 46 = .ok (.iload_n 1, 1) := by decide +kernel
theorem dX4_refresh_47 : decode cX4_refresh 47 = .ok (.iload 4, 2) := by decide +kernel
theorem dX4_refresh_49 : decode cX4_refresh 49 = .ok (.invokevirtual 74, 3) := by decide +kernel
theorem dX4_refresh_52 : decode cX4_refresh 52 = .ok (.istore 5, 2) := by decide +kernel
theorem dX4_refresh_54 : decode cX4_refresh 54 = .ok (.iload 5, 2) := by decide +kernel
theorem dX4_refresh_56 : decode cX4_refresh 56 = .ok (.ifCond .ge 8, 3) := by decide +kernel
theorem dX4_refresh_59 : decode cX4_refresh 59 = .ok (.iload 5, 2) := by decide +kernel
theorem dX4_refresh_61 : decode cX4_refresh 61 = .ok (.goto 8, 3) := by decide +kernel
theorem dX4_refresh_64 : decode cX4_refresh 64 = .ok (.aload_n 0, 1) := by decide +kernel
theorem dX4_refresh_65 : decode cX4_refresh 65 = .ok (.iload_n 2, 1) := by decide +kernel
theorem dX4_refresh_66 : decode cX4_refresh 66 = .ok (.invokevirtual 66, 3) := by decide +kernel
theorem dX4_refresh_69 : decode cX4_refresh 69 = .ok (.ireturn, 1) := by decide +kernel
set_option maxRecDepth 20000 in
theorem ggX4_seek_X4_isTrack : GoodIn wsX4_seek wsX4_isTrack := goodIn_r _ [4] rfl (by decide +kernel)
set_option maxRecDepth 20000 in
theorem gX4_seek_X4_isTrack : GoodIn wsX4_seek (va_wsS RX4 86 yX4_isTrack wsX4_isTrack) := goodIn_app (goodIn_of _ (by decide +kernel)) ggX4_seek_X4_isTrack
set_option maxRecDepth 20000 in
theorem ggX4_seek_X4_freshTrial : GoodIn wsX4_seek wsX4_freshTrial := goodIn_r _ [8, 9, 10, 11, 12, 13, 14, 15, 16, 17, 18, 19, 20, 21, 22, 23, 24, 25, 3, 26, 27, 28, 29, 30, 31, 32, 33, 34, 91, 92, 93, 94, 95, 96, 97, 98, 99, 100, 101, 102, 103, 104, 105] rfl (by decide +kernel)
set_option maxRecDepth 20000 in
theorem gX4_seek_X4_freshTrial : GoodIn wsX4_seek (wsV RX4 58 RX4 yX4_freshTrial wsX4_freshTrial) := goodIn_app (goodIn_of _ (by decide +kernel)) ggX4_seek_X4_freshTrial
set_option maxRecDepth 20000 in
theorem ggX4_seek_X0_moveHead : GoodIn wsX4_seek wsX0_moveHead := goodIn_r _ [38, 39, 40, 41, 14, 42, 24, 43, 44, 29, 45, 46, 47, 48, 49, 16, 50, 3, 51, 52, 53, 54, 55, 56, 23, 57, 58, 59, 60, 97, 98, 99, 100, 101, 102, 103, 104, 105] rfl (by decide +kernel)
set_option maxRecDepth 20000 in
theorem gX4_seek_X0_moveHead : GoodIn wsX4_seek (wsV RX4 89 RX0 yX0_moveHead wsX0_moveHead) := goodIn_app (goodIn_of _ (by decide +kernel)) ggX4_seek_X0_moveHead
set_option maxRecDepth 20000 in
theorem ggX4_seek_X4_adopt : GoodIn wsX4_seek wsX4_adopt := goodIn_r _ [64, 65, 10, 9, 66, 67, 14, 68, 69, 70, 71, 72, 73, 74, 75, 76, 77, 78, 79, 80, 81, 82, 83, 84, 85, 86, 16, 17, 18, 19, 20, 21, 22, 23, 24, 25, 3, 26, 27, 28, 29, 30, 31, 32, 33, 34, 87, 88, 89, 90, 91, 92, 93, 94, 95, 96, 97, 98, 99, 100, 101, 102, 103, 104, 105, 106, 107, 108] rfl (by decide +kernel)
set_option maxRecDepth 20000 in
theorem gX4_seek_X4_adopt : GoodIn wsX4_seek (wsV RX4 66 RX4 yX4_adopt wsX4_adopt) := goodIn_app (goodIn_of _ (by decide +kernel)) ggX4_seek_X4_adopt
theorem dX4_seek_0 : decode cX4_seek 0 = .ok (.iload_n 1, 1) := by decide +kernel
theorem dX4_seek_1 : decode cX4_seek 1 = .ok (.invokestatic 86, 3) := by decide +kernel
theorem dX4_seek_4 : decode cX4_seek 4 = .ok (.ifCond .ne 5, 3) := by decide +kernel
theorem dX4_seek_7 : decode cX4_seek 7 = .ok (.iconst (-1), 1) := by decide +kernel
theorem dX4_seek_8 : decode cX4_seek 8 = .ok (.ireturn, 1) := by decide +kernel
theorem dX4_seek_9 : decode cX4_seek 9 = .ok (.aload_n 0, 1) := by decide +kernel
theorem dX4_seek_10 : decode cX4_seek 10 = .ok (.aload_n 0, 1) := by decide +kernel
theorem dX4_seek_11 : decode cX4_seek 11 = .ok (.invokevirtual 58, 3) := by decide +kernel
theorem dX4_seek_14 : decode cX4_seek 14 = .ok (.iload_n 1, 1) := by decide +kernel
theorem dX4_seek_15 : decode cX4_seek 15 = .ok (.invokevirtual 89, 3) := by decide +kernel
theorem dX4_seek_18 : decode cX4_seek 18 = .ok (.invokevirtual 66, 3) := by decide +kernel
theorem dX4_seek_21 : decode cX4_seek 21 = .ok (.ireturn, 1) := by decide +kernel
set_option maxRecDepth 20000 in
theorem ggX4_idle_X4_freshTrial : GoodIn wsX4_idle wsX4_freshTrial := goodIn_r _ [5, 6, 7, 8, 9, 10, 11, 12, 13, 14, 15, 16, 17, 18, 19, 20, 21, 22, 4, 23, 24, 25, 26, 27, 28, 29, 30, 31, 79, 80, 81, 82, 83, 84, 85, 86, 87, 88, 89, 90, 91, 92, 93] rfl (by decide +kernel)
set_option maxRecDepth 20000 in
theorem gX4_idle_X4_freshTrial : GoodIn wsX4_idle (wsV RX4 58 RX4 yX4_freshTrial wsX4_freshTrial) := goodIn_app (goodIn_of _ (by decide +kernel)) ggX4_idle_X4_freshTrial
set_option maxRecDepth 20000 in
theorem ggX4_idle_X0_waitFor : GoodIn wsX4_idle wsX0_waitFor := goodIn_r _ [35, 21, 36, 37, 38, 11, 39, 40, 20, 41, 42, 43, 44, 45, 46, 47, 48, 85, 86, 87, 88, 89, 90, 91, 92, 93] rfl (by decide +kernel)
set_option maxRecDepth 20000 in
theorem gX4_idle_X0_waitFor : GoodIn wsX4_idle (wsV RX4 92 RX0 yX0_waitFor wsX0_waitFor) := goodIn_app (goodIn_of _ (by decide +kernel)) ggX4_idle_X0_waitFor
set_option maxRecDepth 20000 in
theorem ggX4_idle_X4_adopt : GoodIn wsX4_idle wsX4_adopt := goodIn_r _ [52, 53, 7, 6, 54, 55, 11, 56, 57, 58, 59, 60, 61, 62, 63, 64, 65, 66, 67, 68, 69, 70, 71, 72, 73, 74, 13, 14, 15, 16, 17, 18, 19, 20, 21, 22, 4, 23, 24, 25, 26, 27, 28, 29, 30, 31, 75, 76, 77, 78, 79, 80, 81, 82, 83, 84, 85, 86, 87, 88, 89, 90, 91, 92, 93, 94, 95, 96] rfl (by decide +kernel)
set_option maxRecDepth 20000 in
theorem gX4_idle_X4_adopt : GoodIn wsX4_idle (wsV RX4 66 RX4 yX4_adopt wsX4_adopt) := goodIn_app (goodIn_of _ (by decide +kernel)) ggX4_idle_X4_adopt
theorem dX4_idle_0 : decode cX4_idle 0 = .ok (.iload_n 1, 1) := by decide +kernel
theorem dX4_idle_1 : decode cX4_idle 1 = .ok (.iconst 1, 1) := by decide +kernel
theorem dX4_idle_2 : decode cX4_idle 2 = .ok (.if_icmp .lt 10, 3) := by decide +kernel
theorem dX4_idle_5 : decode cX4_idle 5 = .ok (.iload_n 1, 1) := by decide +kernel
theorem dX4_idle_6 : decode cX4_idle 6 = .ok (.sipush 9999, 3) := by decide +kernel
theorem dX4_idle_9 : decode cX4_idle 9 = .ok (.if_icmp .le 6, 3) := by decide +kernel
theorem dX4_idle_12 : decode cX4_idle 12 = .ok (.bipush (-2), 2) := by decide +kernel
theorem dX4_idle_14 : decode cX4_idle 14 = .ok (.ireturn, 1) := by decide +kernel
theorem dX4_idle_15 : decode cX4_idle 15 = .ok (.aload_n 0, 1) := by decide +kernel
theorem dX4_idle_16 : decode cX4_idle 16 = .ok (.aload_n 0, 1) := by decide +kernel
theorem dX4_idle_17 : decode cX4_idle 17 = .ok (.invokevirtual 58, 3) := by decide +kernel
theorem dX4_idle_20 : decode cX4_idle 20 = .ok (.iload_n 1, 1) := by decide +kernel
theorem dX4_idle_21 : decode cX4_idle 21 = .ok (.invokevirtual 92, 3) := by decide +kernel
theorem dX4_idle_24 : decode cX4_idle 24 = .ok (.invokevirtual 66, 3) := by decide +kernel
theorem dX4_idle_27 : decode cX4_idle 27 = .ok (.ireturn, 1) := by decide +kernel
set_option maxRecDepth 20000 in
theorem ggX4_run_X3_parse : GoodIn wsX4_run wsX3_parse := goodIn_r _ [7, 8, 9, 10, 11, 12, 13, 14, 15, 16, 17, 18, 19, 20, 21, 22, 6, 23, 24, 25, 26, 27, 28, 29, 30, 31, 32, 33, 34, 35, 36, 37, 38, 39, 40, 41, 42, 43, 44, 45, 46, 47, 48, 49, 50, 51, 52, 53, 54, 227, 228, 229, 230, 231, 232, 233] rfl (by decide +kernel)
set_option maxRecDepth 20000 in
theorem gX4_run_X3_parse : GoodIn wsX4_run (wsV RX4 95 RX3 yX3_parse wsX3_parse) := goodIn_app (goodIn_of _ (by decide +kernel)) ggX4_run_X3_parse
set_option maxRecDepth 20000 in
theorem ggX4_run_X4_freshTrial : GoodIn wsX4_run wsX4_freshTrial := goodIn_r _ [58, 59, 60, 61, 62, 63, 64, 65, 66, 67, 68, 69, 70, 71, 72, 73, 74, 75, 18, 76, 77, 78, 79, 80, 81, 82, 83, 84, 221, 222, 223, 224, 225, 226, 234, 235, 236, 237, 238, 239, 240, 241, 242] rfl (by decide +kernel)
set_option maxRecDepth 20000 in
theorem gX4_run_X4_freshTrial : GoodIn wsX4_run (wsV RX4 58 RX4 yX4_freshTrial wsX4_freshTrial) := goodIn_app (goodIn_of _ (by decide +kernel)) ggX4_run_X4_freshTrial
set_option maxRecDepth 20000 in
theorem ggX4_run_X3_doOn : GoodIn wsX4_run wsX3_doOn := goodIn_r _ [88, 8, 89, 90, 91, 92, 6, 93, 24, 17, 18, 19, 94, 95, 96, 64, 97, 70, 98, 99, 30, 31, 100, 101, 102, 103, 25, 47, 48, 49, 50, 104, 105, 106, 107, 108, 109, 110, 111, 71, 112, 113, 114, 115, 116, 69, 117, 118, 119, 120, 66, 121, 122, 123, 124, 125, 126, 127, 128, 73, 129, 130, 131, 132, 74, 133, 134, 79, 135, 136, 137, 138, 139, 140, 141, 142, 143, 144, 145, 146, 147, 148, 67, 68, 149, 150, 151, 152, 153, 154, 155, 78, 80, 156, 157, 158, 159, 160, 161, 162, 163, 164, 165, 166, 167, 168, 169, 170, 171, 172, 173, 174, 175, 176, 177, 72, 178, 179, 180, 181, 182, 183, 184, 185, 227, 228, 229, 230, 231, 234, 235, 236, 237, 238, 239, 240, 241, 242] rfl (by decide +kernel)
set_option maxRecDepth 20000 in
theorem gX4_run_X3_doOn : GoodIn wsX4_run (wsV RX4 99 RX3 yX3_doOn wsX3_doOn) := goodIn_app (goodIn_of _ (by decide +kernel)) ggX4_run_X3_doOn
set_option maxRecDepth 20000 in
theorem ggX4_run_X2_clear : GoodIn wsX4_run wsX2_clear := goodIn_r _ [189, 190, 232, 233] rfl (by decide +kernel)
set_option maxRecDepth 20000 in
theorem gX4_run_X2_clear : GoodIn wsX4_run (wsV RX4 103 RX2 yX2_clear wsX2_clear) := goodIn_app (goodIn_of _ (by decide +kernel)) ggX4_run_X2_clear
set_option maxRecDepth 20000 in
theorem ggX4_run_X4_adopt : GoodIn wsX4_run wsX4_adopt := goodIn_r _ [194, 195, 60, 59, 196, 197, 64, 198, 199, 200, 201, 202, 203, 204, 205, 206, 207, 208, 209, 210, 211, 212, 213, 214, 215, 216, 66, 67, 68, 69, 70, 71, 72, 73, 74, 75, 18, 76, 77, 78, 79, 80, 81, 82, 83, 84, 217, 218, 219, 220, 221, 222, 223, 224, 225, 226, 234, 235, 236, 237, 238, 239, 240, 241, 242, 243, 244, 245] rfl (by decide +kernel)
set_option maxRecDepth 20000 in
theorem gX4_run_X4_adopt : GoodIn wsX4_run (wsV RX4 66 RX4 yX4_adopt wsX4_adopt) := goodIn_app (goodIn_of _ (by decide +kernel)) ggX4_run_X4_adopt
theorem dX4_run_0 : decode cX4_run 0 = .ok (.aload_n 0, 1) := by decide +kernel
theorem dX4_run_1 : decode cX4_run 1 = .ok (.getfield 29, 3) := by decide +kernel
theorem dX4_run_4 : decode cX4_run 4 = .ok (.aload_n 0, 1) := by decide +kernel
theorem dX4_run_5 : decode cX4_run 5 = .ok (.getfield 22, 3) := by decide +kernel
theorem dX4_run_8 : decode cX4_run 8 = .ok (.invokevirtual 95, 3) := by decide +kernel
theorem dX4_run_11 : decode cX4_run 11 = .ok (.bipush (-6), 2) := by decide +kernel
theorem dX4_run_13 : decode cX4_run 13 = .ok (.if_icmp .eq 6, 3) := by decide +kernel
theorem dX4_run_16 : decode cX4_run 16 = .ok (.bipush (-3), 2) := by decide +kernel
theorem dX4_run_18 : decode cX4_run 18 = .ok (.ireturn, 1) := by decide +kernel
theorem dX4_run_19 : decode cX4_run 19 = .ok (.aload_n 0, 1) := by decide +kernel
theorem dX4_run_20 : decode cX4_run 20 = .ok (.getfield 29, 3) := by decide +kernel
theorem dX4_run_23 : decode cX4_run 23 = .ok (.aload_n 0, 1) := by decide +kernel
theorem dX4_run_24 : decode cX4_run 24 = .ok (.invokevirtual 58, 3) := by decide +kernel
theorem dX4_run_27 : decode cX4_run 27 = .ok (.iload_n 1, 1) := by decide +kernel
theorem dX4_run_28 : decode cX4_run 28 = .ok (.invokevirtual 99, 3) := by decide +kernel
theorem dX4_run_31 : decode cX4_run 31 = .ok (.istore_n 2, 1) := by decide +kernel
theorem dX4_run_32 : decode cX4_run 32 = .ok (.aload_n 0, 1) := by decide +kernel
theorem dX4_run_33 : decode cX4_run 33 = .ok (.getfield 22, 3) := by decide +kernel
theorem dX4_run_36 : decode cX4_run 36 = .ok (.invokevirtual 103, 3) := by decide +kernel
theorem dX4_run_39 : decode cX4_run 39 = .ok (.aload_n 0, 1) := by decide +kernel
theorem dX4_run_40 : decode cX4_run 40 = .ok (.iload_n 2, 1) := by decide +kernel
theorem dX4_run_41 : decode cX4_run 41 = .ok (.invokevirtual 66, 3) := by decide +kernel
theorem dX4_run_44 : decode cX4_run 44 = .ok (.ireturn, 1) := by decide +kernel
set_option maxRecDepth 20000 in
theorem ggX4_sector_X4_isAddress : GoodIn wsX4_sector wsX4_isAddress := goodIn_r _ [5] rfl (by decide +kernel)
set_option maxRecDepth 20000 in
theorem gX4_sector_X4_isAddress : GoodIn wsX4_sector (va_wsS RX4 70 yX4_isAddress wsX4_isAddress) := goodIn_app (goodIn_of _ (by decide +kernel)) ggX4_sector_X4_isAddress
set_option maxRecDepth 20000 in
theorem ggX4_sector_X0_sectorFor : GoodIn wsX4_sector wsX0_sectorFor := goodIn_r _ [10, 11, 12, 4, 13, 55, 56, 57, 58, 59, 60, 61, 62, 63] rfl (by decide +kernel)
set_option maxRecDepth 20000 in
theorem gX4_sector_X0_sectorFor : GoodIn wsX4_sector (wsV RX4 80 RX0 yX0_sectorFor wsX0_sectorFor) := goodIn_app (goodIn_of _ (by decide +kernel)) ggX4_sector_X0_sectorFor
set_option maxRecDepth 20000 in
theorem ggX4_sector_X4_trackOf : GoodIn wsX4_sector wsX4_trackOf := goodIn_r _ [16] rfl (by decide +kernel)
set_option maxRecDepth 20000 in
theorem gX4_sector_X4_trackOf : GoodIn wsX4_sector (va_wsS RX4 106 yX4_trackOf wsX4_trackOf) := goodIn_app (goodIn_of _ (by decide +kernel)) ggX4_sector_X4_trackOf
set_option maxRecDepth 20000 in
theorem ggX4_sector_X0_numberIn : GoodIn wsX4_sector wsX0_numberIn := goodIn_r _ [20, 21, 12, 4, 13, 55, 56, 57, 58, 59, 60, 61, 62, 63] rfl (by decide +kernel)
set_option maxRecDepth 20000 in
theorem gX4_sector_X0_numberIn : GoodIn wsX4_sector (wsV RX4 109 RX0 yX0_numberIn wsX0_numberIn) := goodIn_app (goodIn_of _ (by decide +kernel)) ggX4_sector_X0_numberIn
set_option maxRecDepth 20000 in
theorem ggX4_sector_X0_blurOf : GoodIn wsX4_sector wsX0_blurOf := goodIn_r _ [25, 26, 12, 4, 13, 55, 56, 57, 58, 59, 60, 61, 62, 63] rfl (by decide +kernel)
set_option maxRecDepth 20000 in
theorem gX4_sector_X0_blurOf : GoodIn wsX4_sector (wsV RX4 83 RX0 yX0_blurOf wsX0_blurOf) := goodIn_app (goodIn_of _ (by decide +kernel)) ggX4_sector_X0_blurOf
set_option maxRecDepth 20000 in
theorem ggX4_sector_X0_writingsOf : GoodIn wsX4_sector wsX0_writingsOf := goodIn_r _ [30, 31, 12, 4, 13, 55, 56, 57, 58, 59, 60, 61, 62, 63] rfl (by decide +kernel)
set_option maxRecDepth 20000 in
theorem gX4_sector_X0_writingsOf : GoodIn wsX4_sector (wsV RX4 112 RX0 yX0_writingsOf wsX0_writingsOf) := goodIn_app (goodIn_of _ (by decide +kernel)) ggX4_sector_X0_writingsOf
set_option maxRecDepth 20000 in
theorem ggX4_sector_X4_isSpare : GoodIn wsX4_sector wsX4_isSpare := goodIn_r _ [34] rfl (by decide +kernel)
set_option maxRecDepth 20000 in
theorem gX4_sector_X4_isSpare : GoodIn wsX4_sector (va_wsS RX4 115 yX4_isSpare wsX4_isSpare) := goodIn_app (goodIn_of _ (by decide +kernel)) ggX4_sector_X4_isSpare
set_option maxRecDepth 20000 in
theorem ggX4_sector_X0_isReadable : GoodIn wsX4_sector wsX0_isReadable := goodIn_r _ [38, 39, 40, 41, 9, 42, 21, 12, 4, 13, 43, 23, 24, 25, 26, 44, 45, 46, 47, 48, 55, 56, 57, 58, 59, 60, 61, 62, 63] rfl (by decide +kernel)
set_option maxRecDepth 20000 in
theorem gX4_sector_X0_isReadable : GoodIn wsX4_sector (wsV RX4 118 RX0 yX0_isReadable wsX0_isReadable) := goodIn_app (goodIn_of _ (by decide +kernel)) ggX4_sector_X0_isReadable
theorem dX4_sector_0 : decode cX4_sector 0 = .ok (.iload_n 1, 1) := by decide +kernel
theorem dX4_sector_1 : decode cX4_sector 1 = .ok (.invokestatic 70, 3) := by decide +kernel
theorem dX4_sector_4 : decode cX4_sector 4 = .ok (.ifCond .ne 5, 3) := by decide +kernel
theorem dX4_sector_7 : decode cX4_sector 7 = .ok (.iconst (-1), 1) := by decide +kernel
theorem dX4_sector_8 : decode cX4_sector 8 = .ok (.ireturn, 1) := by decide +kernel
theorem dX4_sector_9 : decode cX4_sector 9 = .ok (.aload_n 0, 1) := by decide +kernel
theorem dX4_sector_10 : decode cX4_sector 10 = .ok (.getfield 12, 3) := by decide +kernel
theorem dX4_sector_13 : decode cX4_sector 13 = .ok (.iload_n 1, 1) := by decide +kernel
theorem dX4_sector_14 : decode cX4_sector 14 = .ok (.invokevirtual 80, 3) := by decide +kernel
theorem dX4_sector_17 : decode cX4_sector 17 = .ok (.istore_n 3, 1) := by decide +kernel
theorem dX4_sector_18 : decode cX4_sector 18 = .ok (.iload_n 2, 1) := by decide +kernel
theorem dX4_sector_19 : decode cX4_sector 19 = .ok (.tableswitch 108 0 6 #[41, 46, 51, 60, 69, 78, 91], 41) := by decide +kernel
theorem dX4_sector_60 : decode cX4_sector 60 = .ok (.iload_n 3, 1) := by decide +kernel
theorem dX4_sector_61 : decode cX4_sector 61 = .ok (.invokestatic 106, 3) := by decide +kernel
theorem dX4_sector_64 : decode cX4_sector 64 = .ok (.ireturn, 1) := by decide +kernel
theorem dX4_sector_65 : decode cX4_sector 65 = .ok (.iload_n 3, 1) := by decide +kernel
theorem dX4_sector_66 : decode cX4_sector 66 = .ok (.bipush 12, 2) := by decide +kernel
theorem dX4_sector_68 : decode cX4_sector 68 = .ok (.irem, 1) := by decide +kernel
theorem dX4_sector_69 : decode cX4_sector 69 = .ok (.ireturn, 1) := by decide +kernel
theorem dX4_sector_70 : decode cX4_sector 70 = .ok (.aload_n 0, 1) := by decide +kernel
theorem dX4_sector_71 : decode cX4_sector 71 = .ok (.getfield 12, 3) := by decide +kernel
theorem dX4_sector_74 : decode cX4_sector 74 = .ok (.iload_n 3, 1) := by decide +kernel
theorem dX4_sector_75 : decode cX4_sector 75 = .ok (.invokevirtual 109, 3) := by decide +kernel
theorem dX4_sector_78 : decode cX4_sector 78 = .ok (.ireturn, 1) := by decide +kernel
theorem dX4_sector_79 : decode cX4_sector 79 = .ok (.aload_n 0, 1) := by decide +kernel
theorem dX4_sector_80 : decode cX4_sector 80 = .ok (.getfield 12, 3) := by decide +kernel
theorem dX4_sector_83 : decode cX4_sector 83 = .ok (.iload_n 3, 1) := by decide +kernel
theorem dX4_sector_84 : decode cX4_sector 84 = .ok (.invokevirtual 83, 3) := by decide +kernel
theorem dX4_sector_87 : decode cX4_sector 87 = .ok (.ireturn, 1) := by decide +kernel
theorem dX4_sector_88 : decode cX4_sector 88 = .ok (.aload_n 0, 1) := by decide +kernel
theorem dX4_sector_89 : decode cX4_sector 89 = .ok (.getfield 12, 3) := by decide +kernel
theorem dX4_sector_92 : decode cX4_sector 92 = .ok (.iload_n 3, 1) := by decide +kernel
theorem dX4_sector_93 : decode cX4_sector 93 = .ok (.invokevirtual 112, 3) := by decide +kernel
theorem dX4_sector_96 : decode cX4_sector 96 = .ok (.ireturn, 1) := by decide +kernel
theorem dX4_sector_97 : decode cX4_sector 97 = .ok (.iload_n 3, 1) := by decide +kernel
theorem dX4_sector_98 : decode cX4_sector 98 = .ok (.invokestatic 115, 3) := by decide +kernel
theorem dX4_sector_101 : decode cX4_sector 101 = .ok (.ifCond .eq 7, 3) := by decide +kernel
theorem dX4_sector_104 : decode cX4_sector 104 = .ok (.iconst 1, 1) := by decide +kernel
theorem dX4_sector_105 : decode cX4_sector 105 = .ok (.goto 4, 3) := by decide +kernel
theorem dX4_sector_108 : decode cX4_sector 108 = .ok (.iconst 0, 1) := by decide +kernel
theorem dX4_sector_109 : decode cX4_sector 109 = .ok (.ireturn, 1) := by decide +kernel
theorem dX4_sector_110 : decode cX4_sector 110 = .ok (.aload_n 0, 1) := by decide +kernel
theorem dX4_sector_111 : decode cX4_sector 111 = .ok (.getfield 12, 3) := by decide +kernel
theorem dX4_sector_114 : decode cX4_sector 114 = .ok (.iload_n 3, 1) := by decide +kernel
theorem dX4_sector_115 : decode cX4_sector 115 = .ok (.invokevirtual 118, 3) := by decide +kernel
theorem dX4_sector_118 : decode cX4_sector 118 = .ok (.ifCond .eq 7, 3) := by decide +kernel
theorem dX4_sector_121 : decode cX4_sector 121 = .ok (.iconst 1, 1) := by decide +kernel
theorem dX4_sector_122 : decode cX4_sector 122 = .ok (.goto 4, 3) := by decide +kernel
theorem dX4_sector_125 : decode cX4_sector 125 = .ok (.iconst 0, 1) := by decide +kernel
theorem dX4_sector_126 : decode cX4_sector 126 = .ok (.ireturn, 1) := by decide +kernel
theorem dX4_sector_127 : decode cX4_sector 127 = .ok (.bipush (-2), 2) := by decide +kernel
theorem dX4_sector_129 : decode cX4_sector 129 = .ok (.ireturn, 1) := by decide +kernel
set_option maxRecDepth 20000 in
theorem ggX4_track_X4_isTrack : GoodIn wsX4_track wsX4_isTrack := goodIn_r _ [5] rfl (by decide +kernel)
set_option maxRecDepth 20000 in
theorem gX4_track_X4_isTrack : GoodIn wsX4_track (va_wsS RX4 86 yX4_isTrack wsX4_isTrack) := goodIn_app (goodIn_of _ (by decide +kernel)) ggX4_track_X4_isTrack
set_option maxRecDepth 20000 in
theorem ggX4_track_X0_filledOn : GoodIn wsX4_track wsX0_filledOn := goodIn_r _ [10, 11, 12, 13, 9, 14, 15, 16, 4, 17, 18, 19, 20, 21, 22, 23, 24, 25, 26, 27, 64, 65, 66, 67, 68, 69, 70, 71, 72] rfl (by decide +kernel)
set_option maxRecDepth 20000 in
theorem gX4_track_X0_filledOn : GoodIn wsX4_track (wsV RX4 121 RX0 yX0_filledOn wsX0_filledOn) := goodIn_app (goodIn_of _ (by decide +kernel)) ggX4_track_X0_filledOn
set_option maxRecDepth 20000 in
theorem ggX4_track_X0_unreadableOn : GoodIn wsX4_track wsX0_unreadableOn := goodIn_r _ [31, 11, 12, 13, 9, 14, 15, 16, 4, 17, 18, 19, 20, 21, 22, 23, 24, 25, 26, 27, 32, 33, 34, 35, 36, 37, 38, 39, 40, 41, 42, 43, 44, 45, 64, 65, 66, 67, 68, 69, 70, 71, 72] rfl (by decide +kernel)
set_option maxRecDepth 20000 in
theorem gX4_track_X0_unreadableOn : GoodIn wsX4_track (wsV RX4 124 RX0 yX0_unreadableOn wsX0_unreadableOn) := goodIn_app (goodIn_of _ (by decide +kernel)) ggX4_track_X0_unreadableOn
set_option maxRecDepth 20000 in
theorem ggX4_track_X0_blurOnTrack : GoodIn wsX4_track wsX0_blurOnTrack := goodIn_r _ [49, 40, 50, 51, 9, 52, 16, 4, 17, 64, 65, 66, 67, 68, 69, 70, 71, 72] rfl (by decide +kernel)
set_option maxRecDepth 20000 in
theorem gX4_track_X0_blurOnTrack : GoodIn wsX4_track (wsV RX4 127 RX0 yX0_blurOnTrack wsX0_blurOnTrack) := goodIn_app (goodIn_of _ (by decide +kernel)) ggX4_track_X0_blurOnTrack
set_option maxRecDepth 20000 in
theorem ggX4_track_X0_writingsOnTrack : GoodIn wsX4_track wsX0_writingsOnTrack := goodIn_r _ [56, 57, 50, 51, 9, 52, 16, 4, 17, 64, 65, 66, 67, 68, 69, 70, 71, 72] rfl (by decide +kernel)
set_option maxRecDepth 20000 in
theorem gX4_track_X0_writingsOnTrack : GoodIn wsX4_track (wsV RX4 130 RX0 yX0_writingsOnTrack wsX0_writingsOnTrack) := goodIn_app (goodIn_of _ (by decide +kernel)) ggX4_track_X0_writingsOnTrack
theorem dX4_track_0 : decode cX4_track 0 = .ok (.iload_n 1, 1) := by decide +kernel
theorem dX4_track_1 : decode cX4_track 1 = .ok (.invokestatic 86, 3) := by decide +kernel
theorem dX4_track_4 : decode cX4_track 4 = .ok (.ifCond .ne 5, 3) := by decide +kernel
theorem dX4_track_7 : decode cX4_track 7 = .ok (.iconst (-1), 1) := by decide +kernel
theorem dX4_track_8 : decode cX4_track 8 = .ok (.ireturn, 1) := by decide +kernel
theorem dX4_track_9 : decode cX4_track 9 = .ok (.iload_n 2, 1) := by decide +kernel
theorem dX4_track_10 : decode cX4_track 10 = .ok (.tableswitch 68 0 3 #[30, 40, 50, 59], 30) := by decide +kernel
theorem dX4_track_40 : decode cX4_track 40 = .ok (.aload_n 0, 1) := by decide +kernel
theorem dX4_track_41 : decode cX4_track 41 = .ok (.getfield 12, 3) := by decide +kernel
theorem dX4_track_44 : decode cX4_track 44 = .ok (.iload_n 1, 1) := by decide +kernel
theorem dX4_track_45 : decode cX4_track 45 = .ok (.iload_n 1, 1) := by decide +kernel
theorem dX4_track_46 : decode cX4_track 46 = .ok (.invokevirtual 121, 3) := by decide +kernel
theorem dX4_track_49 : decode cX4_track 49 = .ok (.ireturn, 1) := by decide +kernel
theorem dX4_track_50 : decode cX4_track 50 = .ok (.aload_n 0, 1) := by decide +kernel
theorem dX4_track_51 : decode cX4_track 51 = .ok (.getfield 12, 3) := by decide +kernel
theorem dX4_track_54 : decode cX4_track 54 = .ok (.iload_n 1, 1) := by decide +kernel
theorem dX4_track_55 : decode cX4_track 55 = .ok (.iload_n 1, 1) := by decide +kernel
theorem dX4_track_56 : decode cX4_track 56 = .ok (.invokevirtual 124, 3) := by decide +kernel
theorem dX4_track_59 : decode cX4_track 59 = .ok (.ireturn, 1) := by decide +kernel
theorem dX4_track_60 : decode cX4_track 60 = .ok (.aload_n 0, 1) := by decide +kernel
theorem dX4_track_61 : decode cX4_track 61 = .ok (.getfield 12, 3) := by decide +kernel
theorem dX4_track_64 : decode cX4_track 64 = .ok (.iload_n 1, 1) := by decide +kernel
theorem dX4_track_65 : decode cX4_track 65 = .ok (.invokevirtual 127, 3) := by decide +kernel
theorem dX4_track_68 : decode cX4_track 68 = .ok (.ireturn, 1) := by decide +kernel
theorem dX4_track_69 : decode cX4_track 69 = .ok (.aload_n 0, 1) := by decide +kernel
theorem dX4_track_70 : decode cX4_track 70 = .ok (.getfield 12, 3) := by decide +kernel
theorem dX4_track_73 : decode cX4_track 73 = .ok (.iload_n 1, 1) := by decide +kernel
theorem dX4_track_74 : decode cX4_track 74 = .ok (.invokevirtual 130, 3) := by decide +kernel
theorem dX4_track_77 : decode cX4_track 77 = .ok (.ireturn, 1) := by decide +kernel
theorem dX4_track_78 : decode cX4_track 78 = .ok (.bipush (-2), 2) := by decide +kernel
theorem dX4_track_80 : decode cX4_track 80 = .ok (.ireturn, 1) := by decide +kernel
set_option maxRecDepth 20000 in
theorem ggX4_count_X0_settingOf : GoodIn wsX4_count wsX0_settingOf := goodIn_r _ [14, 15, 16, 17, 18, 89, 90, 91, 92, 93, 94, 95, 96, 97] rfl (by decide +kernel)
set_option maxRecDepth 20000 in
theorem gX4_count_X0_settingOf : GoodIn wsX4_count (wsV RX4 133 RX0 yX0_settingOf wsX0_settingOf) := goodIn_app (goodIn_of _ (by decide +kernel)) ggX4_count_X0_settingOf
set_option maxRecDepth 20000 in
theorem ggX4_count_X0_sectorUnderHead : GoodIn wsX4_count wsX0_sectorUnderHead := goodIn_r _ [22, 23, 89, 90, 91, 92, 93, 94, 95, 96, 97] rfl (by decide +kernel)
set_option maxRecDepth 20000 in
theorem gX4_count_X0_sectorUnderHead : GoodIn wsX4_count (wsV RX4 143 RX0 yX0_sectorUnderHead wsX0_sectorUnderHead) := goodIn_app (goodIn_of _ (by decide +kernel)) ggX4_count_X0_sectorUnderHead
set_option maxRecDepth 20000 in
theorem ggX4_count_X0_sparesLeft : GoodIn wsX4_count wsX0_sparesLeft := goodIn_r _ [27, 28, 89, 90, 91, 92, 93, 94, 95, 96, 97] rfl (by decide +kernel)
set_option maxRecDepth 20000 in
theorem gX4_count_X0_sparesLeft : GoodIn wsX4_count (wsV RX4 147 RX0 yX0_sparesLeft wsX0_sparesLeft) := goodIn_app (goodIn_of _ (by decide +kernel)) ggX4_count_X0_sparesLeft
set_option maxRecDepth 20000 in
theorem ggX4_count_X0_filledOn : GoodIn wsX4_count wsX0_filledOn := goodIn_r _ [32, 33, 34, 35, 13, 36, 37, 16, 17, 18, 38, 39, 40, 41, 42, 43, 44, 45, 46, 47, 89, 90, 91, 92, 93, 94, 95, 96, 97] rfl (by decide +kernel)
set_option maxRecDepth 20000 in
theorem gX4_count_X0_filledOn : GoodIn wsX4_count (wsV RX4 121 RX0 yX0_filledOn wsX0_filledOn) := goodIn_app (goodIn_of _ (by decide +kernel)) ggX4_count_X0_filledOn
set_option maxRecDepth 20000 in
theorem ggX4_count_X0_unreadableOn : GoodIn wsX4_count wsX0_unreadableOn := goodIn_r _ [51, 33, 34, 35, 13, 36, 37, 16, 17, 18, 38, 39, 40, 41, 42, 43, 44, 45, 46, 47, 52, 53, 54, 55, 56, 57, 58, 59, 60, 61, 11, 12, 14, 15, 89, 90, 91, 92, 93, 94, 95, 96, 97] rfl (by decide +kernel)
set_option maxRecDepth 20000 in
theorem gX4_count_X0_unreadableOn : GoodIn wsX4_count (wsV RX4 124 RX0 yX0_unreadableOn wsX0_unreadableOn) := goodIn_app (goodIn_of _ (by decide +kernel)) ggX4_count_X0_unreadableOn
set_option maxRecDepth 20000 in
theorem ggX4_count_X0_writingsOnTracks : GoodIn wsX4_count wsX0_writingsOnTracks := goodIn_r _ [65, 66, 67, 68, 13, 69, 70, 71, 72, 73, 16, 17, 18, 89, 90, 91, 92, 93, 94, 95, 96, 97] rfl (by decide +kernel)
set_option maxRecDepth 20000 in
theorem gX4_count_X0_writingsOnTracks : GoodIn wsX4_count (wsV RX4 150 RX0 yX0_writingsOnTracks wsX0_writingsOnTracks) := goodIn_app (goodIn_of _ (by decide +kernel)) ggX4_count_X0_writingsOnTracks
set_option maxRecDepth 20000 in
theorem ggX4_count_X0_writingsOnTrack : GoodIn wsX4_count wsX0_writingsOnTrack := goodIn_r _ [69, 70, 71, 72, 13, 73, 16, 17, 18, 89, 90, 91, 92, 93, 94, 95, 96, 97] rfl (by decide +kernel)
set_option maxRecDepth 20000 in
theorem gX4_count_X0_writingsOnTrack : GoodIn wsX4_count (wsV RX4 130 RX0 yX0_writingsOnTrack wsX0_writingsOnTrack) := goodIn_app (goodIn_of _ (by decide +kernel)) ggX4_count_X0_writingsOnTrack
set_option maxRecDepth 20000 in
theorem ggX4_count_X0_greatestBlur : GoodIn wsX4_count wsX0_greatestBlur := goodIn_r _ [78, 79, 80, 81, 82, 33, 34, 35, 13, 36, 37, 16, 17, 18, 56, 57, 58, 59, 60, 89, 90, 91, 92, 93, 94, 95, 96, 97] rfl (by decide +kernel)
set_option maxRecDepth 20000 in
theorem gX4_count_X0_greatestBlur : GoodIn wsX4_count (wsV RX4 156 RX0 yX0_greatestBlur wsX0_greatestBlur) := goodIn_app (goodIn_of _ (by decide +kernel)) ggX4_count_X0_greatestBlur
theorem dX4_count_0 : decode cX4_count 0 = .ok (.iload_n 1, 1) := by decide +kernel
theorem dX4_count_1 : decode cX4_count 1 = .ok (.ifCond .lt 20, 3) := by decide +kernel
theorem dX4_count_4 : decode cX4_count 4 = .ok (.iload_n 1, 1) := by decide +kernel
theorem dX4_count_5 : decode cX4_count 5 = .ok (.getstatic 44, 3) := by decide +kernel
theorem dX4_count_8 : decode cX4_count 8 = .ok (.arraylength, 1) := by decide +kernel
theorem dX4_count_9 : decode cX4_count 9 = .ok (.if_icmp .ge 12, 3) := by decide +kernel
theorem dX4_count_12 : decode cX4_count 12 = .ok (.aload_n 0, 1) := by decide +kernel
theorem dX4_count_13 : decode cX4_count 13 = .ok (.getfield 12, 3) := by decide +kernel
theorem dX4_count_16 : decode cX4_count 16 = .ok (.iload_n 1, 1) := by decide +kernel
theorem dX4_count_17 : decode cX4_count 17 = .ok (.invokevirtual 133, 3) := by decide +kernel
theorem dX4_count_20 : decode cX4_count 20 = .ok (.ireturn, 1) := by decide +kernel
theorem dX4_count_21 : decode cX4_count 21 = .ok (.iload_n 1, 1) := by decide +kernel
theorem dX4_count_22 : decode cX4_count 22 = .ok (.tableswitch 192 5 17 #[66, 74, 82, 90, 98, 109, 120, 140, 148, 158, 168, 176, 184], 66) := by decide +kernel
theorem dX4_count_88 : decode cX4_count 88 = .ok (.aload_n 0, 1) := by decide +kernel
theorem dX4_count_89 : decode cX4_count 89 = .ok (.getfield 12, 3) := by decide +kernel
theorem dX4_count_92 : decode cX4_count 92 = .ok (.getfield 136, 3) := by decide +kernel
theorem dX4_count_95 : decode cX4_count 95 = .ok (.ireturn, 1) := by decide +kernel
theorem dX4_count_96 : decode cX4_count 96 = .ok (.aload_n 0, 1) := by decide +kernel
theorem dX4_count_97 : decode cX4_count 97 = .ok (.getfield 12, 3) := by decide +kernel
theorem dX4_count_100 : decode cX4_count 100 = .ok (.getfield 140, 3) := by decide +kernel
theorem dX4_count_103 : decode cX4_count 103 = .ok (.ireturn, 1) := by decide +kernel
theorem dX4_count_104 : decode cX4_count 104 = .ok (.aload_n 0, 1) := by decide +kernel
theorem dX4_count_105 : decode cX4_count 105 = .ok (.getfield 12, 3) := by decide +kernel
theorem dX4_count_108 : decode cX4_count 108 = .ok (.invokevirtual 143, 3) := by decide +kernel
theorem dX4_count_111 : decode cX4_count 111 = .ok (.ireturn, 1) := by decide +kernel
theorem dX4_count_112 : decode cX4_count 112 = .ok (.aload_n 0, 1) := by decide +kernel
theorem dX4_count_113 : decode cX4_count 113 = .ok (.getfield 12, 3) := by decide +kernel
theorem dX4_count_116 : decode cX4_count 116 = .ok (.invokevirtual 147, 3) := by decide +kernel
theorem dX4_count_119 : decode cX4_count 119 = .ok (.ireturn, 1) := by decide +kernel
theorem dX4_count_120 : decode cX4_count 120 = .ok (.aload_n 0, 1) := by decide +kernel
theorem dX4_count_121 : decode cX4_count 121 = .ok (.getfield 12, 3) := by decide +kernel
theorem dX4_count_124 : decode cX4_count 124 = .ok (.iconst 0, 1) := by decide +kernel
theorem dX4_count_125 : decode cX4_count 125 = .ok (.bipush 16, 2) := by decide +kernel
theorem dX4_count_127 : decode cX4_count 127 = .ok (.invokevirtual 121, 3) := by decide +kernel
theorem dX4_count_130 : decode cX4_count 130 = .ok (.ireturn, 1) := by decide +kernel
theorem dX4_count_131 : decode cX4_count 131 = .ok (.aload_n 0, 1) := by decide +kernel
theorem dX4_count_132 : decode cX4_count 132 = .ok (.getfield 12, 3) := by decide +kernel
theorem dX4_count_135 : decode cX4_count 135 = .ok (.iconst 0, 1) := by decide +kernel
theorem dX4_count_136 : decode cX4_count 136 = .ok (.bipush 16, 2) := by decide +kernel
theorem dX4_count_138 : decode cX4_count 138 = .ok (.invokevirtual 124, 3) := by decide +kernel
theorem dX4_count_141 : decode cX4_count 141 = .ok (.ireturn, 1) := by decide +kernel
theorem dX4_count_142 : decode cX4_count 142 = .ok (.aload_n 0, 1) := by decide +kernel
theorem dX4_count_143 : decode cX4_count 143 = .ok (.getfield 12, 3) := by decide +kernel
theorem dX4_count_146 : decode cX4_count 146 = .ok (.iconst 0, 1) := by decide +kernel
theorem dX4_count_147 : decode cX4_count 147 = .ok (.iconst 1, 1) := by decide +kernel
theorem dX4_count_148 : decode cX4_count 148 = .ok (.invokevirtual 150, 3) := by decide +kernel
theorem dX4_count_151 : decode cX4_count 151 = .ok (.aload_n 0, 1) := by decide +kernel
theorem dX4_count_152 : decode cX4_count 152 = .ok (.getfield 12, 3) := by decide +kernel
theorem dX4_count_155 : decode cX4_count 155 = .ok (.bipush 16, 2) := by decide +kernel
theorem dX4_count_157 : decode cX4_count 157 = .ok (.invokevirtual 130, 3) := by decide +kernel
theorem dX4_count_160 : decode cX4_count 160 = .ok (.iadd, 1) := by decide +kernel
theorem dX4_count_161 : decode cX4_count 161 = .ok (.ireturn, 1) := by decide +kernel
theorem dX4_count_162 : decode cX4_count 162 = .ok (.aload_n 0, 1) := by decide +kernel
theorem dX4_count_163 : decode cX4_count 163 = .ok (.getfield 12, 3) := by decide +kernel
theorem dX4_count_166 : decode cX4_count 166 = .ok (.getfield 153, 3) := by decide +kernel
theorem dX4_count_169 : decode cX4_count 169 = .ok (.ireturn, 1) := by decide +kernel
theorem dX4_count_170 : decode cX4_count 170 = .ok (.aload_n 0, 1) := by decide +kernel
theorem dX4_count_171 : decode cX4_count 171 = .ok (.getfield 12, 3) := by decide +kernel
theorem dX4_count_174 : decode cX4_count 174 = .ok (.iconst 0, 1) := by decide +kernel
theorem dX4_count_175 : decode cX4_count 175 = .ok (.iconst 2, 1) := by decide +kernel
theorem dX4_count_176 : decode cX4_count 176 = .ok (.invokevirtual 150, 3) := by decide +kernel
theorem dX4_count_179 : decode cX4_count 179 = .ok (.ireturn, 1) := by decide +kernel
theorem dX4_count_180 : decode cX4_count 180 = .ok (.aload_n 0, 1) := by decide +kernel
theorem dX4_count_181 : decode cX4_count 181 = .ok (.getfield 12, 3) := by decide +kernel
theorem dX4_count_184 : decode cX4_count 184 = .ok (.iconst 1, 1) := by decide +kernel
theorem dX4_count_185 : decode cX4_count 185 = .ok (.iconst 2, 1) := by decide +kernel
theorem dX4_count_186 : decode cX4_count 186 = .ok (.invokevirtual 150, 3) := by decide +kernel
theorem dX4_count_189 : decode cX4_count 189 = .ok (.ireturn, 1) := by decide +kernel
theorem dX4_count_190 : decode cX4_count 190 = .ok (.aload_n 0, 1) := by decide +kernel
theorem dX4_count_191 : decode cX4_count 191 = .ok (.getfield 12, 3) := by decide +kernel
theorem dX4_count_194 : decode cX4_count 194 = .ok (.invokevirtual 156, 3) := by decide +kernel
theorem dX4_count_197 : decode cX4_count 197 = .ok (.ireturn, 1) := by decide +kernel
theorem dX4_count_198 : decode cX4_count 198 = .ok (.aload_n 0, 1) := by decide +kernel
theorem dX4_count_199 : decode cX4_count 199 = .ok (.getfield 22, 3) := by decide +kernel
theorem dX4_count_202 : decode cX4_count 202 = .ok (.getfield 159, 3) := by decide +kernel
theorem dX4_count_205 : decode cX4_count 205 = .ok (.ireturn, 1) := by decide +kernel
theorem dX4_count_206 : decode cX4_count 206 = .ok (.aload_n 0, 1) := by decide +kernel
theorem dX4_count_207 : decode cX4_count 207 = .ok (.getfield 36, 3) := by decide +kernel
theorem dX4_count_210 : decode cX4_count 210 = .ok (.getfield 162, 3) := by decide +kernel
theorem dX4_count_213 : decode cX4_count 213 = .ok (.ireturn, 1) := by decide +kernel
theorem dX4_count_214 : decode cX4_count 214 = .ok (.bipush (-2), 2) := by decide +kernel
theorem dX4_count_216 : decode cX4_count 216 = .ok (.ireturn, 1) := by decide +kernel
set_option maxRecDepth 20000 in
theorem ggX4_ticksFor_X4_isAddress : GoodIn wsX4_ticksFor wsX4_isAddress := goodIn_r _ [5] rfl (by decide +kernel)
set_option maxRecDepth 20000 in
theorem gX4_ticksFor_X4_isAddress : GoodIn wsX4_ticksFor (va_wsS RX4 70 yX4_isAddress wsX4_isAddress) := goodIn_app (goodIn_of _ (by decide +kernel)) ggX4_ticksFor_X4_isAddress
set_option maxRecDepth 20000 in
theorem ggX4_ticksFor_X0_sectorToWrite : GoodIn wsX4_ticksFor wsX0_sectorToWrite := goodIn_r _ [10, 11, 12, 13, 14, 9, 15, 16, 17, 4, 18, 19, 20, 21, 22, 23, 24, 25, 26, 27, 28, 29, 30, 31, 32, 60, 61, 62, 63, 64, 65, 66, 67, 68] rfl (by decide +kernel)
set_option maxRecDepth 20000 in
theorem gX4_ticksFor_X0_sectorToWrite : GoodIn wsX4_ticksFor (wsV RX4 165 RX0 yX0_sectorToWrite wsX0_sectorToWrite) := goodIn_app (goodIn_of _ (by decide +kernel)) ggX4_ticksFor_X0_sectorToWrite
set_option maxRecDepth 20000 in
theorem ggX4_ticksFor_X0_sectorFor : GoodIn wsX4_ticksFor wsX0_sectorFor := goodIn_r _ [15, 16, 17, 4, 18, 60, 61, 62, 63, 64, 65, 66, 67, 68] rfl (by decide +kernel)
set_option maxRecDepth 20000 in
theorem gX4_ticksFor_X0_sectorFor : GoodIn wsX4_ticksFor (wsV RX4 80 RX0 yX0_sectorFor wsX0_sectorFor) := goodIn_app (goodIn_of _ (by decide +kernel)) ggX4_ticksFor_X0_sectorFor
set_option maxRecDepth 20000 in
theorem ggX4_ticksFor_X0_ticksTo : GoodIn wsX4_ticksFor wsX0_ticksTo := goodIn_r _ [37, 38, 39, 4, 40, 41, 42, 43, 9, 44, 45, 46, 47, 48, 49, 24, 25, 26, 27, 28, 17, 18, 50, 51, 52, 53, 60, 61, 62, 63, 64, 65, 66, 67, 68] rfl (by decide +kernel)
set_option maxRecDepth 20000 in
theorem gX4_ticksFor_X0_ticksTo : GoodIn wsX4_ticksFor (wsV RX4 168 RX0 yX0_ticksTo wsX0_ticksTo) := goodIn_app (goodIn_of _ (by decide +kernel)) ggX4_ticksFor_X0_ticksTo
theorem dX4_ticksFor_0 : decode cX4_ticksFor 0 = .ok (.iload_n 1, 1) := by decide +kernel
theorem dX4_ticksFor_1 : decode cX4_ticksFor 1 = .ok (.invokestatic 70, 3) := by decide +kernel
theorem dX4_ticksFor_4 : decode cX4_ticksFor 4 = .ok (.ifCond .ne 5, 3) := by decide +kernel
theorem dX4_ticksFor_7 : decode cX4_ticksFor 7 = .ok (.iconst (-1), 1) := by decide +kernel
theorem dX4_ticksFor_8 : decode cX4_ticksFor 8 = .ok (.ireturn, 1) := by decide +kernel
theorem dX4_ticksFor_9 : decode cX4_ticksFor 9 = .ok (.aload_n 0, 1) := by decide +kernel
theorem dX4_ticksFor_10 : decode cX4_ticksFor 10 = .ok (.getfield 12, 3) := by decide +kernel
theorem dX4_ticksFor_13 : decode cX4_ticksFor 13 = .ok (.iload_n 2, 1) := by decide +kernel
theorem dX4_ticksFor_14 : decode cX4_ticksFor 14 = .ok (.ifCond .eq 14, 3) := by decide +kernel
theorem dX4_ticksFor_17 : decode cX4_ticksFor 17 = .ok (.aload_n 0, 1) := by decide +kernel
theorem dX4_ticksFor_18 : decode cX4_ticksFor 18 = .ok (.getfield 12, 3) := by decide +kernel
theorem dX4_ticksFor_21 : decode cX4_ticksFor 21 = .ok (.iload_n 1, 1) := by decide +kernel
theorem dX4_ticksFor_22 : decode cX4_ticksFor 22 = .ok (.invokevirtual 165, 3) := by decide +kernel
theorem dX4_ticksFor_25 : decode cX4_ticksFor 25 = .ok (.goto 11, 3) := by decide +kernel
theorem dX4_ticksFor_28 : decode cX4_ticksFor 28 = .ok (.aload_n 0, 1) := by decide +kernel
theorem dX4_ticksFor_29 : decode cX4_ticksFor 29 = .ok (.getfield 12, 3) := by decide +kernel
theorem dX4_ticksFor_32 : decode cX4_ticksFor 32 = .ok (.iload_n 1, 1) := by decide +kernel
theorem dX4_ticksFor_33 : decode cX4_ticksFor 33 = .ok (.invokevirtual 80, 3) := by decide +kernel
theorem dX4_ticksFor_36 : decode cX4_ticksFor 36 = .ok (.invokevirtual 168, 3) := by decide +kernel
theorem dX4_ticksFor_39 : decode cX4_ticksFor 39 = .ok (.ireturn, 1) := by decide +kernel
set_option maxRecDepth 20000 in
theorem ggX4_untilLost_X4_isAddress : GoodIn wsX4_untilLost wsX4_isAddress := goodIn_r _ [5] rfl (by decide +kernel)
set_option maxRecDepth 20000 in
theorem gX4_untilLost_X4_isAddress : GoodIn wsX4_untilLost (va_wsS RX4 70 yX4_isAddress wsX4_isAddress) := goodIn_app (goodIn_of _ (by decide +kernel)) ggX4_untilLost_X4_isAddress
set_option maxRecDepth 20000 in
theorem ggX4_untilLost_X0_sectorFor : GoodIn wsX4_untilLost wsX0_sectorFor := goodIn_r _ [10, 11, 12, 4, 13, 93, 94, 95, 96, 97, 98, 99, 100, 101] rfl (by decide +kernel)
set_option maxRecDepth 20000 in
theorem gX4_untilLost_X0_sectorFor : GoodIn wsX4_untilLost (wsV RX4 80 RX0 yX0_sectorFor wsX0_sectorFor) := goodIn_app (goodIn_of _ (by decide +kernel)) ggX4_untilLost_X0_sectorFor
set_option maxRecDepth 20000 in
theorem ggX4_untilLost_X0_isReadable : GoodIn wsX4_untilLost wsX0_isReadable := goodIn_r _ [17, 18, 19, 20, 9, 21, 22, 12, 4, 13, 23, 24, 25, 26, 27, 28, 29, 30, 31, 32, 93, 94, 95, 96, 97, 98, 99, 100, 101] rfl (by decide +kernel)
set_option maxRecDepth 20000 in
theorem gX4_untilLost_X0_isReadable : GoodIn wsX4_untilLost (wsV RX4 118 RX0 yX0_isReadable wsX0_isReadable) := goodIn_app (goodIn_of _ (by decide +kernel)) ggX4_untilLost_X0_isReadable
set_option maxRecDepth 20000 in
theorem ggX4_untilLost_X4_freshTrial : GoodIn wsX4_untilLost wsX4_freshTrial := goodIn_r _ [36, 37, 1, 38, 39, 40, 9, 41, 32, 22, 27, 42, 11, 43, 44, 45, 46, 47, 4, 48, 49, 50, 51, 52, 53, 54, 55, 56, 87, 88, 89, 90, 91, 92, 93, 94, 95, 96, 97, 98, 99, 100, 101] rfl (by decide +kernel)
set_option maxRecDepth 20000 in
theorem gX4_untilLost_X4_freshTrial : GoodIn wsX4_untilLost (wsV RX4 58 RX4 yX4_freshTrial wsX4_freshTrial) := goodIn_app (goodIn_of _ (by decide +kernel)) ggX4_untilLost_X4_freshTrial
set_option maxRecDepth 20000 in
theorem ggX4_untilLost_X0_sectorToWrite : GoodIn wsX4_untilLost wsX0_sectorToWrite := goodIn_r _ [60, 43, 61, 7, 8, 9, 10, 11, 12, 4, 13, 62, 63, 64, 65, 42, 28, 29, 30, 31, 32, 66, 67, 68, 69, 93, 94, 95, 96, 97, 98, 99, 100, 101] rfl (by decide +kernel)
set_option maxRecDepth 20000 in
theorem gX4_untilLost_X0_sectorToWrite : GoodIn wsX4_untilLost (wsV RX4 165 RX0 yX0_sectorToWrite wsX0_sectorToWrite) := goodIn_app (goodIn_of _ (by decide +kernel)) ggX4_untilLost_X0_sectorToWrite
set_option maxRecDepth 20000 in
theorem ggX4_untilLost_X0_fill : GoodIn wsX4_untilLost wsX0_fill := goodIn_r _ [73, 11, 43, 22, 27, 42, 61, 7, 8, 9, 10, 12, 4, 13, 74, 75, 62, 63, 64, 65, 76, 77, 28, 29, 30, 31, 32, 78, 79, 80, 81, 82, 50, 51, 52, 83, 84, 85, 86, 3, 5, 18, 19, 20, 21, 23, 24, 25, 26, 93, 94, 95, 96, 97, 98, 99, 100, 101] rfl (by decide +kernel)
set_option maxRecDepth 20000 in
theorem gX4_untilLost_X0_fill : GoodIn wsX4_untilLost (wsV RX4 171 RX0 yX0_fill wsX0_fill) := goodIn_app (goodIn_of _ (by decide +kernel)) ggX4_untilLost_X0_fill
theorem dX4_untilLost_0 : decode cX4_untilLost 0 = .ok (.iload_n 1, 1) := by decide +kernel
theorem dX4_untilLost_1 : decode cX4_untilLost 1 = .ok (.invokestatic 70, 3) := by decide +kernel
theorem dX4_untilLost_4 : decode cX4_untilLost 4 = .ok (.ifCond .eq 10, 3) := by decide +kernel
theorem dX4_untilLost_7 : decode cX4_untilLost 7 = .ok (.iload_n 2, 1) := by decide +kernel
theorem dX4_untilLost_8 : decode cX4_untilLost 8 = .ok (.invokestatic 70, 3) := by decide +kernel
theorem dX4_untilLost_11 : decode cX4_untilLost 11 = .ok (.ifCond .ne 5, 3) := by decide +kernel
theorem dX4_untilLost_14 : decode cX4_untilLost 14 = .ok (.iconst (-1), 1) := by decide +kernel
theorem dX4_untilLost_15 : decode cX4_untilLost 15 = .ok (.ireturn, 1) := by decide +kernel
theorem dX4_untilLost_16 : decode cX4_untilLost 16 = .ok (.iload_n 1, 1) := by decide +kernel
theorem dX4_untilLost_17 : decode cX4_untilLost 17 = .ok (.iload_n 2, 1) := by decide +kernel
theorem dX4_untilLost_18 : decode cX4_untilLost 18 = .ok (.if_icmp .ne 6, 3) := by decide +kernel
theorem dX4_untilLost_21 : decode cX4_untilLost 21 = .ok (.bipush (-2), 2) := by decide +kernel
theorem dX4_untilLost_23 : decode cX4_untilLost 23 = .ok (.ireturn, 1) := by decide +kernel
theorem dX4_untilLost_24 : decode cX4_untilLost 24 = .ok (.aload_n 0, 1) := by decide +kernel
theorem dX4_untilLost_25 : decode cX4_untilLost 25 = .ok (.getfield 12, 3) := by decide +kernel
theorem dX4_untilLost_28 : decode cX4_untilLost 28 = .ok (.iload_n 2, 1) := by decide +kernel
theorem dX4_untilLost_29 : decode cX4_untilLost 29 = .ok (.invokevirtual 80, 3) := by decide +kernel
theorem dX4_untilLost_32 : decode cX4_untilLost 32 = .ok (.istore_n 3, 1) := by decide +kernel
theorem dX4_untilLost_33 : decode cX4_untilLost 33 = .ok (.aload_n 0, 1) := by decide +kernel
theorem dX4_untilLost_34 : decode cX4_untilLost 34 = .ok (.getfield 12, 3) := by decide +kernel
theorem dX4_untilLost_37 : decode cX4_untilLost 37 = .ok (.iload_n 3, 1) := by decide +kernel
theorem dX4_untilLost_38 : decode cX4_untilLost 38 = .ok (.invokevirtual 118, 3) := by decide +kernel
theorem dX4_untilLost_41 : decode cX4_untilLost 41 = .ok (.ifCond .ne 6, 3) := by decide +kernel
theorem dX4_untilLost_44 : decode cX4_untilLost 44 = .ok (.bipush (-5), 2) := by decide +kernel
theorem dX4_untilLost_46 : decode cX4_untilLost 46 = .ok (.ireturn, 1) := by decide +kernel
theorem dX4_untilLost_47 : decode cX4_untilLost 47 = .ok (.aload_n 0, 1) := by decide +kernel
theorem dX4_untilLost_48 : decode cX4_untilLost 48 = .ok (.invokevirtual 58, 3) := by decide +kernel
theorem dX4_untilLost_51 : decode cX4_untilLost 51 = .ok (.astore 4, 2) := by decide +kernel
theorem dX4_untilLost_53 : decode cX4_untilLost 53 = .ok (.iconst 1, 1) := by decide +kernel
theorem dX4_untilLost_54 : decode cX4_untilLost 54 = .ok (.istore 5, 2) := by decide +kernel
theorem dX4_untilLost_56 : decode cX4_untilLost 56 = .ok (.iload 5, 2) := by decide +kernel
theorem dX4_untilLost_58 : decode cX4_untilLost 58 = .ok (.sipush 500, 3) := by decide +kernel
theorem dX4_untilLost_61 : decode cX4_untilLost 61 = .ok (.if_icmp .gt 34, 3) := by decide +kernel
theorem dX4_untilLost_64 : decode cX4_untilLost 64 = .ok (.aload 4, 2) := by decide +kernel
theorem dX4_untilLost_66 : decode cX4_untilLost 66 = .ok (.aload 4, 2) := by decide +kernel
theorem dX4_untilLost_68 : decode cX4_untilLost 68 = .ok (.iload_n 1, 1) := by decide +kernel
theorem dX4_untilLost_69 : decode cX4_untilLost 69 = .ok (.invokevirtual 165, 3) := by decide +kernel
theorem dX4_untilLost_72 : decode cX4_untilLost 72 = .ok (.iload_n 1, 1) := by decide +kernel
theorem dX4_untilLost_73 : decode cX4_untilLost 73 = .ok (.iconst 0, 1) := by decide +kernel
theorem dX4_untilLost_74 : decode cX4_untilLost 74 = .ok (.invokevirtual 171, 3) := by decide +kernel
theorem dX4_untilLost_77 : decode cX4_untilLost 77 = .ok (.aload 4, 2) := by decide +kernel
theorem dX4_untilLost_79 : decode cX4_untilLost 79 = .ok (.iload_n 3, 1) := by decide +kernel
theorem dX4_untilLost_80 : decode cX4_untilLost 80 = .ok (.invokevirtual 118, 3) := by decide +kernel
theorem dX4_untilLost_83 : decode cX4_untilLost 83 = .ok (.ifCond .ne 6, 3) := by decide +kernel
theorem dX4_untilLost_86 : decode cX4_untilLost 86 = .ok (.iload 5, 2) := by decide +kernel
theorem dX4_untilLost_88 : decode cX4_untilLost 88 = .ok (.ireturn, 1) := by decide +kernel
theorem dX4_untilLost_89 : decode cX4_untilLost 89 = .ok (.iinc 5 1, 3) := by decide +kernel
theorem dX4_untilLost_92 : decode cX4_untilLost 92 = .ok (.goto (-36), 3) := by decide +kernel
theorem dX4_untilLost_95 : decode cX4_untilLost 95 = .ok (.bipush (-6), 2) := by decide +kernel
theorem dX4_untilLost_97 : decode cX4_untilLost 97 = .ok (.ireturn, 1) := by decide +kernel
set_option maxRecDepth 20000 in
theorem ggX4_worst_X0_sectorFor : GoodIn wsX4_worst wsX0_sectorFor := goodIn_r _ [6, 7, 8, 9, 10, 37, 38, 39, 40, 41, 42, 43, 44, 45] rfl (by decide +kernel)
set_option maxRecDepth 20000 in
theorem gX4_worst_X0_sectorFor : GoodIn wsX4_worst (wsV RX4 80 RX0 yX0_sectorFor wsX0_sectorFor) := goodIn_app (goodIn_of _ (by decide +kernel)) ggX4_worst_X0_sectorFor
set_option maxRecDepth 20000 in
theorem ggX4_worst_X0_isReadable : GoodIn wsX4_worst wsX0_isReadable := goodIn_r _ [14, 15, 16, 17, 5, 18, 19, 8, 9, 10, 20, 21, 22, 23, 24, 25, 26, 27, 28, 29, 37, 38, 39, 40, 41, 42, 43, 44, 45] rfl (by decide +kernel)
set_option maxRecDepth 20000 in
theorem gX4_worst_X0_isReadable : GoodIn wsX4_worst (wsV RX4 118 RX0 yX0_isReadable wsX0_isReadable) := goodIn_app (goodIn_of _ (by decide +kernel)) ggX4_worst_X0_isReadable
set_option maxRecDepth 20000 in
theorem ggX4_worst_X0_blurOf : GoodIn wsX4_worst wsX0_blurOf := goodIn_r _ [23, 24, 8, 9, 10, 37, 38, 39, 40, 41, 42, 43, 44, 45] rfl (by decide +kernel)
set_option maxRecDepth 20000 in
theorem gX4_worst_X0_blurOf : GoodIn wsX4_worst (wsV RX4 83 RX0 yX0_blurOf wsX0_blurOf) := goodIn_app (goodIn_of _ (by decide +kernel)) ggX4_worst_X0_blurOf
theorem dX4_worst_0 : decode cX4_worst 0 = .ok (.bipush (-6), 2) := by decide +kernel
theorem dX4_worst_2 : decode cX4_worst 2 = .ok (.istore_n 1, 1) := by decide +kernel
theorem dX4_worst_3 : decode cX4_worst 3 = .ok (.iconst (-1), 1) := by decide +kernel
theorem dX4_worst_4 : decode cX4_worst 4 = .ok (.istore_n 2, 1) := by decide +kernel
theorem dX4_worst_5 : decode cX4_worst 5 = .ok (.iconst 0, 1) := by decide +kernel
theorem dX4_worst_6 : decode cX4_worst 6 = .ok (.istore_n 3, 1) := by decide +kernel
theorem dX4_worst_7 : decode cX4_worst 7 = .ok (.iload_n 3, 1) := by decide +kernel
theorem dX4_worst_8 : decode cX4_worst 8 = .ok (.sipush 192, 3) := by decide +kernel
theorem dX4_worst_11 : decode cX4_worst 11 = .ok (.if_icmp .ge 56, 3) := by decide +kernel
theorem dX4_worst_14 : decode cX4_worst 14 = .ok (.aload_n 0, 1) := by decide +kernel
theorem dX4_worst_15 : decode cX4_worst 15 = .ok (.getfield 12, 3) := by decide +kernel
theorem dX4_worst_18 : decode cX4_worst 18 = .ok (.iload_n 3, 1) := by decide +kernel
theorem dX4_worst_19 : decode cX4_worst 19 = .ok (.invokevirtual 80, 3) := by decide +kernel
theorem dX4_worst_22 : decode cX4_worst 22 = .ok (.istore 4, 2) := by decide +kernel
theorem dX4_worst_24 : decode cX4_worst 24 = .ok (.aload_n 0, 1) := by decide +kernel
theorem dX4_worst_25 : decode cX4_worst 25 = .ok (.getfield 12, 3) := by decide +kernel
theorem dX4_worst_28 : decode cX4_worst 28 = .ok (.iload 4, 2) := by decide +kernel
theorem dX4_worst_30 : decode cX4_worst 30 = .ok (.invokevirtual 118, 3) := by decide +kernel
theorem dX4_worst_33 : decode cX4_worst 33 = .ok (.ifCond .eq 28, 3) := by decide +kernel
theorem dX4_worst_36 : decode cX4_worst 36 = .ok (.aload_n 0, 1) := by decide +kernel
theorem dX4_worst_37 : decode cX4_worst 37 = .ok (.getfield 12, 3) := by decide +kernel
theorem dX4_worst_40 : decode cX4_worst 40 = .ok (.iload 4, 2) := by decide +kernel
theorem dX4_worst_42 : decode cX4_worst 42 = .ok (.invokevirtual 83, 3) := by decide +kernel
theorem dX4_worst_45 : decode cX4_worst 45 = .ok (.iload_n 2, 1) := by decide +kernel
theorem dX4_worst_46 : decode cX4_worst 46 = .ok (.if_icmp .le 15, 3) := by decide +kernel
theorem dX4_worst_49 : decode cX4_worst 49 = .ok (.iload_n 3, 1) := by decide +kernel
theorem dX4_worst_50 : decode cX4_worst 50 = .ok (.istore_n 1, 1) := by decide +kernel
theorem dX4_worst_51 : decode cX4_worst 51 = .ok (.aload_n 0, 1) := by decide +kernel
theorem dX4_worst_52 : decode cX4_worst 52 = .ok (.getfield 12, 3) := by decide +kernel
theorem dX4_worst_55 : decode cX4_worst 55 = .ok (.iload 4, 2) := by decide +kernel
theorem dX4_worst_57 : decode cX4_worst 57 = .ok (.invokevirtual 83, 3) := by decide +kernel
theorem dX4_worst_60 : decode cX4_worst 60 = .ok (.istore_n 2, 1) := by decide +kernel
theorem dX4_worst_61 : decode cX4_worst 61 = .ok (.iinc 3 1, 3) := by decide +kernel
theorem dX4_worst_64 : decode cX4_worst 64 = .ok (.goto (-57), 3) := by decide +kernel
theorem dX4_worst_67 : decode cX4_worst 67 = .ok (.iload_n 1, 1) := by decide +kernel
theorem dX4_worst_68 : decode cX4_worst 68 = .ok (.ireturn, 1) := by decide +kernel
set_option maxRecDepth 20000 in
theorem ggX4_put_X4_signsIn : GoodIn wsX4_put wsX4_signsIn := goodIn_r _ [6, 7, 8, 9] rfl (by decide +kernel)
set_option maxRecDepth 20000 in
theorem gX4_put_X4_signsIn : GoodIn wsX4_put (va_wsS RX4 175 yX4_signsIn wsX4_signsIn) := goodIn_app (goodIn_of _ (by decide +kernel)) ggX4_put_X4_signsIn
set_option maxRecDepth 20000 in
theorem ggX4_put_X2_append : GoodIn wsX4_put wsX2_append := goodIn_r _ [14, 15, 16, 17, 18, 5, 19, 26, 27] rfl (by decide +kernel)
set_option maxRecDepth 20000 in
theorem gX4_put_X2_append : GoodIn wsX4_put (wsV RX4 179 RX2 yX2_append wsX2_append) := goodIn_app (goodIn_of _ (by decide +kernel)) ggX4_put_X2_append
theorem dX4_put_0 : decode cX4_put 0 = .ok (.lload_n 1, 1) := by decide +kernel
theorem dX4_put_1 : decode cX4_put 1 = .ok (.invokestatic 175, 3) := by decide +kernel
theorem dX4_put_4 : decode cX4_put 4 = .ok (.istore_n 3, 1) := by decide +kernel
theorem dX4_put_5 : decode cX4_put 5 = .ok (.iload_n 3, 1) := by decide +kernel
theorem dX4_put_6 : decode cX4_put 6 = .ok (.iconst 1, 1) := by decide +kernel
theorem dX4_put_7 : decode cX4_put 7 = .ok (.if_icmp .ge 6, 3) := by decide +kernel
theorem dX4_put_10 : decode cX4_put 10 = .ok (.bipush (-2), 2) := by decide +kernel
theorem dX4_put_12 : decode cX4_put 12 = .ok (.ireturn, 1) := by decide +kernel
theorem dX4_put_13 : decode cX4_put 13 = .ok (.aload_n 0, 1) := by decide +kernel
theorem dX4_put_14 : decode cX4_put 14 = .ok (.getfield 22, 3) := by decide +kernel
theorem dX4_put_17 : decode cX4_put 17 = .ok (.getfield 159, 3) := by decide +kernel
theorem dX4_put_20 : decode cX4_put 20 = .ok (.iload_n 3, 1) := by decide +kernel
theorem dX4_put_21 : decode cX4_put 21 = .ok (.iadd, 1) := by decide +kernel
theorem dX4_put_22 : decode cX4_put 22 = .ok (.bipush 60, 2) := by decide +kernel
theorem dX4_put_24 : decode cX4_put 24 = .ok (.if_icmp .le 6, 3) := by decide +kernel
theorem dX4_put_27 : decode cX4_put 27 = .ok (.bipush (-4), 2) := by decide +kernel
theorem dX4_put_29 : decode cX4_put 29 = .ok (.ireturn, 1) := by decide +kernel
theorem dX4_put_30 : decode cX4_put 30 = .ok (.aload_n 0, 1) := by decide +kernel
theorem dX4_put_31 : decode cX4_put 31 = .ok (.getfield 22, 3) := by decide +kernel
theorem dX4_put_34 : decode cX4_put 34 = .ok (.lload_n 1, 1) := by decide +kernel
theorem dX4_put_35 : decode cX4_put 35 = .ok (.iload_n 3, 1) := by decide +kernel
theorem dX4_put_36 : decode cX4_put 36 = .ok (.invokevirtual 179, 3) := by decide +kernel
theorem dX4_put_39 : decode cX4_put 39 = .ok (.aload_n 0, 1) := by decide +kernel
theorem dX4_put_40 : decode cX4_put 40 = .ok (.getfield 22, 3) := by decide +kernel
theorem dX4_put_43 : decode cX4_put 43 = .ok (.getfield 159, 3) := by decide +kernel
theorem dX4_put_46 : decode cX4_put 46 = .ok (.ireturn, 1) := by decide +kernel
set_option maxRecDepth 20000 in
theorem ggX4_wipe_X2_clear : GoodIn wsX4_wipe wsX2_clear := goodIn_r _ [7, 8, 15, 16] rfl (by decide +kernel)
set_option maxRecDepth 20000 in
theorem gX4_wipe_X2_clear : GoodIn wsX4_wipe (wsV RX4 103 RX2 yX2_clear wsX2_clear) := goodIn_app (goodIn_of _ (by decide +kernel)) ggX4_wipe_X2_clear
theorem dX4_wipe_0 : decode cX4_wipe 0 = .ok (.aload_n 0, 1) := by decide +kernel
theorem dX4_wipe_1 : decode cX4_wipe 1 = .ok (.getfield 22, 3) := by decide +kernel
theorem dX4_wipe_4 : decode cX4_wipe 4 = .ok (.getfield 159, 3) := by decide +kernel
theorem dX4_wipe_7 : decode cX4_wipe 7 = .ok (.istore_n 1, 1) := by decide +kernel
theorem dX4_wipe_8 : decode cX4_wipe 8 = .ok (.aload_n 0, 1) := by decide +kernel
theorem dX4_wipe_9 : decode cX4_wipe 9 = .ok (.getfield 22, 3) := by decide +kernel
theorem dX4_wipe_12 : decode cX4_wipe 12 = .ok (.invokevirtual 103, 3) := by decide +kernel
theorem dX4_wipe_15 : decode cX4_wipe 15 = .ok (.iload_n 1, 1) := by decide +kernel
theorem dX4_wipe_16 : decode cX4_wipe 16 = .ok (.ireturn, 1) := by decide +kernel
set_option maxRecDepth 20000 in
theorem ggX4_fault_X3_parse : GoodIn wsX4_fault wsX3_parse := goodIn_r _ [7, 8, 9, 10, 11, 12, 13, 14, 15, 16, 17, 18, 19, 20, 21, 22, 6, 23, 24, 25, 26, 27, 28, 29, 30, 31, 32, 33, 34, 35, 36, 37, 38, 39, 40, 41, 42, 43, 44, 45, 46, 47, 48, 49, 50, 51, 52, 53, 54, 61, 62, 63, 64, 65, 66, 67] rfl (by decide +kernel)
set_option maxRecDepth 20000 in
theorem gX4_fault_X3_parse : GoodIn wsX4_fault (wsV RX4 95 RX3 yX3_parse wsX3_parse) := goodIn_app (goodIn_of _ (by decide +kernel)) ggX4_fault_X3_parse
theorem dX4_fault_0 : decode cX4_fault 0 = .ok (.aload_n 0, 1) := by decide +kernel
theorem dX4_fault_1 : decode cX4_fault 1 = .ok (.getfield 29, 3) := by decide +kernel
theorem dX4_fault_4 : decode cX4_fault 4 = .ok (.aload_n 0, 1) := by decide +kernel
theorem dX4_fault_5 : decode cX4_fault 5 = .ok (.getfield 22, 3) := by decide +kernel
theorem dX4_fault_8 : decode cX4_fault 8 = .ok (.invokevirtual 95, 3) := by decide +kernel
theorem dX4_fault_11 : decode cX4_fault 11 = .ok (.ireturn, 1) := by decide +kernel
set_option maxRecDepth 20000 in
theorem ggX4_save_X0_init : GoodIn wsX4_save wsX0_init := goodIn_r _ [8, 9, 10, 11, 12, 13, 14, 15, 16, 17, 18, 19, 20, 21, 22, 23, 24, 25, 26, 27, 28, 29, 30, 31, 32, 33, 34, 35, 36, 66, 67, 68, 69, 70, 71, 72, 73, 74] rfl (by decide +kernel)
theorem gX4_save_X0_init : GoodIn wsX4_save (wsX0_init) := ggX4_save_X0_init
set_option maxRecDepth 20000 in
theorem ggX4_save_X0_becomeLike : GoodIn wsX4_save wsX0_becomeLike := goodIn_r _ [40, 13, 14, 15, 16, 17, 18, 19, 20, 21, 22, 23, 24, 25, 26, 27, 28, 29, 30, 31, 32, 66, 67, 68, 69, 70, 71, 72, 73, 74] rfl (by decide +kernel)
set_option maxRecDepth 20000 in
theorem gX4_save_X0_becomeLike : GoodIn wsX4_save (wsV RX4 187 RX0 yX0_becomeLike wsX0_becomeLike) := goodIn_app (goodIn_of _ (by decide +kernel)) ggX4_save_X0_becomeLike
set_option maxRecDepth 20000 in
theorem ggX4_save_X0_filledOn : GoodIn wsX4_save wsX0_filledOn := goodIn_r _ [44, 45, 46, 47, 4, 48, 17, 49, 23, 50, 51, 52, 53, 54, 55, 56, 57, 58, 59, 14, 66, 67, 68, 69, 70, 71, 72, 73, 74] rfl (by decide +kernel)
set_option maxRecDepth 20000 in
theorem gX4_save_X0_filledOn : GoodIn wsX4_save (wsV RX4 121 RX0 yX0_filledOn wsX0_filledOn) := goodIn_app (goodIn_of _ (by decide +kernel)) ggX4_save_X0_filledOn
theorem dX4_save_0 : decode cX4_save 0 = .ok (.iload_n 1, 1) := by decide +kernel
theorem dX4_save_1 : decode cX4_save 1 = .ok (.ifCond .lt 12, 3) := by decide +kernel
theorem dX4_save_4 : decode cX4_save 4 = .ok (.iload_n 1, 1) := by decide +kernel
theorem dX4_save_5 : decode cX4_save 5 = .ok (.aload_n 0, 1) := by decide +kernel
theorem dX4_save_6 : decode cX4_save 6 = .ok (.getfield 40, 3) := by decide +kernel
theorem dX4_save_9 : decode cX4_save 9 = .ok (.arraylength, 1) := by decide +kernel
theorem dX4_save_10 : decode cX4_save 10 = .ok (.if_icmp .lt 6, 3) := by decide +kernel
theorem dX4_save_13 : decode cX4_save 13 = .ok (.bipush (-2), 2) := by decide +kernel
theorem dX4_save_15 : decode cX4_save 15 = .ok (.ireturn, 1) := by decide +kernel
theorem dX4_save_16 : decode cX4_save 16 = .ok (.aload_n 0, 1) := by decide +kernel
theorem dX4_save_17 : decode cX4_save 17 = .ok (.getfield 40, 3) := by decide +kernel
theorem dX4_save_20 : decode cX4_save 20 = .ok (.iload_n 1, 1) := by decide +kernel
theorem dX4_save_21 : decode cX4_save 21 = .ok (.aaload, 1) := by decide +kernel
theorem dX4_save_22 : decode cX4_save 22 = .ok (.astore_n 2, 1) := by decide +kernel
theorem dX4_save_23 : decode cX4_save 23 = .ok (.aload_n 2, 1) := by decide +kernel
theorem dX4_save_24 : decode cX4_save 24 = .ok (.ifnonnull 18, 3) := by decide +kernel
theorem dX4_save_27 : decode cX4_save 27 = .ok (.new 9, 3) := by decide +kernel
theorem dX4_save_30 : decode cX4_save 30 = .ok (.dup, 1) := by decide +kernel
theorem dX4_save_31 : decode cX4_save 31 = .ok (.invokespecial 11, 3) := by decide +kernel
theorem dX4_save_34 : decode cX4_save 34 = .ok (.astore_n 2, 1) := by decide +kernel
theorem dX4_save_35 : decode cX4_save 35 = .ok (.aload_n 0, 1) := by decide +kernel
theorem dX4_save_36 : decode cX4_save 36 = .ok (.getfield 40, 3) := by decide +kernel
theorem dX4_save_39 : decode cX4_save 39 = .ok (.iload_n 1, 1) := by decide +kernel
theorem dX4_save_40 : decode cX4_save 40 = .ok (.aload_n 2, 1) := by decide +kernel
theorem dX4_save_41 : decode cX4_save 41 = .ok (.aastore, 1) := by decide +kernel
theorem dX4_save_42 : decode cX4_save 42 = .ok (.aload_n 2, 1) := by decide +kernel
theorem dX4_save_43 : decode cX4_save 43 = .ok (.aload_n 0, 1) := by decide +kernel
theorem dX4_save_44 : decode cX4_save 44 = .ok (.getfield 12, 3) := by decide +kernel
theorem dX4_save_47 : decode cX4_save 47 = .ok (.invokevirtual 187, 3) := by decide +kernel
theorem dX4_save_50 : decode cX4_save 50 = .ok (.aload_n 0, 1) := by decide +kernel
theorem dX4_save_51 : decode cX4_save 51 = .ok (.getfield 12, 3) := by decide +kernel
theorem dX4_save_54 : decode cX4_save 54 = .ok (.iconst 0, 1) := by decide +kernel
theorem dX4_save_55 : decode cX4_save 55 = .ok (.bipush 16, 2) := by decide +kernel
theorem dX4_save_57 : decode cX4_save 57 = .ok (.invokevirtual 121, 3) := by decide +kernel
theorem dX4_save_60 : decode cX4_save 60 = .ok (.ireturn, 1) := by decide +kernel
set_option maxRecDepth 20000 in
theorem ggX4_restore_X0_becomeLike : GoodIn wsX4_restore wsX0_becomeLike := goodIn_r _ [7, 8, 9, 10, 11, 12, 13, 14, 15, 16, 17, 18, 19, 20, 21, 22, 23, 24, 25, 26, 27, 84, 85, 86, 87, 88, 89, 90, 91, 92] rfl (by decide +kernel)
set_option maxRecDepth 20000 in
theorem gX4_restore_X0_becomeLike : GoodIn wsX4_restore (wsV RX4 187 RX0 yX0_becomeLike wsX0_becomeLike) := goodIn_app (goodIn_of _ (by decide +kernel)) ggX4_restore_X0_becomeLike
set_option maxRecDepth 20000 in
theorem ggX4_restore_X0_filledOn : GoodIn wsX4_restore wsX0_filledOn := goodIn_r _ [31, 32, 33, 34, 6, 35, 12, 36, 18, 37, 38, 39, 40, 41, 42, 43, 44, 45, 46, 9, 84, 85, 86, 87, 88, 89, 90, 91, 92] rfl (by decide +kernel)
set_option maxRecDepth 20000 in
theorem gX4_restore_X0_filledOn : GoodIn wsX4_restore (wsV RX4 121 RX0 yX0_filledOn wsX0_filledOn) := goodIn_app (goodIn_of _ (by decide +kernel)) ggX4_restore_X0_filledOn
set_option maxRecDepth 20000 in
theorem ggX4_restore_X4_adopt : GoodIn wsX4_restore wsX4_adopt := goodIn_r _ [50, 51, 52, 2, 53, 54, 6, 55, 56, 57, 58, 59, 60, 61, 62, 63, 64, 65, 66, 67, 68, 69, 70, 71, 72, 73, 8, 9, 10, 11, 12, 13, 14, 15, 16, 17, 18, 19, 20, 21, 22, 23, 24, 25, 26, 27, 74, 75, 76, 77, 78, 79, 80, 81, 82, 83, 84, 85, 86, 87, 88, 89, 90, 91, 92, 93, 94, 95] rfl (by decide +kernel)
set_option maxRecDepth 20000 in
theorem gX4_restore_X4_adopt : GoodIn wsX4_restore (wsV RX4 66 RX4 yX4_adopt wsX4_adopt) := goodIn_app (goodIn_of _ (by decide +kernel)) ggX4_restore_X4_adopt
theorem dX4_restore_0 : decode cX4_restore 0 = .ok (.iload_n 1, 1) := by decide +kernel
theorem dX4_restore_1 : decode cX4_restore 1 = .ok (.ifCond .lt 12, 3) := by decide +kernel
theorem dX4_restore_4 : decode cX4_restore 4 = .ok (.iload_n 1, 1) := by decide +kernel
theorem dX4_restore_5 : decode cX4_restore 5 = .ok (.aload_n 0, 1) := by decide +kernel
theorem dX4_restore_6 : decode cX4_restore 6 = .ok (.getfield 40, 3) := by decide +kernel
theorem dX4_restore_9 : decode cX4_restore 9 = .ok (.arraylength, 1) := by decide +kernel
theorem dX4_restore_10 : decode cX4_restore 10 = .ok (.if_icmp .lt 6, 3) := by decide +kernel
theorem dX4_restore_13 : decode cX4_restore 13 = .ok (.bipush (-2), 2) := by decide +kernel
theorem dX4_restore_15 : decode cX4_restore 15 = .ok (.ireturn, 1) := by decide +kernel
theorem dX4_restore_16 : decode cX4_restore 16 = .ok (.aload_n 0, 1) := by decide +kernel
theorem dX4_restore_17 : decode cX4_restore 17 = .ok (.getfield 40, 3) := by decide +kernel
theorem dX4_restore_20 : decode cX4_restore 20 = .ok (.iload_n 1, 1) := by decide +kernel
theorem dX4_restore_21 : decode cX4_restore 21 = .ok (.aaload, 1) := by decide +kernel
theorem dX4_restore_22 : decode cX4_restore 22 = .ok (.astore_n 2, 1) := by decide +kernel
theorem dX4_restore_23 : decode cX4_restore 23 = .ok (.aload_n 2, 1) := by decide +kernel
theorem dX4_restore_24 : decode cX4_restore 24 = .ok (.ifnonnull 6, 3) := by decide +kernel
theorem dX4_restore_27 : decode cX4_restore 27 = .ok (.bipush (-5), 2) := by decide +kernel
theorem dX4_restore_29 : decode cX4_restore 29 = .ok (.ireturn, 1) := by decide +kernel
theorem dX4_restore_30 : decode cX4_restore 30 = .ok (.aload_n 0, 1) := by decide +kernel
theorem dX4_restore_31 : decode cX4_restore 31 = .ok (.getfield 16, 3) := by decide +kernel
theorem dX4_restore_34 : decode cX4_restore 34 = .ok (.aload_n 2, 1) := by decide +kernel
theorem dX4_restore_35 : decode cX4_restore 35 = .ok (.invokevirtual 187, 3) := by decide +kernel
theorem dX4_restore_38 : decode cX4_restore 38 = .ok (.aload_n 0, 1) := by decide +kernel
theorem dX4_restore_39 : decode cX4_restore 39 = .ok (.aload_n 0, 1) := by decide +kernel
theorem dX4_restore_40 : decode cX4_restore 40 = .ok (.getfield 16, 3) := by decide +kernel
theorem dX4_restore_43 : decode cX4_restore 43 = .ok (.iconst 0, 1) := by decide +kernel
theorem dX4_restore_44 : decode cX4_restore 44 = .ok (.bipush 16, 2) := by decide +kernel
theorem dX4_restore_46 : decode cX4_restore 46 = .ok (.invokevirtual 121, 3) := by decide +kernel
theorem dX4_restore_49 : decode cX4_restore 49 = .ok (.invokevirtual 66, 3) := by decide +kernel
theorem dX4_restore_52 : decode cX4_restore 52 = .ok (.ireturn, 1) := by decide +kernel
set_option maxRecDepth 20000 in
theorem ggX4_freshTrial_X0_becomeLike : GoodIn wsX4_freshTrial wsX0_becomeLike := goodIn_r _ [7, 8, 9, 10, 11, 12, 13, 14, 15, 16, 17, 18, 19, 20, 21, 22, 23, 24, 25, 26, 27, 34, 35, 36, 37, 38, 39, 40, 41, 42] rfl (by decide +kernel)
set_option maxRecDepth 20000 in
theorem gX4_freshTrial_X0_becomeLike : GoodIn wsX4_freshTrial (wsV RX4 187 RX0 yX0_becomeLike wsX0_becomeLike) := goodIn_app (goodIn_of _ (by decide +kernel)) ggX4_freshTrial_X0_becomeLike
theorem dX4_freshTrial_0 : decode cX4_freshTrial 0 = .ok (.aload_n 0, 1) := by decide +kernel
theorem dX4_freshTrial_1 : decode cX4_freshTrial 1 = .ok (.getfield 16, 3) := by decide +kernel
theorem dX4_freshTrial_4 : decode cX4_freshTrial 4 = .ok (.aload_n 0, 1) := by decide +kernel
theorem dX4_freshTrial_5 : decode cX4_freshTrial 5 = .ok (.getfield 12, 3) := by decide +kernel
theorem dX4_freshTrial_8 : decode cX4_freshTrial 8 = .ok (.invokevirtual 187, 3) := by decide +kernel
theorem dX4_freshTrial_11 : decode cX4_freshTrial 11 = .ok (.aload_n 0, 1) := by decide +kernel
theorem dX4_freshTrial_12 : decode cX4_freshTrial 12 = .ok (.getfield 16, 3) := by decide +kernel
theorem dX4_freshTrial_15 : decode cX4_freshTrial 15 = .ok (.areturn, 1) := by decide +kernel
set_option maxRecDepth 20000 in
theorem ggX4_adopt_X1_keep : GoodIn wsX4_adopt wsX1_keep := goodIn_r _ [11, 12, 13, 14, 15, 16, 10, 17, 18, 65, 66, 67] rfl (by decide +kernel)
set_option maxRecDepth 20000 in
theorem gX4_adopt_X1_keep : GoodIn wsX4_adopt (wsV RX4 191 RX1 yX1_keep wsX1_keep) := goodIn_app (goodIn_of _ (by decide +kernel)) ggX4_adopt_X1_keep
set_option maxRecDepth 20000 in
theorem ggX4_adopt_X0_init : GoodIn wsX4_adopt wsX0_init := goodIn_r _ [21, 22, 23, 24, 25, 26, 27, 28, 29, 30, 31, 32, 33, 34, 35, 36, 37, 38, 39, 40, 41, 42, 43, 44, 45, 46, 47, 48, 49, 56, 57, 58, 59, 60, 61, 62, 63, 64] rfl (by decide +kernel)
theorem gX4_adopt_X0_init : GoodIn wsX4_adopt (wsX0_init) := ggX4_adopt_X0_init
theorem dX4_adopt_0 : decode cX4_adopt 0 = .ok (.iload_n 1, 1) := by decide +kernel
theorem dX4_adopt_1 : decode cX4_adopt 1 = .ok (.ifCond .lt 42, 3) := by decide +kernel
theorem dX4_adopt_4 : decode cX4_adopt 4 = .ok (.aload_n 0, 1) := by decide +kernel
theorem dX4_adopt_5 : decode cX4_adopt 5 = .ok (.getfield 36, 3) := by decide +kernel
theorem dX4_adopt_8 : decode cX4_adopt 8 = .ok (.aload_n 0, 1) := by decide +kernel
theorem dX4_adopt_9 : decode cX4_adopt 9 = .ok (.getfield 12, 3) := by decide +kernel
theorem dX4_adopt_12 : decode cX4_adopt 12 = .ok (.invokevirtual 191, 3) := by decide +kernel
theorem dX4_adopt_15 : decode cX4_adopt 15 = .ok (.astore_n 2, 1) := by decide +kernel
theorem dX4_adopt_16 : decode cX4_adopt 16 = .ok (.aload_n 0, 1) := by decide +kernel
theorem dX4_adopt_17 : decode cX4_adopt 17 = .ok (.aload_n 0, 1) := by decide +kernel
theorem dX4_adopt_18 : decode cX4_adopt 18 = .ok (.getfield 16, 3) := by decide +kernel
theorem dX4_adopt_21 : decode cX4_adopt 21 = .ok (.putfield 12, 3) := by decide +kernel
theorem dX4_adopt_24 : decode cX4_adopt 24 = .ok (.aload_n 0, 1) := by decide +kernel
theorem dX4_adopt_25 : decode cX4_adopt 25 = .ok (.aload_n 2, 1) := by decide +kernel
theorem dX4_adopt_26 : decode cX4_adopt 26 = .ok (.ifnonnull 13, 3) := by decide +kernel
theorem dX4_adopt_29 : decode cX4_adopt 29 = .ok (.new 9, 3) := by decide +kernel
theorem dX4_adopt_32 : decode cX4_adopt 32 = .ok (.dup, 1) := by decide +kernel
theorem dX4_adopt_33 : decode cX4_adopt 33 = .ok (.invokespecial 11, 3) := by decide +kernel
theorem dX4_adopt_36 : decode cX4_adopt 36 = .ok (.goto 4, 3) := by decide +kernel
theorem dX4_adopt_39 : decode cX4_adopt 39 = .ok (.aload_n 2, 1) := by decide +kernel
theorem dX4_adopt_40 : decode cX4_adopt 40 = .ok (.putfield 16, 3) := by decide +kernel
theorem dX4_adopt_43 : decode cX4_adopt 43 = .ok (.iload_n 1, 1) := by decide +kernel
theorem dX4_adopt_44 : decode cX4_adopt 44 = .ok (.ireturn, 1) := by decide +kernel
theorem dX4_isAddress_0 : decode cX4_isAddress 0 = .ok (.iload_n 0, 1) := by decide +kernel
theorem dX4_isAddress_1 : decode cX4_isAddress 1 = .ok (.ifCond .lt 14, 3) := by decide +kernel
theorem dX4_isAddress_4 : decode cX4_isAddress 4 = .ok (.iload_n 0, 1) := by decide +kernel
theorem dX4_isAddress_5 : decode cX4_isAddress 5 = .ok (.sipush 192, 3) := by decide +kernel
theorem dX4_isAddress_8 : decode cX4_isAddress 8 = .ok (.if_icmp .ge 7, 3) := by decide +kernel
theorem dX4_isAddress_11 : decode cX4_isAddress 11 = .ok (.iconst 1, 1) := by decide +kernel
theorem dX4_isAddress_12 : decode cX4_isAddress 12 = .ok (.goto 4, 3) := by decide +kernel
theorem dX4_isAddress_15 : decode cX4_isAddress 15 = .ok (.iconst 0, 1) := by decide +kernel
theorem dX4_isAddress_16 : decode cX4_isAddress 16 = .ok (.ireturn, 1) := by decide +kernel
theorem dX4_isTrack_0 : decode cX4_isTrack 0 = .ok (.iload_n 0, 1) := by decide +kernel
theorem dX4_isTrack_1 : decode cX4_isTrack 1 = .ok (.ifCond .lt 13, 3) := by decide +kernel
theorem dX4_isTrack_4 : decode cX4_isTrack 4 = .ok (.iload_n 0, 1) := by decide +kernel
theorem dX4_isTrack_5 : decode cX4_isTrack 5 = .ok (.bipush 16, 2) := by decide +kernel
theorem dX4_isTrack_7 : decode cX4_isTrack 7 = .ok (.if_icmp .gt 7, 3) := by decide +kernel
theorem dX4_isTrack_10 : decode cX4_isTrack 10 = .ok (.iconst 1, 1) := by decide +kernel
theorem dX4_isTrack_11 : decode cX4_isTrack 11 = .ok (.goto 4, 3) := by decide +kernel
theorem dX4_isTrack_14 : decode cX4_isTrack 14 = .ok (.iconst 0, 1) := by decide +kernel
theorem dX4_isTrack_15 : decode cX4_isTrack 15 = .ok (.ireturn, 1) := by decide +kernel
theorem dX4_isSpare_0 : decode cX4_isSpare 0 = .ok (.iload_n 0, 1) := by decide +kernel
theorem dX4_isSpare_1 : decode cX4_isSpare 1 = .ok (.sipush 192, 3) := by decide +kernel
theorem dX4_isSpare_4 : decode cX4_isSpare 4 = .ok (.if_icmp .lt 7, 3) := by decide +kernel
theorem dX4_isSpare_7 : decode cX4_isSpare 7 = .ok (.iconst 1, 1) := by decide +kernel
theorem dX4_isSpare_8 : decode cX4_isSpare 8 = .ok (.goto 4, 3) := by decide +kernel
theorem dX4_isSpare_11 : decode cX4_isSpare 11 = .ok (.iconst 0, 1) := by decide +kernel
theorem dX4_isSpare_12 : decode cX4_isSpare 12 = .ok (.ireturn, 1) := by decide +kernel
theorem dX4_trackOf_0 : decode cX4_trackOf 0 = .ok (.iload_n 0, 1) := by decide +kernel
theorem dX4_trackOf_1 : decode cX4_trackOf 1 = .ok (.bipush 12, 2) := by decide +kernel
theorem dX4_trackOf_3 : decode cX4_trackOf 3 = .ok (.idiv, 1) := by decide +kernel
theorem dX4_trackOf_4 : decode cX4_trackOf 4 = .ok (.ireturn, 1) := by decide +kernel
theorem dX4_signsIn_0 : decode cX4_signsIn 0 = .ok (.lload_n 0, 1) := by decide +kernel
theorem dX4_signsIn_1 : decode cX4_signsIn 1 = .ok (.lstore_n 2, 1) := by decide +kernel
theorem dX4_signsIn_2 : decode cX4_signsIn 2 = .ok (.iconst 0, 1) := by decide +kernel
theorem dX4_signsIn_3 : decode cX4_signsIn 3 = .ok (.istore 4, 2) := by decide +kernel
theorem dX4_signsIn_5 : decode cX4_signsIn 5 = .ok (.lload_n 2, 1) := by decide +kernel
theorem dX4_signsIn_6 : decode cX4_signsIn 6 = .ok (.lconst 0, 1) := by decide +kernel
theorem dX4_signsIn_7 : decode cX4_signsIn 7 = .ok (.lcmp, 1) := by decide +kernel
theorem dX4_signsIn_8 : decode cX4_signsIn 8 = .ok (.ifCond .eq 49, 3) := by decide +kernel
theorem dX4_signsIn_11 : decode cX4_signsIn 11 = .ok (.iload 4, 2) := by decide +kernel
theorem dX4_signsIn_13 : decode cX4_signsIn 13 = .ok (.bipush 8, 2) := by decide +kernel
theorem dX4_signsIn_15 : decode cX4_signsIn 15 = .ok (.if_icmp .ge 42, 3) := by decide +kernel
theorem dX4_signsIn_18 : decode cX4_signsIn 18 = .ok (.lload_n 2, 1) := by decide +kernel
theorem dX4_signsIn_19 : decode cX4_signsIn 19 = .ok (.ldc2_w 194, 3) := by decide +kernel
theorem dX4_signsIn_22 : decode cX4_signsIn 22 = .ok (.land, 1) := by decide +kernel
theorem dX4_signsIn_23 : decode cX4_signsIn 23 = .ok (.lstore 5, 2) := by decide +kernel
theorem dX4_signsIn_25 : decode cX4_signsIn 25 = .ok (.lload 5, 2) := by decide +kernel
theorem dX4_signsIn_27 : decode cX4_signsIn 27 = .ok (.ldc2_w 196, 3) := by decide +kernel
theorem dX4_signsIn_30 : decode cX4_signsIn 30 = .ok (.lcmp, 1) := by decide +kernel
theorem dX4_signsIn_31 : decode cX4_signsIn 31 = .ok (.ifCond .lt 12, 3) := by decide +kernel
theorem dX4_signsIn_34 : decode cX4_signsIn 34 = .ok (.lload 5, 2) := by decide +kernel
theorem dX4_signsIn_36 : decode cX4_signsIn 36 = .ok (.ldc2_w 198, 3) := by decide +kernel
theorem dX4_signsIn_39 : decode cX4_signsIn 39 = .ok (.lcmp, 1) := by decide +kernel
theorem dX4_signsIn_40 : decode cX4_signsIn 40 = .ok (.ifCond .le 6, 3) := by decide +kernel
theorem dX4_signsIn_43 : decode cX4_signsIn 43 = .ok (.bipush (-2), 2) := by decide +kernel
theorem dX4_signsIn_45 : decode cX4_signsIn 45 = .ok (.ireturn, 1) := by decide +kernel
theorem dX4_signsIn_46 : decode cX4_signsIn 46 = .ok (.lload_n 2, 1) := by decide +kernel
theorem dX4_signsIn_47 : decode cX4_signsIn 47 = .ok (.bipush 8, 2) := by decide +kernel
theorem dX4_signsIn_49 : decode cX4_signsIn 49 = .ok (.lushr, 1) := by decide +kernel
theorem dX4_signsIn_50 : decode cX4_signsIn 50 = .ok (.lstore_n 2, 1) := by decide +kernel
theorem dX4_signsIn_51 : decode cX4_signsIn 51 = .ok (.iinc 4 1, 3) := by decide +kernel
theorem dX4_signsIn_54 : decode cX4_signsIn 54 = .ok (.goto (-49), 3) := by decide +kernel
theorem dX4_signsIn_57 : decode cX4_signsIn 57 = .ok (.iload 4, 2) := by decide +kernel
theorem dX4_signsIn_59 : decode cX4_signsIn 59 = .ok (.ireturn, 1) := by decide +kernel
theorem dX4_at_0 : decode cX4_at 0 = .ok (.iload_n 1, 1) := by decide +kernel
theorem dX4_at_1 : decode cX4_at 1 = .ok (.ifCond .lt 15, 3) := by decide +kernel
theorem dX4_at_4 : decode cX4_at 4 = .ok (.iload_n 1, 1) := by decide +kernel
theorem dX4_at_5 : decode cX4_at 5 = .ok (.aload_n 0, 1) := by decide +kernel
theorem dX4_at_6 : decode cX4_at 6 = .ok (.arraylength, 1) := by decide +kernel
theorem dX4_at_7 : decode cX4_at 7 = .ok (.if_icmp .ge 9, 3) := by decide +kernel
theorem dX4_at_10 : decode cX4_at 10 = .ok (.aload_n 0, 1) := by decide +kernel
theorem dX4_at_11 : decode cX4_at 11 = .ok (.iload_n 1, 1) := by decide +kernel
theorem dX4_at_12 : decode cX4_at 12 = .ok (.iaload, 1) := by decide +kernel
theorem dX4_at_13 : decode cX4_at 13 = .ok (.goto 4, 3) := by decide +kernel
theorem dX4_at_16 : decode cX4_at 16 = .ok (.iconst 0, 1) := by decide +kernel
theorem dX4_at_17 : decode cX4_at 17 = .ok (.ireturn, 1) := by decide +kernel
theorem dX4_lay_0 : decode cX4_lay 0 = .ok (.iload_n 1, 1) := by decide +kernel
theorem dX4_lay_1 : decode cX4_lay 1 = .ok (.ifCond .lt 13, 3) := by decide +kernel
theorem dX4_lay_4 : decode cX4_lay 4 = .ok (.iload_n 1, 1) := by decide +kernel
theorem dX4_lay_5 : decode cX4_lay 5 = .ok (.aload_n 0, 1) := by decide +kernel
theorem dX4_lay_6 : decode cX4_lay 6 = .ok (.arraylength, 1) := by decide +kernel
theorem dX4_lay_7 : decode cX4_lay 7 = .ok (.if_icmp .ge 7, 3) := by decide +kernel
theorem dX4_lay_10 : decode cX4_lay 10 = .ok (.aload_n 0, 1) := by decide +kernel
theorem dX4_lay_11 : decode cX4_lay 11 = .ok (.iload_n 1, 1) := by decide +kernel
theorem dX4_lay_12 : decode cX4_lay 12 = .ok (.iload_n 2, 1) := by decide +kernel
theorem dX4_lay_13 : decode cX4_lay 13 = .ok (.iastore, 1) := by decide +kernel
theorem dX4_lay_14 : decode cX4_lay 14 = .ok (.return_, 1) := by decide +kernel
theorem dX4_copyRow_0 : decode cX4_copyRow 0 = .ok (.aload_n 0, 1) := by decide +kernel
theorem dX4_copyRow_1 : decode cX4_copyRow 1 = .ok (.iconst 0, 1) := by decide +kernel
theorem dX4_copyRow_2 : decode cX4_copyRow 2 = .ok (.aload_n 1, 1) := by decide +kernel
theorem dX4_copyRow_3 : decode cX4_copyRow 3 = .ok (.iconst 0, 1) := by decide +kernel
theorem dX4_copyRow_4 : decode cX4_copyRow 4 = .ok (.aload_n 0, 1) := by decide +kernel
theorem dX4_copyRow_5 : decode cX4_copyRow 5 = .ok (.arraylength, 1) := by decide +kernel
theorem dX4_copyRow_6 : decode cX4_copyRow 6 = .ok (.aload_n 1, 1) := by decide +kernel
theorem dX4_copyRow_7 : decode cX4_copyRow 7 = .ok (.arraylength, 1) := by decide +kernel
theorem dX4_copyRow_8 : decode cX4_copyRow 8 = .ok (.invokestatic 200, 3) := by decide +kernel
theorem dX4_copyRow_11 : decode cX4_copyRow 11 = .ok (.invokestatic 205, 3) := by decide +kernel
theorem dX4_copyRow_14 : decode cX4_copyRow 14 = .ok (.return_, 1) := by decide +kernel
theorem dJ9_floorMod_7cf53_0 : decode cJ9_floorMod_7cf53 0 = .ok (.iload_n 0, 1) := by decide +kernel
theorem dJ9_floorMod_7cf53_1 : decode cJ9_floorMod_7cf53 1 = .ok (.iload_n 1, 1) := by decide +kernel
theorem dJ9_floorMod_7cf53_2 : decode cJ9_floorMod_7cf53 2 = .ok (.irem, 1) := by decide +kernel
theorem dJ9_floorMod_7cf53_3 : decode cJ9_floorMod_7cf53 3 = .ok (.istore_n 2, 1) := by decide +kernel
theorem dJ9_floorMod_7cf53_4 : decode cJ9_floorMod_7cf53 4 = .ok (.iload_n 0, 1) := by decide +kernel
theorem dJ9_floorMod_7cf53_5 : decode cJ9_floorMod_7cf53 5 = .ok (.iload_n 1, 1) := by decide +kernel
theorem dJ9_floorMod_7cf53_6 : decode cJ9_floorMod_7cf53 6 = .ok (.ixor, 1) := by decide +kernel
theorem dJ9_floorMod_7cf53_7 : decode cJ9_floorMod_7cf53 7 = .ok (.ifCond .ge 11, 3) := by decide +kernel
theorem dJ9_floorMod_7cf53_10 : decode cJ9_floorMod_7cf53 10 = .ok (.iload_n 2, 1) := by decide +kernel
theorem dJ9_floorMod_7cf53_11 : decode cJ9_floorMod_7cf53 11 = .ok (.ifCond .eq 7, 3) := by decide +kernel
theorem dJ9_floorMod_7cf53_14 : decode cJ9_floorMod_7cf53 14 = .ok (.iload_n 2, 1) := by decide +kernel
theorem dJ9_floorMod_7cf53_15 : decode cJ9_floorMod_7cf53 15 = .ok (.iload_n 1, 1) := by decide +kernel
theorem dJ9_floorMod_7cf53_16 : decode cJ9_floorMod_7cf53 16 = .ok (.iadd, 1) := by decide +kernel
theorem dJ9_floorMod_7cf53_17 : decode cJ9_floorMod_7cf53 17 = .ok (.ireturn, 1) := by decide +kernel
theorem dJ9_floorMod_7cf53_18 : decode cJ9_floorMod_7cf53 18 = .ok (.iload_n 2, 1) := by decide +kernel
theorem dJ9_floorMod_7cf53_19 : decode cJ9_floorMod_7cf53 19 = .ok (.ireturn, 1) := by decide +kernel
theorem dJ9_abs_0f7a4_0 : decode cJ9_abs_0f7a4 0 = .ok (.iload_n 0, 1) := by decide +kernel
theorem dJ9_abs_0f7a4_1 : decode cJ9_abs_0f7a4 1 = .ok (.ifCond .ge 8, 3) := by decide +kernel
theorem dJ9_abs_0f7a4_4 : decode cJ9_abs_0f7a4 4 = .ok (.iload_n 0, 1) := by decide +kernel
theorem dJ9_abs_0f7a4_5 : decode cJ9_abs_0f7a4 5 = .ok (.ineg, 1) := by decide +kernel
theorem dJ9_abs_0f7a4_6 : decode cJ9_abs_0f7a4 6 = .ok (.goto 4, 3) := by decide +kernel
theorem dJ9_abs_0f7a4_9 : decode cJ9_abs_0f7a4 9 = .ok (.iload_n 0, 1) := by decide +kernel
theorem dJ9_abs_0f7a4_10 : decode cJ9_abs_0f7a4 10 = .ok (.ireturn, 1) := by decide +kernel
theorem dJ9_max_7cf53_0 : decode cJ9_max_7cf53 0 = .ok (.iload_n 0, 1) := by decide +kernel
theorem dJ9_max_7cf53_1 : decode cJ9_max_7cf53 1 = .ok (.iload_n 1, 1) := by decide +kernel
theorem dJ9_max_7cf53_2 : decode cJ9_max_7cf53 2 = .ok (.if_icmp .lt 7, 3) := by decide +kernel
theorem dJ9_max_7cf53_5 : decode cJ9_max_7cf53 5 = .ok (.iload_n 0, 1) := by decide +kernel
theorem dJ9_max_7cf53_6 : decode cJ9_max_7cf53 6 = .ok (.goto 4, 3) := by decide +kernel
theorem dJ9_max_7cf53_9 : decode cJ9_max_7cf53 9 = .ok (.iload_n 1, 1) := by decide +kernel
theorem dJ9_max_7cf53_10 : decode cJ9_max_7cf53 10 = .ok (.ireturn, 1) := by decide +kernel
theorem dJ9_min_7cf53_0 : decode cJ9_min_7cf53 0 = .ok (.iload_n 0, 1) := by decide +kernel
theorem dJ9_min_7cf53_1 : decode cJ9_min_7cf53 1 = .ok (.iload_n 1, 1) := by decide +kernel
theorem dJ9_min_7cf53_2 : decode cJ9_min_7cf53 2 = .ok (.if_icmp .gt 7, 3) := by decide +kernel
theorem dJ9_min_7cf53_5 : decode cJ9_min_7cf53 5 = .ok (.iload_n 0, 1) := by decide +kernel
theorem dJ9_min_7cf53_6 : decode cJ9_min_7cf53 6 = .ok (.goto 4, 3) := by decide +kernel
theorem dJ9_min_7cf53_9 : decode cJ9_min_7cf53 9 = .ok (.iload_n 1, 1) := by decide +kernel
theorem dJ9_min_7cf53_10 : decode cJ9_min_7cf53 10 = .ok (.ireturn, 1) := by decide +kernel
theorem dJ7_fill_53178_0 : decode cJ7_fill_53178 0 = .ok (.iconst 0, 1) := by decide +kernel
theorem dJ7_fill_53178_1 : decode cJ7_fill_53178 1 = .ok (.istore_n 2, 1) := by decide +kernel
theorem dJ7_fill_53178_2 : decode cJ7_fill_53178 2 = .ok (.aload_n 0, 1) := by decide +kernel
theorem dJ7_fill_53178_3 : decode cJ7_fill_53178 3 = .ok (.arraylength, 1) := by decide +kernel
theorem dJ7_fill_53178_4 : decode cJ7_fill_53178 4 = .ok (.istore_n 3, 1) := by decide +kernel
theorem dJ7_fill_53178_5 : decode cJ7_fill_53178 5 = .ok (.iload_n 2, 1) := by decide +kernel
theorem dJ7_fill_53178_6 : decode cJ7_fill_53178 6 = .ok (.iload_n 3, 1) := by decide +kernel
theorem dJ7_fill_53178_7 : decode cJ7_fill_53178 7 = .ok (.if_icmp .ge 13, 3) := by decide +kernel
theorem dJ7_fill_53178_10 : decode cJ7_fill_53178 10 = .ok (.aload_n 0, 1) := by decide +kernel
theorem dJ7_fill_53178_11 : decode cJ7_fill_53178 11 = .ok (.iload_n 2, 1) := by decide +kernel
theorem dJ7_fill_53178_12 : decode cJ7_fill_53178 12 = .ok (.iload_n 1, 1) := by decide +kernel
theorem dJ7_fill_53178_13 : decode cJ7_fill_53178 13 = .ok (.iastore, 1) := by decide +kernel
theorem dJ7_fill_53178_14 : decode cJ7_fill_53178 14 = .ok (.iinc 2 1, 3) := by decide +kernel
theorem dJ7_fill_53178_17 : decode cJ7_fill_53178 17 = .ok (.goto (-12), 3) := by decide +kernel
theorem dJ7_fill_53178_20 : decode cJ7_fill_53178 20 = .ok (.return_, 1) := by decide +kernel
theorem dL_cell_0 : decode cL_cell 0 = .ok (.iload_n 1, 1) := by decide +kernel
theorem dL_cell_1 : decode cL_cell 1 = .ok (.aload_n 0, 1) := by decide +kernel
theorem dL_cell_2 : decode cL_cell 2 = .ok (.arraylength, 1) := by decide +kernel
theorem dL_cell_3 : decode cL_cell 3 = .ok (.if_icmp .ge 9, 3) := by decide +kernel
theorem dL_cell_6 : decode cL_cell 6 = .ok (.aload_n 0, 1) := by decide +kernel
theorem dL_cell_7 : decode cL_cell 7 = .ok (.iload_n 1, 1) := by decide +kernel
theorem dL_cell_8 : decode cL_cell 8 = .ok (.iaload, 1) := by decide +kernel
theorem dL_cell_9 : decode cL_cell 9 = .ok (.goto 11, 3) := by decide +kernel
theorem dL_cell_12 : decode cL_cell 12 = .ok (.ldc 7, 2) := by decide +kernel
theorem dL_cell_14 : decode cL_cell 14 = .ok (.iload_n 1, 1) := by decide +kernel
theorem dL_cell_15 : decode cL_cell 15 = .ok (.sipush 1373, 3) := by decide +kernel
theorem dL_cell_18 : decode cL_cell 18 = .ok (.iadd, 1) := by decide +kernel
theorem dL_cell_19 : decode cL_cell 19 = .ok (.imul, 1) := by decide +kernel
theorem dL_cell_20 : decode cL_cell 20 = .ok (.ireturn, 1) := by decide +kernel
theorem dL_up_0 : decode cL_up 0 = .ok (.iload_n 0, 1) := by decide +kernel
theorem dL_up_1 : decode cL_up 1 = .ok (.ldc 8, 2) := by decide +kernel
theorem dL_up_3 : decode cL_up 3 = .ok (.iand, 1) := by decide +kernel
theorem dL_up_4 : decode cL_up 4 = .ok (.iload_n 1, 1) := by decide +kernel
theorem dL_up_5 : decode cL_up 5 = .ok (.irem, 1) := by decide +kernel
theorem dL_up_6 : decode cL_up 6 = .ok (.ireturn, 1) := by decide +kernel
set_option maxRecDepth 20000 in
theorem ggL_number_X4_put : GoodIn wsL_number wsX4_put := goodIn_r _ [5, 6, 7, 8, 9, 4, 10, 11, 12, 13, 14, 15, 16, 17, 18, 19, 20, 21, 22, 23, 24, 25, 26, 27, 28, 29, 30, 31] rfl (by decide +kernel)
set_option maxRecDepth 20000 in
theorem gL_number_X4_put : GoodIn wsL_number (wsV RL 9 RX4 yX4_put wsX4_put) := goodIn_app (goodIn_of _ (by decide +kernel)) ggL_number_X4_put
theorem dL_number_0 : decode cL_number 0 = .ok (.iload_n 1, 1) := by decide +kernel
theorem dL_number_1 : decode cL_number 1 = .ok (.bipush 100, 2) := by decide +kernel
theorem dL_number_3 : decode cL_number 3 = .ok (.if_icmp .lt 18, 3) := by decide +kernel
theorem dL_number_6 : decode cL_number 6 = .ok (.aload_n 0, 1) := by decide +kernel
theorem dL_number_7 : decode cL_number 7 = .ok (.bipush 48, 2) := by decide +kernel
theorem dL_number_9 : decode cL_number 9 = .ok (.iload_n 1, 1) := by decide +kernel
theorem dL_number_10 : decode cL_number 10 = .ok (.bipush 100, 2) := by decide +kernel
theorem dL_number_12 : decode cL_number 12 = .ok (.idiv, 1) := by decide +kernel
theorem dL_number_13 : decode cL_number 13 = .ok (.iadd, 1) := by decide +kernel
theorem dL_number_14 : decode cL_number 14 = .ok (.i2l, 1) := by decide +kernel
theorem dL_number_15 : decode cL_number 15 = .ok (.invokevirtual 9, 3) := by decide +kernel
theorem dL_number_18 : decode cL_number 18 = .ok (.ifCond .le 46, 3) := by decide +kernel
theorem dL_number_21 : decode cL_number 21 = .ok (.iload_n 1, 1) := by decide +kernel
theorem dL_number_22 : decode cL_number 22 = .ok (.bipush 10, 2) := by decide +kernel
theorem dL_number_24 : decode cL_number 24 = .ok (.if_icmp .lt 21, 3) := by decide +kernel
theorem dL_number_27 : decode cL_number 27 = .ok (.aload_n 0, 1) := by decide +kernel
theorem dL_number_28 : decode cL_number 28 = .ok (.bipush 48, 2) := by decide +kernel
theorem dL_number_30 : decode cL_number 30 = .ok (.iload_n 1, 1) := by decide +kernel
theorem dL_number_31 : decode cL_number 31 = .ok (.bipush 10, 2) := by decide +kernel
theorem dL_number_33 : decode cL_number 33 = .ok (.idiv, 1) := by decide +kernel
theorem dL_number_34 : decode cL_number 34 = .ok (.bipush 10, 2) := by decide +kernel
theorem dL_number_36 : decode cL_number 36 = .ok (.irem, 1) := by decide +kernel
theorem dL_number_37 : decode cL_number 37 = .ok (.iadd, 1) := by decide +kernel
theorem dL_number_38 : decode cL_number 38 = .ok (.i2l, 1) := by decide +kernel
theorem dL_number_39 : decode cL_number 39 = .ok (.invokevirtual 9, 3) := by decide +kernel
theorem dL_number_42 : decode cL_number 42 = .ok (.ifCond .le 22, 3) := by decide +kernel
theorem dL_number_45 : decode cL_number 45 = .ok (.aload_n 0, 1) := by decide +kernel
theorem dL_number_46 : decode cL_number 46 = .ok (.bipush 48, 2) := by decide +kernel
theorem dL_number_48 : decode cL_number 48 = .ok (.iload_n 1, 1) := by decide +kernel
theorem dL_number_49 : decode cL_number 49 = .ok (.bipush 10, 2) := by decide +kernel
theorem dL_number_51 : decode cL_number 51 = .ok (.irem, 1) := by decide +kernel
theorem dL_number_52 : decode cL_number 52 = .ok (.iadd, 1) := by decide +kernel
theorem dL_number_53 : decode cL_number 53 = .ok (.i2l, 1) := by decide +kernel
theorem dL_number_54 : decode cL_number 54 = .ok (.invokevirtual 9, 3) := by decide +kernel
theorem dL_number_57 : decode cL_number 57 = .ok (.ifCond .le 7, 3) := by decide +kernel
theorem dL_number_60 : decode cL_number 60 = .ok (.iconst 1, 1) := by decide +kernel
theorem dL_number_61 : decode cL_number 61 = .ok (.goto 4, 3) := by decide +kernel
theorem dL_number_64 : decode cL_number 64 = .ok (.iconst 0, 1) := by decide +kernel
theorem dL_number_65 : decode cL_number 65 = .ok (.ireturn, 1) := by decide +kernel
set_option maxRecDepth 20000 in
theorem ggL_isPadded_X4_wipe : GoodIn wsL_isPadded wsX4_wipe := goodIn_r _ [8, 9, 10, 11, 12, 13, 14, 15, 16, 256, 257, 258, 259, 260, 261, 262, 263] rfl (by decide +kernel)
set_option maxRecDepth 20000 in
theorem gL_isPadded_X4_wipe : GoodIn wsL_isPadded (wsV RL 15 RX4 yX4_wipe wsX4_wipe) := goodIn_app (goodIn_of _ (by decide +kernel)) ggL_isPadded_X4_wipe
set_option maxRecDepth 20000 in
theorem ggL_isPadded_X4_put : GoodIn wsL_isPadded wsX4_put := goodIn_r _ [20, 9, 10, 21, 22, 7, 23, 24, 25, 26, 27, 28, 29, 14, 30, 31, 16, 32, 33, 34, 256, 257, 258, 259, 260, 261, 262, 263] rfl (by decide +kernel)
set_option maxRecDepth 20000 in
theorem gL_isPadded_X4_put : GoodIn wsL_isPadded (wsV RL 9 RX4 yX4_put wsX4_put) := goodIn_app (goodIn_of _ (by decide +kernel)) ggL_isPadded_X4_put
set_option maxRecDepth 20000 in
theorem ggL_isPadded_L_number : GoodIn wsL_isPadded wsL_number := goodIn_r _ [38, 17, 18, 19, 7, 20, 9, 10, 21, 22, 23, 24, 25, 26, 27, 28, 29, 14, 30, 31, 16, 32, 33, 34, 256, 257, 258, 259, 260, 261, 262, 263] rfl (by decide +kernel)
set_option maxRecDepth 20000 in
theorem gL_isPadded_L_number : GoodIn wsL_isPadded (va_wsS RL 23 yL_number wsL_number) := goodIn_app (goodIn_of _ (by decide +kernel)) ggL_isPadded_L_number
set_option maxRecDepth 20000 in
theorem ggL_isPadded_X4_fault : GoodIn wsL_isPadded wsX4_fault := goodIn_r _ [42, 43, 9, 44, 45, 46, 47, 48, 49, 50, 51, 52, 53, 54, 14, 55, 31, 56, 7, 57, 58, 59, 60, 61, 62, 63, 64, 65, 66, 67, 33, 34, 68, 69, 70, 71, 72, 73, 74, 75, 76, 77, 78, 79, 80, 81, 82, 83, 84, 85, 86, 87, 88, 89, 90, 256, 257, 258, 259, 260, 261, 264, 265, 266, 267, 268, 262, 263] rfl (by decide +kernel)
set_option maxRecDepth 20000 in
theorem gL_isPadded_X4_fault : GoodIn wsL_isPadded (wsV RL 31 RX4 yX4_fault wsX4_fault) := goodIn_app (goodIn_of _ (by decide +kernel)) ggL_isPadded_X4_fault
set_option maxRecDepth 20000 in
theorem ggL_isPadded_X4_run : GoodIn wsL_isPadded wsX4_run := goodIn_r _ [94, 43, 9, 44, 45, 46, 47, 48, 49, 50, 51, 52, 53, 54, 14, 55, 31, 56, 7, 57, 58, 59, 60, 61, 62, 63, 64, 65, 66, 67, 33, 34, 68, 69, 70, 71, 72, 73, 74, 75, 76, 77, 78, 79, 80, 81, 82, 83, 84, 85, 86, 87, 88, 89, 90, 95, 96, 97, 98, 99, 100, 101, 102, 103, 104, 105, 106, 107, 108, 109, 110, 111, 112, 113, 114, 115, 116, 117, 118, 119, 120, 121, 122, 123, 124, 125, 126, 127, 128, 129, 130, 131, 132, 133, 134, 135, 136, 137, 138, 139, 140, 141, 142, 143, 144, 145, 146, 147, 148, 149, 150, 151, 152, 153, 154, 155, 156, 157, 158, 159, 160, 161, 162, 163, 164, 165, 166, 167, 168, 169, 170, 171, 172, 173, 174, 175, 176, 177, 178, 179, 180, 181, 182, 183, 184, 185, 186, 187, 188, 189, 190, 191, 192, 193, 194, 195, 196, 197, 198, 199, 200, 201, 202, 203, 204, 205, 206, 207, 208, 209, 210, 211, 212, 213, 214, 215, 216, 217, 218, 219, 220, 221, 222, 223, 224, 225, 11, 12, 13, 15, 16, 226, 227, 228, 229, 230, 231, 232, 233, 234, 235, 236, 237, 238, 239, 240, 241, 242, 243, 244, 245, 246, 247, 248, 249, 250, 251, 252, 253, 254, 255, 256, 257, 258, 259, 260, 261, 264, 265, 266, 267, 268, 262, 263, 269, 270, 271, 272, 273, 274, 275, 276, 277, 278, 279, 280] rfl (by decide +kernel)
set_option maxRecDepth 20000 in
theorem gL_isPadded_X4_run : GoodIn wsL_isPadded (wsV RL 34 RX4 yX4_run wsX4_run) := goodIn_app (goodIn_of _ (by decide +kernel)) ggL_isPadded_X4_run
theorem dL_isPadded_0 : decode cL_isPadded 0 = .ok (.aload_n 0, 1) := by decide +kernel
theorem dL_isPadded_1 : decode cL_isPadded 1 = .ok (.invokevirtual 15, 3) := by decide +kernel
theorem dL_isPadded_4 : decode cL_isPadded 4 = .ok (.ifCond .lt 76, 3) := by decide +kernel
theorem dL_isPadded_7 : decode cL_isPadded 7 = .ok (.aload_n 0, 1) := by decide +kernel
theorem dL_isPadded_8 : decode cL_isPadded 8 = .ok (.iload_n 2, 1) := by decide +kernel
theorem dL_isPadded_9 : decode cL_isPadded 9 = .ok (.ifCond .ge 9, 3) := by decide +kernel
theorem dL_isPadded_12 : decode cL_isPadded 12 = .ok (.ldc2_w 19, 3) := by decide +kernel
theorem dL_isPadded_15 : decode cL_isPadded 15 = .ok (.goto 6, 3) := by decide +kernel
theorem dL_isPadded_18 : decode cL_isPadded 18 = .ok (.ldc2_w 21, 3) := by decide +kernel
theorem dL_isPadded_21 : decode cL_isPadded 21 = .ok (.invokevirtual 9, 3) := by decide +kernel
theorem dL_isPadded_24 : decode cL_isPadded 24 = .ok (.ifCond .le 56, 3) := by decide +kernel
theorem dL_isPadded_27 : decode cL_isPadded 27 = .ok (.aload_n 0, 1) := by decide +kernel
theorem dL_isPadded_28 : decode cL_isPadded 28 = .ok (.iload_n 1, 1) := by decide +kernel
theorem dL_isPadded_29 : decode cL_isPadded 29 = .ok (.invokestatic 23, 3) := by decide +kernel
theorem dL_isPadded_32 : decode cL_isPadded 32 = .ok (.ifCond .eq 48, 3) := by decide +kernel
theorem dL_isPadded_35 : decode cL_isPadded 35 = .ok (.iload_n 2, 1) := by decide +kernel
theorem dL_isPadded_36 : decode cL_isPadded 36 = .ok (.ifCond .lt 21, 3) := by decide +kernel
theorem dL_isPadded_39 : decode cL_isPadded 39 = .ok (.aload_n 0, 1) := by decide +kernel
theorem dL_isPadded_40 : decode cL_isPadded 40 = .ok (.ldc2_w 29, 3) := by decide +kernel
theorem dL_isPadded_43 : decode cL_isPadded 43 = .ok (.invokevirtual 9, 3) := by decide +kernel
theorem dL_isPadded_46 : decode cL_isPadded 46 = .ok (.ifCond .le 34, 3) := by decide +kernel
theorem dL_isPadded_49 : decode cL_isPadded 49 = .ok (.aload_n 0, 1) := by decide +kernel
theorem dL_isPadded_50 : decode cL_isPadded 50 = .ok (.iload_n 2, 1) := by decide +kernel
theorem dL_isPadded_51 : decode cL_isPadded 51 = .ok (.invokestatic 23, 3) := by decide +kernel
theorem dL_isPadded_54 : decode cL_isPadded 54 = .ok (.ifCond .eq 26, 3) := by decide +kernel
theorem dL_isPadded_57 : decode cL_isPadded 57 = .ok (.aload_n 0, 1) := by decide +kernel
theorem dL_isPadded_58 : decode cL_isPadded 58 = .ok (.invokevirtual 31, 3) := by decide +kernel
theorem dL_isPadded_61 : decode cL_isPadded 61 = .ok (.bipush (-6), 2) := by decide +kernel
theorem dL_isPadded_63 : decode cL_isPadded 63 = .ok (.if_icmp .ne 17, 3) := by decide +kernel
theorem dL_isPadded_66 : decode cL_isPadded 66 = .ok (.aload_n 0, 1) := by decide +kernel
theorem dL_isPadded_67 : decode cL_isPadded 67 = .ok (.iload 4, 2) := by decide +kernel
theorem dL_isPadded_69 : decode cL_isPadded 69 = .ok (.invokevirtual 34, 3) := by decide +kernel
theorem dL_isPadded_72 : decode cL_isPadded 72 = .ok (.iload_n 3, 1) := by decide +kernel
theorem dL_isPadded_73 : decode cL_isPadded 73 = .ok (.if_icmp .ne 7, 3) := by decide +kernel
theorem dL_isPadded_76 : decode cL_isPadded 76 = .ok (.iconst 1, 1) := by decide +kernel
theorem dL_isPadded_77 : decode cL_isPadded 77 = .ok (.goto 4, 3) := by decide +kernel
theorem dL_isPadded_80 : decode cL_isPadded 80 = .ok (.iconst 0, 1) := by decide +kernel
theorem dL_isPadded_81 : decode cL_isPadded 81 = .ok (.ireturn, 1) := by decide +kernel
set_option maxRecDepth 20000 in
theorem ggL_isWritten_X4_sector : GoodIn wsL_isWritten wsX4_sector := goodIn_r _ [5, 6, 7, 8, 4, 9, 10, 11, 12, 13, 14, 15, 16, 17, 18, 19, 20, 21, 22, 23, 24, 25, 26, 27, 28, 29, 30, 31, 32, 33, 34, 35, 36, 37, 38, 39, 40, 41, 42, 43, 44, 45, 46, 47, 48, 49, 50, 51, 52, 211, 212, 213, 214, 215, 216, 217, 218, 219, 220, 221, 222, 223, 224, 225] rfl (by decide +kernel)
set_option maxRecDepth 20000 in
theorem gL_isWritten_X4_sector : GoodIn wsL_isWritten (wsV RL 38 RX4 yX4_sector wsX4_sector) := goodIn_app (goodIn_of _ (by decide +kernel)) ggL_isWritten_X4_sector
set_option maxRecDepth 20000 in
theorem ggL_isWritten_X4_count : GoodIn wsL_isWritten wsX4_count := goodIn_r _ [56, 57, 6, 58, 59, 60, 61, 62, 63, 64, 65, 49, 50, 13, 51, 52, 16, 4, 17, 66, 67, 68, 69, 70, 71, 72, 73, 74, 75, 76, 77, 78, 79, 80, 11, 12, 14, 15, 81, 82, 83, 19, 20, 43, 44, 45, 46, 25, 84, 85, 86, 87, 88, 40, 41, 42, 47, 27, 28, 29, 30, 48, 89, 90, 91, 92, 93, 94, 95, 96, 35, 97, 98, 99, 100, 101, 102, 103, 104, 105, 106, 107, 108, 211, 212, 213, 214, 215, 216, 217, 218, 219, 220, 221, 222, 223, 224, 225, 226, 227, 228, 229, 230] rfl (by decide +kernel)
set_option maxRecDepth 20000 in
theorem gL_isWritten_X4_count : GoodIn wsL_isWritten (wsV RL 42 RX4 yX4_count wsX4_count) := goodIn_app (goodIn_of _ (by decide +kernel)) ggL_isWritten_X4_count
set_option maxRecDepth 20000 in
theorem ggL_isWritten_X4_write : GoodIn wsL_isWritten wsX4_write := goodIn_r _ [112, 7, 8, 4, 9, 113, 114, 115, 116, 117, 6, 118, 119, 120, 13, 121, 52, 25, 30, 35, 15, 75, 122, 70, 123, 124, 125, 126, 127, 107, 128, 129, 130, 131, 132, 133, 134, 135, 136, 137, 138, 139, 140, 80, 11, 12, 14, 16, 17, 141, 32, 33, 34, 48, 49, 50, 51, 142, 72, 73, 74, 143, 144, 145, 146, 19, 20, 147, 148, 149, 150, 151, 152, 153, 154, 155, 156, 157, 158, 159, 160, 161, 162, 163, 164, 165, 166, 167, 168, 37, 38, 169, 170, 171, 172, 173, 174, 175, 176, 177, 43, 44, 45, 46, 47, 27, 28, 29, 178, 179, 180, 181, 182, 183, 184, 185, 63, 186, 187, 188, 189, 190, 191, 192, 193, 194, 195, 196, 197, 198, 199, 200, 201, 202, 203, 204, 205, 206, 207, 208, 209, 210, 211, 212, 213, 214, 215, 216, 217, 218, 219, 220, 221, 222, 223, 224, 225, 228, 229, 230] rfl (by decide +kernel)
set_option maxRecDepth 20000 in
theorem gL_isWritten_X4_write : GoodIn wsL_isWritten (wsV RL 46 RX4 yX4_write wsX4_write) := goodIn_app (goodIn_of _ (by decide +kernel)) ggL_isWritten_X4_write
theorem dL_isWritten_0 : decode cL_isWritten 0 = .ok (.aload_n 0, 1) := by decide +kernel
theorem dL_isWritten_1 : decode cL_isWritten 1 = .ok (.iload_n 1, 1) := by decide +kernel
theorem dL_isWritten_2 : decode cL_isWritten 2 = .ok (.iconst 0, 1) := by decide +kernel
theorem dL_isWritten_3 : decode cL_isWritten 3 = .ok (.invokevirtual 38, 3) := by decide +kernel
theorem dL_isWritten_6 : decode cL_isWritten 6 = .ok (.istore_n 3, 1) := by decide +kernel
theorem dL_isWritten_7 : decode cL_isWritten 7 = .ok (.aload_n 0, 1) := by decide +kernel
theorem dL_isWritten_8 : decode cL_isWritten 8 = .ok (.iload_n 1, 1) := by decide +kernel
theorem dL_isWritten_9 : decode cL_isWritten 9 = .ok (.iconst 4, 1) := by decide +kernel
theorem dL_isWritten_10 : decode cL_isWritten 10 = .ok (.invokevirtual 38, 3) := by decide +kernel
theorem dL_isWritten_13 : decode cL_isWritten 13 = .ok (.aload_n 0, 1) := by decide +kernel
theorem dL_isWritten_14 : decode cL_isWritten 14 = .ok (.iconst 3, 1) := by decide +kernel
theorem dL_isWritten_15 : decode cL_isWritten 15 = .ok (.invokevirtual 42, 3) := by decide +kernel
theorem dL_isWritten_18 : decode cL_isWritten 18 = .ok (.if_icmp .lt 16, 3) := by decide +kernel
theorem dL_isWritten_21 : decode cL_isWritten 21 = .ok (.aload_n 0, 1) := by decide +kernel
theorem dL_isWritten_22 : decode cL_isWritten 22 = .ok (.bipush 8, 2) := by decide +kernel
theorem dL_isWritten_24 : decode cL_isWritten 24 = .ok (.invokevirtual 42, 3) := by decide +kernel
theorem dL_isWritten_27 : decode cL_isWritten 27 = .ok (.ifCond .le 7, 3) := by decide +kernel
theorem dL_isWritten_30 : decode cL_isWritten 30 = .ok (.iconst 1, 1) := by decide +kernel
theorem dL_isWritten_31 : decode cL_isWritten 31 = .ok (.goto 4, 3) := by decide +kernel
theorem dL_isWritten_34 : decode cL_isWritten 34 = .ok (.iconst 0, 1) := by decide +kernel
theorem dL_isWritten_35 : decode cL_isWritten 35 = .ok (.istore 4, 2) := by decide +kernel
theorem dL_isWritten_37 : decode cL_isWritten 37 = .ok (.aload_n 0, 1) := by decide +kernel
theorem dL_isWritten_38 : decode cL_isWritten 38 = .ok (.bipush 8, 2) := by decide +kernel
theorem dL_isWritten_40 : decode cL_isWritten 40 = .ok (.invokevirtual 42, 3) := by decide +kernel
theorem dL_isWritten_43 : decode cL_isWritten 43 = .ok (.istore 5, 2) := by decide +kernel
theorem dL_isWritten_45 : decode cL_isWritten 45 = .ok (.aload_n 0, 1) := by decide +kernel
theorem dL_isWritten_46 : decode cL_isWritten 46 = .ok (.bipush 11, 2) := by decide +kernel
theorem dL_isWritten_48 : decode cL_isWritten 48 = .ok (.invokevirtual 42, 3) := by decide +kernel
theorem dL_isWritten_51 : decode cL_isWritten 51 = .ok (.istore 6, 2) := by decide +kernel
theorem dL_isWritten_53 : decode cL_isWritten 53 = .ok (.aload_n 0, 1) := by decide +kernel
theorem dL_isWritten_54 : decode cL_isWritten 54 = .ok (.bipush 13, 2) := by decide +kernel
theorem dL_isWritten_56 : decode cL_isWritten 56 = .ok (.invokevirtual 42, 3) := by decide +kernel
theorem dL_isWritten_59 : decode cL_isWritten 59 = .ok (.aload_n 0, 1) := by decide +kernel
theorem dL_isWritten_60 : decode cL_isWritten 60 = .ok (.bipush 14, 2) := by decide +kernel
theorem dL_isWritten_62 : decode cL_isWritten 62 = .ok (.invokevirtual 42, 3) := by decide +kernel
theorem dL_isWritten_65 : decode cL_isWritten 65 = .ok (.iadd, 1) := by decide +kernel
theorem dL_isWritten_66 : decode cL_isWritten 66 = .ok (.istore 7, 2) := by decide +kernel
theorem dL_isWritten_68 : decode cL_isWritten 68 = .ok (.iload_n 1, 1) := by decide +kernel
theorem dL_isWritten_69 : decode cL_isWritten 69 = .ok (.bipush 12, 2) := by decide +kernel
theorem dL_isWritten_71 : decode cL_isWritten 71 = .ok (.iadd, 1) := by decide +kernel
theorem dL_isWritten_72 : decode cL_isWritten 72 = .ok (.sipush 192, 3) := by decide +kernel
theorem dL_isWritten_75 : decode cL_isWritten 75 = .ok (.if_icmp .ge 15, 3) := by decide +kernel
theorem dL_isWritten_78 : decode cL_isWritten 78 = .ok (.aload_n 0, 1) := by decide +kernel
theorem dL_isWritten_79 : decode cL_isWritten 79 = .ok (.iload_n 1, 1) := by decide +kernel
theorem dL_isWritten_80 : decode cL_isWritten 80 = .ok (.bipush 12, 2) := by decide +kernel
theorem dL_isWritten_82 : decode cL_isWritten 82 = .ok (.iadd, 1) := by decide +kernel
theorem dL_isWritten_83 : decode cL_isWritten 83 = .ok (.iconst 3, 1) := by decide +kernel
theorem dL_isWritten_84 : decode cL_isWritten 84 = .ok (.invokevirtual 38, 3) := by decide +kernel
theorem dL_isWritten_87 : decode cL_isWritten 87 = .ok (.goto 4, 3) := by decide +kernel
theorem dL_isWritten_90 : decode cL_isWritten 90 = .ok (.iconst 0, 1) := by decide +kernel
theorem dL_isWritten_91 : decode cL_isWritten 91 = .ok (.istore 8, 2) := by decide +kernel
theorem dL_isWritten_93 : decode cL_isWritten 93 = .ok (.iload_n 1, 1) := by decide +kernel
theorem dL_isWritten_94 : decode cL_isWritten 94 = .ok (.bipush 24, 2) := by decide +kernel
theorem dL_isWritten_96 : decode cL_isWritten 96 = .ok (.isub, 1) := by decide +kernel
theorem dL_isWritten_97 : decode cL_isWritten 97 = .ok (.ifCond .lt 15, 3) := by decide +kernel
theorem dL_isWritten_100 : decode cL_isWritten 100 = .ok (.aload_n 0, 1) := by decide +kernel
theorem dL_isWritten_101 : decode cL_isWritten 101 = .ok (.iload_n 1, 1) := by decide +kernel
theorem dL_isWritten_102 : decode cL_isWritten 102 = .ok (.bipush 24, 2) := by decide +kernel
theorem dL_isWritten_104 : decode cL_isWritten 104 = .ok (.isub, 1) := by decide +kernel
theorem dL_isWritten_105 : decode cL_isWritten 105 = .ok (.iconst 3, 1) := by decide +kernel
theorem dL_isWritten_106 : decode cL_isWritten 106 = .ok (.invokevirtual 38, 3) := by decide +kernel
theorem dL_isWritten_109 : decode cL_isWritten 109 = .ok (.goto 4, 3) := by decide +kernel
theorem dL_isWritten_112 : decode cL_isWritten 112 = .ok (.iconst 0, 1) := by decide +kernel
theorem dL_isWritten_113 : decode cL_isWritten 113 = .ok (.istore 9, 2) := by decide +kernel
theorem dL_isWritten_115 : decode cL_isWritten 115 = .ok (.iload_n 1, 1) := by decide +kernel
theorem dL_isWritten_116 : decode cL_isWritten 116 = .ok (.bipush 12, 2) := by decide +kernel
theorem dL_isWritten_118 : decode cL_isWritten 118 = .ok (.iadd, 1) := by decide +kernel
theorem dL_isWritten_119 : decode cL_isWritten 119 = .ok (.sipush 192, 3) := by decide +kernel
theorem dL_isWritten_122 : decode cL_isWritten 122 = .ok (.if_icmp .ge 31, 3) := by decide +kernel
theorem dL_isWritten_125 : decode cL_isWritten 125 = .ok (.aload_n 0, 1) := by decide +kernel
theorem dL_isWritten_126 : decode cL_isWritten 126 = .ok (.iload_n 1, 1) := by decide +kernel
theorem dL_isWritten_127 : decode cL_isWritten 127 = .ok (.bipush 12, 2) := by decide +kernel
theorem dL_isWritten_129 : decode cL_isWritten 129 = .ok (.iadd, 1) := by decide +kernel
theorem dL_isWritten_130 : decode cL_isWritten 130 = .ok (.iconst 2, 1) := by decide +kernel
theorem dL_isWritten_131 : decode cL_isWritten 131 = .ok (.invokevirtual 38, 3) := by decide +kernel
theorem dL_isWritten_134 : decode cL_isWritten 134 = .ok (.ifCond .lt 19, 3) := by decide +kernel
theorem dL_isWritten_137 : decode cL_isWritten 137 = .ok (.aload_n 0, 1) := by decide +kernel
theorem dL_isWritten_138 : decode cL_isWritten 138 = .ok (.iload_n 1, 1) := by decide +kernel
theorem dL_isWritten_139 : decode cL_isWritten 139 = .ok (.bipush 12, 2) := by decide +kernel
theorem dL_isWritten_141 : decode cL_isWritten 141 = .ok (.iadd, 1) := by decide +kernel
theorem dL_isWritten_142 : decode cL_isWritten 142 = .ok (.iconst 5, 1) := by decide +kernel
theorem dL_isWritten_143 : decode cL_isWritten 143 = .ok (.invokevirtual 38, 3) := by decide +kernel
theorem dL_isWritten_146 : decode cL_isWritten 146 = .ok (.ifCond .ne 7, 3) := by decide +kernel
theorem dL_isWritten_149 : decode cL_isWritten 149 = .ok (.iconst 1, 1) := by decide +kernel
theorem dL_isWritten_150 : decode cL_isWritten 150 = .ok (.goto 4, 3) := by decide +kernel
theorem dL_isWritten_153 : decode cL_isWritten 153 = .ok (.iconst 0, 1) := by decide +kernel
theorem dL_isWritten_154 : decode cL_isWritten 154 = .ok (.istore 10, 2) := by decide +kernel
theorem dL_isWritten_156 : decode cL_isWritten 156 = .ok (.iload_n 1, 1) := by decide +kernel
theorem dL_isWritten_157 : decode cL_isWritten 157 = .ok (.bipush 24, 2) := by decide +kernel
theorem dL_isWritten_159 : decode cL_isWritten 159 = .ok (.isub, 1) := by decide +kernel
theorem dL_isWritten_160 : decode cL_isWritten 160 = .ok (.ifCond .lt 31, 3) := by decide +kernel
theorem dL_isWritten_163 : decode cL_isWritten 163 = .ok (.aload_n 0, 1) := by decide +kernel
theorem dL_isWritten_164 : decode cL_isWritten 164 = .ok (.iload_n 1, 1) := by decide +kernel
theorem dL_isWritten_165 : decode cL_isWritten 165 = .ok (.bipush 24, 2) := by decide +kernel
theorem dL_isWritten_167 : decode cL_isWritten 167 = .ok (.isub, 1) := by decide +kernel
theorem dL_isWritten_168 : decode cL_isWritten 168 = .ok (.iconst 2, 1) := by decide +kernel
theorem dL_isWritten_169 : decode cL_isWritten 169 = .ok (.invokevirtual 38, 3) := by decide +kernel
theorem dL_isWritten_172 : decode cL_isWritten 172 = .ok (.ifCond .lt 19, 3) := by decide +kernel
theorem dL_isWritten_175 : decode cL_isWritten 175 = .ok (.aload_n 0, 1) := by decide +kernel
theorem dL_isWritten_176 : decode cL_isWritten 176 = .ok (.iload_n 1, 1) := by decide +kernel
theorem dL_isWritten_177 : decode cL_isWritten 177 = .ok (.bipush 24, 2) := by decide +kernel
theorem dL_isWritten_179 : decode cL_isWritten 179 = .ok (.isub, 1) := by decide +kernel
theorem dL_isWritten_180 : decode cL_isWritten 180 = .ok (.iconst 5, 1) := by decide +kernel
theorem dL_isWritten_181 : decode cL_isWritten 181 = .ok (.invokevirtual 38, 3) := by decide +kernel
theorem dL_isWritten_184 : decode cL_isWritten 184 = .ok (.ifCond .ne 7, 3) := by decide +kernel
theorem dL_isWritten_187 : decode cL_isWritten 187 = .ok (.iconst 1, 1) := by decide +kernel
theorem dL_isWritten_188 : decode cL_isWritten 188 = .ok (.goto 4, 3) := by decide +kernel
theorem dL_isWritten_191 : decode cL_isWritten 191 = .ok (.iconst 0, 1) := by decide +kernel
theorem dL_isWritten_192 : decode cL_isWritten 192 = .ok (.istore 11, 2) := by decide +kernel
theorem dL_isWritten_194 : decode cL_isWritten 194 = .ok (.aload_n 0, 1) := by decide +kernel
theorem dL_isWritten_195 : decode cL_isWritten 195 = .ok (.iconst 5, 1) := by decide +kernel
theorem dL_isWritten_196 : decode cL_isWritten 196 = .ok (.invokevirtual 42, 3) := by decide +kernel
theorem dL_isWritten_199 : decode cL_isWritten 199 = .ok (.istore 12, 2) := by decide +kernel
theorem dL_isWritten_201 : decode cL_isWritten 201 = .ok (.aload_n 0, 1) := by decide +kernel
theorem dL_isWritten_202 : decode cL_isWritten 202 = .ok (.bipush 6, 2) := by decide +kernel
theorem dL_isWritten_204 : decode cL_isWritten 204 = .ok (.invokevirtual 42, 3) := by decide +kernel
theorem dL_isWritten_207 : decode cL_isWritten 207 = .ok (.istore 13, 2) := by decide +kernel
theorem dL_isWritten_209 : decode cL_isWritten 209 = .ok (.aload_n 0, 1) := by decide +kernel
theorem dL_isWritten_210 : decode cL_isWritten 210 = .ok (.iload_n 1, 1) := by decide +kernel
theorem dL_isWritten_211 : decode cL_isWritten 211 = .ok (.iconst 4, 1) := by decide +kernel
theorem dL_isWritten_212 : decode cL_isWritten 212 = .ok (.invokevirtual 38, 3) := by decide +kernel
theorem dL_isWritten_215 : decode cL_isWritten 215 = .ok (.istore 14, 2) := by decide +kernel
theorem dL_isWritten_217 : decode cL_isWritten 217 = .ok (.aload_n 0, 1) := by decide +kernel
theorem dL_isWritten_218 : decode cL_isWritten 218 = .ok (.iload_n 1, 1) := by decide +kernel
theorem dL_isWritten_219 : decode cL_isWritten 219 = .ok (.iload_n 2, 1) := by decide +kernel
theorem dL_isWritten_220 : decode cL_isWritten 220 = .ok (.invokevirtual 46, 3) := by decide +kernel
theorem dL_isWritten_223 : decode cL_isWritten 223 = .ok (.istore 15, 2) := by decide +kernel
theorem dL_isWritten_225 : decode cL_isWritten 225 = .ok (.aload_n 0, 1) := by decide +kernel
theorem dL_isWritten_226 : decode cL_isWritten 226 = .ok (.iload_n 1, 1) := by decide +kernel
theorem dL_isWritten_227 : decode cL_isWritten 227 = .ok (.iconst 0, 1) := by decide +kernel
theorem dL_isWritten_228 : decode cL_isWritten 228 = .ok (.invokevirtual 38, 3) := by decide +kernel
theorem dL_isWritten_231 : decode cL_isWritten 231 = .ok (.istore 16, 2) := by decide +kernel
theorem dL_isWritten_233 : decode cL_isWritten 233 = .ok (.iload 16, 2) := by decide +kernel
theorem dL_isWritten_235 : decode cL_isWritten 235 = .ok (.iload 13, 2) := by decide +kernel
theorem dL_isWritten_237 : decode cL_isWritten 237 = .ok (.if_icmp .le 11, 3) := by decide +kernel
theorem dL_isWritten_240 : decode cL_isWritten 240 = .ok (.iload 16, 2) := by decide +kernel
theorem dL_isWritten_242 : decode cL_isWritten 242 = .ok (.iload 13, 2) := by decide +kernel
theorem dL_isWritten_244 : decode cL_isWritten 244 = .ok (.isub, 1) := by decide +kernel
theorem dL_isWritten_245 : decode cL_isWritten 245 = .ok (.goto 8, 3) := by decide +kernel
theorem dL_isWritten_248 : decode cL_isWritten 248 = .ok (.iload 13, 2) := by decide +kernel
theorem dL_isWritten_250 : decode cL_isWritten 250 = .ok (.iload 16, 2) := by decide +kernel
theorem dL_isWritten_252 : decode cL_isWritten 252 = .ok (.isub, 1) := by decide +kernel
theorem dL_isWritten_253 : decode cL_isWritten 253 = .ok (.istore 17, 2) := by decide +kernel
theorem dL_isWritten_255 : decode cL_isWritten 255 = .ok (.iload 16, 2) := by decide +kernel
theorem dL_isWritten_257 : decode cL_isWritten 257 = .ok (.bipush 16, 2) := by decide +kernel
theorem dL_isWritten_259 : decode cL_isWritten 259 = .ok (.if_icmp .ge 7, 3) := by decide +kernel
theorem dL_isWritten_262 : decode cL_isWritten 262 = .ok (.iconst 1, 1) := by decide +kernel
theorem dL_isWritten_263 : decode cL_isWritten 263 = .ok (.goto 4, 3) := by decide +kernel
theorem dL_isWritten_266 : decode cL_isWritten 266 = .ok (.iconst 0, 1) := by decide +kernel
theorem dL_isWritten_267 : decode cL_isWritten 267 = .ok (.istore 18, 2) := by decide +kernel
theorem dL_isWritten_269 : decode cL_isWritten 269 = .ok (.aload_n 0, 1) := by decide +kernel
theorem dL_isWritten_270 : decode cL_isWritten 270 = .ok (.iload_n 1, 1) := by decide +kernel
theorem dL_isWritten_271 : decode cL_isWritten 271 = .ok (.iconst 2, 1) := by decide +kernel
theorem dL_isWritten_272 : decode cL_isWritten 272 = .ok (.invokevirtual 38, 3) := by decide +kernel
theorem dL_isWritten_275 : decode cL_isWritten 275 = .ok (.iload_n 2, 1) := by decide +kernel
theorem dL_isWritten_276 : decode cL_isWritten 276 = .ok (.if_icmp .ne 96, 3) := by decide +kernel
theorem dL_isWritten_279 : decode cL_isWritten 279 = .ok (.aload_n 0, 1) := by decide +kernel
theorem dL_isWritten_280 : decode cL_isWritten 280 = .ok (.iload_n 1, 1) := by decide +kernel
theorem dL_isWritten_281 : decode cL_isWritten 281 = .ok (.iconst 3, 1) := by decide +kernel
theorem dL_isWritten_282 : decode cL_isWritten 282 = .ok (.invokevirtual 38, 3) := by decide +kernel
theorem dL_isWritten_285 : decode cL_isWritten 285 = .ok (.ifCond .ne 87, 3) := by decide +kernel
theorem dL_isWritten_288 : decode cL_isWritten 288 = .ok (.aload_n 0, 1) := by decide +kernel
theorem dL_isWritten_289 : decode cL_isWritten 289 = .ok (.bipush 8, 2) := by decide +kernel
theorem dL_isWritten_291 : decode cL_isWritten 291 = .ok (.invokevirtual 42, 3) := by decide +kernel
theorem dL_isWritten_294 : decode cL_isWritten 294 = .ok (.iload 5, 2) := by decide +kernel
theorem dL_isWritten_296 : decode cL_isWritten 296 = .ok (.iload 4, 2) := by decide +kernel
theorem dL_isWritten_298 : decode cL_isWritten 298 = .ok (.ifCond .eq 7, 3) := by decide +kernel
theorem dL_isWritten_301 : decode cL_isWritten 301 = .ok (.iconst 1, 1) := by decide +kernel
theorem dL_isWritten_302 : decode cL_isWritten 302 = .ok (.goto 4, 3) := by decide +kernel
theorem dL_isWritten_305 : decode cL_isWritten 305 = .ok (.iconst 0, 1) := by decide +kernel
theorem dL_isWritten_306 : decode cL_isWritten 306 = .ok (.isub, 1) := by decide +kernel
theorem dL_isWritten_307 : decode cL_isWritten 307 = .ok (.if_icmp .ne 65, 3) := by decide +kernel
theorem dL_isWritten_310 : decode cL_isWritten 310 = .ok (.iload 4, 2) := by decide +kernel
theorem dL_isWritten_312 : decode cL_isWritten 312 = .ok (.ifCond .eq 37, 3) := by decide +kernel
theorem dL_isWritten_315 : decode cL_isWritten 315 = .ok (.iload 16, 2) := by decide +kernel
theorem dL_isWritten_317 : decode cL_isWritten 317 = .ok (.bipush 16, 2) := by decide +kernel
theorem dL_isWritten_319 : decode cL_isWritten 319 = .ok (.if_icmp .ne 53, 3) := by decide +kernel
theorem dL_isWritten_322 : decode cL_isWritten 322 = .ok (.aload_n 0, 1) := by decide +kernel
theorem dL_isWritten_323 : decode cL_isWritten 323 = .ok (.iload_n 1, 1) := by decide +kernel
theorem dL_isWritten_324 : decode cL_isWritten 324 = .ok (.iconst 1, 1) := by decide +kernel
theorem dL_isWritten_325 : decode cL_isWritten 325 = .ok (.invokevirtual 38, 3) := by decide +kernel
theorem dL_isWritten_328 : decode cL_isWritten 328 = .ok (.bipush 12, 2) := by decide +kernel
theorem dL_isWritten_330 : decode cL_isWritten 330 = .ok (.iload 5, 2) := by decide +kernel
theorem dL_isWritten_332 : decode cL_isWritten 332 = .ok (.isub, 1) := by decide +kernel
theorem dL_isWritten_333 : decode cL_isWritten 333 = .ok (.if_icmp .ne 39, 3) := by decide +kernel
theorem dL_isWritten_336 : decode cL_isWritten 336 = .ok (.aload_n 0, 1) := by decide +kernel
theorem dL_isWritten_337 : decode cL_isWritten 337 = .ok (.iload_n 1, 1) := by decide +kernel
theorem dL_isWritten_338 : decode cL_isWritten 338 = .ok (.iconst 4, 1) := by decide +kernel
theorem dL_isWritten_339 : decode cL_isWritten 339 = .ok (.invokevirtual 38, 3) := by decide +kernel
theorem dL_isWritten_342 : decode cL_isWritten 342 = .ok (.iconst 1, 1) := by decide +kernel
theorem dL_isWritten_343 : decode cL_isWritten 343 = .ok (.if_icmp .ne 29, 3) := by decide +kernel
theorem dL_isWritten_346 : decode cL_isWritten 346 = .ok (.goto 22, 3) := by decide +kernel
theorem dL_isWritten_349 : decode cL_isWritten 349 = .ok (.iload 16, 2) := by decide +kernel
theorem dL_isWritten_351 : decode cL_isWritten 351 = .ok (.iload_n 3, 1) := by decide +kernel
theorem dL_isWritten_352 : decode cL_isWritten 352 = .ok (.if_icmp .ne 20, 3) := by decide +kernel
theorem dL_isWritten_355 : decode cL_isWritten 355 = .ok (.aload_n 0, 1) := by decide +kernel
theorem dL_isWritten_356 : decode cL_isWritten 356 = .ok (.iload_n 1, 1) := by decide +kernel
theorem dL_isWritten_357 : decode cL_isWritten 357 = .ok (.iconst 4, 1) := by decide +kernel
theorem dL_isWritten_358 : decode cL_isWritten 358 = .ok (.invokevirtual 38, 3) := by decide +kernel
theorem dL_isWritten_361 : decode cL_isWritten 361 = .ok (.iload 14, 2) := by decide +kernel
theorem dL_isWritten_363 : decode cL_isWritten 363 = .ok (.iconst 1, 1) := by decide +kernel
theorem dL_isWritten_364 : decode cL_isWritten 364 = .ok (.iadd, 1) := by decide +kernel
theorem dL_isWritten_365 : decode cL_isWritten 365 = .ok (.if_icmp .ne 7, 3) := by decide +kernel
theorem dL_isWritten_368 : decode cL_isWritten 368 = .ok (.iconst 1, 1) := by decide +kernel
theorem dL_isWritten_369 : decode cL_isWritten 369 = .ok (.goto 4, 3) := by decide +kernel
theorem dL_isWritten_372 : decode cL_isWritten 372 = .ok (.iconst 0, 1) := by decide +kernel
theorem dL_isWritten_373 : decode cL_isWritten 373 = .ok (.istore 19, 2) := by decide +kernel
theorem dL_isWritten_375 : decode cL_isWritten 375 = .ok (.iload 19, 2) := by decide +kernel
theorem dL_isWritten_377 : decode cL_isWritten 377 = .ok (.ifCond .eq 122, 3) := by decide +kernel
theorem dL_isWritten_380 : decode cL_isWritten 380 = .ok (.aload_n 0, 1) := by decide +kernel
theorem dL_isWritten_381 : decode cL_isWritten 381 = .ok (.bipush 11, 2) := by decide +kernel
theorem dL_isWritten_383 : decode cL_isWritten 383 = .ok (.invokevirtual 42, 3) := by decide +kernel
theorem dL_isWritten_386 : decode cL_isWritten 386 = .ok (.iload 6, 2) := by decide +kernel
theorem dL_isWritten_388 : decode cL_isWritten 388 = .ok (.iconst 1, 1) := by decide +kernel
theorem dL_isWritten_389 : decode cL_isWritten 389 = .ok (.iadd, 1) := by decide +kernel
theorem dL_isWritten_390 : decode cL_isWritten 390 = .ok (.if_icmp .ne 109, 3) := by decide +kernel
theorem dL_isWritten_393 : decode cL_isWritten 393 = .ok (.aload_n 0, 1) := by decide +kernel
theorem dL_isWritten_394 : decode cL_isWritten 394 = .ok (.bipush 13, 2) := by decide +kernel
theorem dL_isWritten_396 : decode cL_isWritten 396 = .ok (.invokevirtual 42, 3) := by decide +kernel
theorem dL_isWritten_399 : decode cL_isWritten 399 = .ok (.aload_n 0, 1) := by decide +kernel
theorem dL_isWritten_400 : decode cL_isWritten 400 = .ok (.bipush 14, 2) := by decide +kernel
theorem dL_isWritten_402 : decode cL_isWritten 402 = .ok (.invokevirtual 42, 3) := by decide +kernel
theorem dL_isWritten_405 : decode cL_isWritten 405 = .ok (.iadd, 1) := by decide +kernel
theorem dL_isWritten_406 : decode cL_isWritten 406 = .ok (.iload 7, 2) := by decide +kernel
theorem dL_isWritten_408 : decode cL_isWritten 408 = .ok (.iload 18, 2) := by decide +kernel
theorem dL_isWritten_410 : decode cL_isWritten 410 = .ok (.ifCond .eq 7, 3) := by decide +kernel
theorem dL_isWritten_413 : decode cL_isWritten 413 = .ok (.iconst 1, 1) := by decide +kernel
theorem dL_isWritten_414 : decode cL_isWritten 414 = .ok (.goto 4, 3) := by decide +kernel
theorem dL_isWritten_417 : decode cL_isWritten 417 = .ok (.iconst 0, 1) := by decide +kernel
theorem dL_isWritten_418 : decode cL_isWritten 418 = .ok (.iadd, 1) := by decide +kernel
theorem dL_isWritten_419 : decode cL_isWritten 419 = .ok (.if_icmp .ne 80, 3) := by decide +kernel
theorem dL_isWritten_422 : decode cL_isWritten 422 = .ok (.aload_n 0, 1) := by decide +kernel
theorem dL_isWritten_423 : decode cL_isWritten 423 = .ok (.bipush 6, 2) := by decide +kernel
theorem dL_isWritten_425 : decode cL_isWritten 425 = .ok (.invokevirtual 42, 3) := by decide +kernel
theorem dL_isWritten_428 : decode cL_isWritten 428 = .ok (.iload 16, 2) := by decide +kernel
theorem dL_isWritten_430 : decode cL_isWritten 430 = .ok (.if_icmp .ne 69, 3) := by decide +kernel
theorem dL_isWritten_433 : decode cL_isWritten 433 = .ok (.aload_n 0, 1) := by decide +kernel
theorem dL_isWritten_434 : decode cL_isWritten 434 = .ok (.iconst 5, 1) := by decide +kernel
theorem dL_isWritten_435 : decode cL_isWritten 435 = .ok (.invokevirtual 42, 3) := by decide +kernel
theorem dL_isWritten_438 : decode cL_isWritten 438 = .ok (.iload 12, 2) := by decide +kernel
theorem dL_isWritten_440 : decode cL_isWritten 440 = .ok (.iload 15, 2) := by decide +kernel
theorem dL_isWritten_442 : decode cL_isWritten 442 = .ok (.iadd, 1) := by decide +kernel
theorem dL_isWritten_443 : decode cL_isWritten 443 = .ok (.if_icmp .ne 56, 3) := by decide +kernel
theorem dL_isWritten_446 : decode cL_isWritten 446 = .ok (.aload_n 0, 1) := by decide +kernel
theorem dL_isWritten_447 : decode cL_isWritten 447 = .ok (.iconst 5, 1) := by decide +kernel
theorem dL_isWritten_448 : decode cL_isWritten 448 = .ok (.invokevirtual 42, 3) := by decide +kernel
theorem dL_isWritten_451 : decode cL_isWritten 451 = .ok (.iconst 1, 1) := by decide +kernel
theorem dL_isWritten_452 : decode cL_isWritten 452 = .ok (.isub, 1) := by decide +kernel
theorem dL_isWritten_453 : decode cL_isWritten 453 = .ok (.aload_n 0, 1) := by decide +kernel
theorem dL_isWritten_454 : decode cL_isWritten 454 = .ok (.iload_n 1, 1) := by decide +kernel
theorem dL_isWritten_455 : decode cL_isWritten 455 = .ok (.iconst 1, 1) := by decide +kernel
theorem dL_isWritten_456 : decode cL_isWritten 456 = .ok (.invokevirtual 38, 3) := by decide +kernel
theorem dL_isWritten_459 : decode cL_isWritten 459 = .ok (.isub, 1) := by decide +kernel
theorem dL_isWritten_460 : decode cL_isWritten 460 = .ok (.bipush 12, 2) := by decide +kernel
theorem dL_isWritten_462 : decode cL_isWritten 462 = .ok (.irem, 1) := by decide +kernel
theorem dL_isWritten_463 : decode cL_isWritten 463 = .ok (.ifCond .ne 36, 3) := by decide +kernel
theorem dL_isWritten_466 : decode cL_isWritten 466 = .ok (.iload 15, 2) := by decide +kernel
theorem dL_isWritten_468 : decode cL_isWritten 468 = .ok (.iload 17, 2) := by decide +kernel
theorem dL_isWritten_470 : decode cL_isWritten 470 = .ok (.aload_n 0, 1) := by decide +kernel
theorem dL_isWritten_471 : decode cL_isWritten 471 = .ok (.iconst 4, 1) := by decide +kernel
theorem dL_isWritten_472 : decode cL_isWritten 472 = .ok (.invokevirtual 42, 3) := by decide +kernel
theorem dL_isWritten_475 : decode cL_isWritten 475 = .ok (.imul, 1) := by decide +kernel
theorem dL_isWritten_476 : decode cL_isWritten 476 = .ok (.if_icmp .le 23, 3) := by decide +kernel
theorem dL_isWritten_479 : decode cL_isWritten 479 = .ok (.iload 15, 2) := by decide +kernel
theorem dL_isWritten_481 : decode cL_isWritten 481 = .ok (.iload 17, 2) := by decide +kernel
theorem dL_isWritten_483 : decode cL_isWritten 483 = .ok (.aload_n 0, 1) := by decide +kernel
theorem dL_isWritten_484 : decode cL_isWritten 484 = .ok (.iconst 4, 1) := by decide +kernel
theorem dL_isWritten_485 : decode cL_isWritten 485 = .ok (.invokevirtual 42, 3) := by decide +kernel
theorem dL_isWritten_488 : decode cL_isWritten 488 = .ok (.imul, 1) := by decide +kernel
theorem dL_isWritten_489 : decode cL_isWritten 489 = .ok (.bipush 12, 2) := by decide +kernel
theorem dL_isWritten_491 : decode cL_isWritten 491 = .ok (.iadd, 1) := by decide +kernel
theorem dL_isWritten_492 : decode cL_isWritten 492 = .ok (.if_icmp .gt 7, 3) := by decide +kernel
theorem dL_isWritten_495 : decode cL_isWritten 495 = .ok (.iconst 1, 1) := by decide +kernel
theorem dL_isWritten_496 : decode cL_isWritten 496 = .ok (.goto 4, 3) := by decide +kernel
theorem dL_isWritten_499 : decode cL_isWritten 499 = .ok (.iconst 0, 1) := by decide +kernel
theorem dL_isWritten_500 : decode cL_isWritten 500 = .ok (.istore 19, 2) := by decide +kernel
theorem dL_isWritten_502 : decode cL_isWritten 502 = .ok (.iload 8, 2) := by decide +kernel
theorem dL_isWritten_504 : decode cL_isWritten 504 = .ok (.iload 18, 2) := by decide +kernel
theorem dL_isWritten_506 : decode cL_isWritten 506 = .ok (.ifCond .eq 16, 3) := by decide +kernel
theorem dL_isWritten_509 : decode cL_isWritten 509 = .ok (.iload 10, 2) := by decide +kernel
theorem dL_isWritten_511 : decode cL_isWritten 511 = .ok (.ifCond .eq 11, 3) := by decide +kernel
theorem dL_isWritten_514 : decode cL_isWritten 514 = .ok (.aload_n 0, 1) := by decide +kernel
theorem dL_isWritten_515 : decode cL_isWritten 515 = .ok (.iconst 0, 1) := by decide +kernel
theorem dL_isWritten_516 : decode cL_isWritten 516 = .ok (.invokevirtual 42, 3) := by decide +kernel
theorem dL_isWritten_519 : decode cL_isWritten 519 = .ok (.goto 4, 3) := by decide +kernel
theorem dL_isWritten_522 : decode cL_isWritten 522 = .ok (.iconst 0, 1) := by decide +kernel
theorem dL_isWritten_523 : decode cL_isWritten 523 = .ok (.iadd, 1) := by decide +kernel
theorem dL_isWritten_524 : decode cL_isWritten 524 = .ok (.istore 20, 2) := by decide +kernel
theorem dL_isWritten_526 : decode cL_isWritten 526 = .ok (.iload 9, 2) := by decide +kernel
theorem dL_isWritten_528 : decode cL_isWritten 528 = .ok (.iload 18, 2) := by decide +kernel
theorem dL_isWritten_530 : decode cL_isWritten 530 = .ok (.ifCond .eq 16, 3) := by decide +kernel
theorem dL_isWritten_533 : decode cL_isWritten 533 = .ok (.iload 11, 2) := by decide +kernel
theorem dL_isWritten_535 : decode cL_isWritten 535 = .ok (.ifCond .eq 11, 3) := by decide +kernel
theorem dL_isWritten_538 : decode cL_isWritten 538 = .ok (.aload_n 0, 1) := by decide +kernel
theorem dL_isWritten_539 : decode cL_isWritten 539 = .ok (.iconst 1, 1) := by decide +kernel
theorem dL_isWritten_540 : decode cL_isWritten 540 = .ok (.invokevirtual 42, 3) := by decide +kernel
theorem dL_isWritten_543 : decode cL_isWritten 543 = .ok (.goto 4, 3) := by decide +kernel
theorem dL_isWritten_546 : decode cL_isWritten 546 = .ok (.iconst 0, 1) := by decide +kernel
theorem dL_isWritten_547 : decode cL_isWritten 547 = .ok (.iadd, 1) := by decide +kernel
theorem dL_isWritten_548 : decode cL_isWritten 548 = .ok (.istore 21, 2) := by decide +kernel
theorem dL_isWritten_550 : decode cL_isWritten 550 = .ok (.iload 19, 2) := by decide +kernel
theorem dL_isWritten_552 : decode cL_isWritten 552 = .ok (.ifCond .eq 75, 3) := by decide +kernel
theorem dL_isWritten_555 : decode cL_isWritten 555 = .ok (.iload_n 1, 1) := by decide +kernel
theorem dL_isWritten_556 : decode cL_isWritten 556 = .ok (.bipush 12, 2) := by decide +kernel
theorem dL_isWritten_558 : decode cL_isWritten 558 = .ok (.iadd, 1) := by decide +kernel
theorem dL_isWritten_559 : decode cL_isWritten 559 = .ok (.sipush 192, 3) := by decide +kernel
theorem dL_isWritten_562 : decode cL_isWritten 562 = .ok (.if_icmp .ge 29, 3) := by decide +kernel
theorem dL_isWritten_565 : decode cL_isWritten 565 = .ok (.aload_n 0, 1) := by decide +kernel
theorem dL_isWritten_566 : decode cL_isWritten 566 = .ok (.iload_n 1, 1) := by decide +kernel
theorem dL_isWritten_567 : decode cL_isWritten 567 = .ok (.bipush 12, 2) := by decide +kernel
theorem dL_isWritten_569 : decode cL_isWritten 569 = .ok (.iadd, 1) := by decide +kernel
theorem dL_isWritten_570 : decode cL_isWritten 570 = .ok (.iconst 3, 1) := by decide +kernel
theorem dL_isWritten_571 : decode cL_isWritten 571 = .ok (.invokevirtual 38, 3) := by decide +kernel
theorem dL_isWritten_574 : decode cL_isWritten 574 = .ok (.iload 20, 2) := by decide +kernel
theorem dL_isWritten_576 : decode cL_isWritten 576 = .ok (.bipush 99, 2) := by decide +kernel
theorem dL_isWritten_578 : decode cL_isWritten 578 = .ok (.if_icmp .le 8, 3) := by decide +kernel
theorem dL_isWritten_581 : decode cL_isWritten 581 = .ok (.bipush 99, 2) := by decide +kernel
theorem dL_isWritten_583 : decode cL_isWritten 583 = .ok (.goto 5, 3) := by decide +kernel
theorem dL_isWritten_586 : decode cL_isWritten 586 = .ok (.iload 20, 2) := by decide +kernel
theorem dL_isWritten_588 : decode cL_isWritten 588 = .ok (.if_icmp .ne 39, 3) := by decide +kernel
theorem dL_isWritten_591 : decode cL_isWritten 591 = .ok (.iload_n 1, 1) := by decide +kernel
theorem dL_isWritten_592 : decode cL_isWritten 592 = .ok (.bipush 24, 2) := by decide +kernel
theorem dL_isWritten_594 : decode cL_isWritten 594 = .ok (.if_icmp .lt 29, 3) := by decide +kernel
theorem dL_isWritten_597 : decode cL_isWritten 597 = .ok (.aload_n 0, 1) := by decide +kernel
theorem dL_isWritten_598 : decode cL_isWritten 598 = .ok (.iload_n 1, 1) := by decide +kernel
theorem dL_isWritten_599 : decode cL_isWritten 599 = .ok (.bipush 24, 2) := by decide +kernel
theorem dL_isWritten_601 : decode cL_isWritten 601 = .ok (.isub, 1) := by decide +kernel
theorem dL_isWritten_602 : decode cL_isWritten 602 = .ok (.iconst 3, 1) := by decide +kernel
theorem dL_isWritten_603 : decode cL_isWritten 603 = .ok (.invokevirtual 38, 3) := by decide +kernel
theorem dL_isWritten_606 : decode cL_isWritten 606 = .ok (.iload 21, 2) := by decide +kernel
theorem dL_isWritten_608 : decode cL_isWritten 608 = .ok (.bipush 99, 2) := by decide +kernel
theorem dL_isWritten_610 : decode cL_isWritten 610 = .ok (.if_icmp .le 8, 3) := by decide +kernel
theorem dL_isWritten_613 : decode cL_isWritten 613 = .ok (.bipush 99, 2) := by decide +kernel
theorem dL_isWritten_615 : decode cL_isWritten 615 = .ok (.goto 5, 3) := by decide +kernel
theorem dL_isWritten_618 : decode cL_isWritten 618 = .ok (.iload 21, 2) := by decide +kernel
theorem dL_isWritten_620 : decode cL_isWritten 620 = .ok (.if_icmp .ne 7, 3) := by decide +kernel
theorem dL_isWritten_623 : decode cL_isWritten 623 = .ok (.iconst 1, 1) := by decide +kernel
theorem dL_isWritten_624 : decode cL_isWritten 624 = .ok (.goto 4, 3) := by decide +kernel
theorem dL_isWritten_627 : decode cL_isWritten 627 = .ok (.iconst 0, 1) := by decide +kernel
theorem dL_isWritten_628 : decode cL_isWritten 628 = .ok (.ireturn, 1) := by decide +kernel
set_option maxRecDepth 20000 in
theorem ggL_isStep_L_up : GoodIn wsL_isStep wsL_up := goodIn_r _ [4, 5] rfl (by decide +kernel)
set_option maxRecDepth 20000 in
theorem gL_isStep_L_up : GoodIn wsL_isStep (va_wsS RL 49 yL_up wsL_up) := goodIn_app (goodIn_of _ (by decide +kernel)) ggL_isStep_L_up
set_option maxRecDepth 20000 in
theorem ggL_isStep_X4_count : GoodIn wsL_isStep wsX4_count := goodIn_r _ [10, 11, 12, 13, 14, 15, 16, 17, 18, 19, 20, 21, 22, 23, 24, 25, 26, 9, 27, 28, 29, 30, 31, 32, 33, 34, 35, 36, 37, 38, 39, 40, 41, 42, 43, 44, 45, 46, 47, 48, 49, 50, 51, 52, 53, 54, 55, 56, 57, 58, 59, 60, 61, 62, 63, 64, 65, 66, 67, 68, 69, 70, 71, 72, 73, 74, 75, 76, 77, 78, 79, 80, 81, 82, 83, 84, 85, 86, 87, 88, 89, 90, 91, 383, 384, 385, 386, 387, 388, 389, 390, 391, 392, 393, 394, 395, 396, 397, 398, 399, 400, 401, 402] rfl (by decide +kernel)
set_option maxRecDepth 20000 in
theorem gL_isStep_X4_count : GoodIn wsL_isStep (wsV RL 42 RX4 yX4_count wsX4_count) := goodIn_app (goodIn_of _ (by decide +kernel)) ggL_isStep_X4_count
set_option maxRecDepth 20000 in
theorem ggL_isStep_X4_set : GoodIn wsL_isStep wsX4_set := goodIn_r _ [95, 11, 96, 97, 98, 26, 9, 27, 99, 100, 101, 102, 103, 12, 104, 105, 106, 23, 107, 25, 56, 69, 79, 46, 37, 108, 32, 109, 110, 111, 112, 113, 90, 114, 115, 116, 117, 118, 119, 120, 121, 122, 123, 124, 125, 126, 127, 128, 18, 129, 130, 131, 132, 133, 134, 135, 136, 137, 138, 139, 140, 141, 142, 143, 144, 145, 146, 147, 148, 149, 150, 151, 152, 153, 383, 384, 385, 386, 387, 388, 389, 390, 391, 392, 393, 394, 395, 396, 397, 400, 401, 402] rfl (by decide +kernel)
set_option maxRecDepth 20000 in
theorem gL_isStep_X4_set : GoodIn wsL_isStep (wsV RL 52 RX4 yX4_set wsX4_set) := goodIn_app (goodIn_of _ (by decide +kernel)) ggL_isStep_X4_set
set_option maxRecDepth 20000 in
theorem ggL_isStep_X4_sector : GoodIn wsL_isStep wsX4_sector := goodIn_r _ [157, 12, 158, 159, 9, 160, 161, 43, 44, 23, 45, 46, 26, 27, 162, 50, 51, 163, 164, 165, 166, 56, 167, 66, 67, 68, 69, 168, 169, 170, 171, 79, 172, 173, 174, 175, 62, 63, 64, 52, 53, 54, 55, 65, 70, 21, 22, 24, 25, 383, 384, 385, 386, 387, 388, 389, 390, 391, 392, 393, 394, 395, 396, 397] rfl (by decide +kernel)
set_option maxRecDepth 20000 in
theorem gL_isStep_X4_sector : GoodIn wsL_isStep (wsV RL 38 RX4 yX4_sector wsX4_sector) := goodIn_app (goodIn_of _ (by decide +kernel)) ggL_isStep_X4_sector
set_option maxRecDepth 20000 in
theorem ggL_isStep_X4_ticksFor : GoodIn wsL_isStep wsX4_ticksFor := goodIn_r _ [179, 12, 158, 159, 9, 160, 180, 181, 182, 23, 183, 37, 42, 43, 44, 45, 46, 26, 27, 184, 169, 170, 171, 79, 70, 21, 22, 24, 25, 185, 34, 35, 36, 161, 186, 187, 188, 189, 32, 50, 51, 190, 191, 192, 193, 109, 194, 195, 90, 196, 197, 198, 199, 200, 383, 384, 385, 386, 387, 388, 389, 390, 391, 392, 393, 394, 395, 396, 397] rfl (by decide +kernel)
set_option maxRecDepth 20000 in
theorem gL_isStep_X4_ticksFor : GoodIn wsL_isStep (wsV RL 55 RX4 yX4_ticksFor wsX4_ticksFor) := goodIn_app (goodIn_of _ (by decide +kernel)) ggL_isStep_X4_ticksFor
set_option maxRecDepth 20000 in
theorem ggL_isStep_X4_read : GoodIn wsL_isStep wsX4_read := goodIn_r _ [204, 158, 159, 9, 160, 99, 100, 101, 102, 103, 12, 104, 105, 106, 23, 107, 25, 56, 69, 79, 46, 37, 108, 32, 109, 110, 111, 112, 113, 90, 114, 115, 116, 117, 118, 205, 206, 207, 208, 42, 43, 44, 45, 26, 27, 61, 62, 63, 64, 52, 53, 54, 55, 65, 66, 67, 68, 70, 21, 22, 24, 209, 187, 188, 189, 50, 51, 190, 191, 192, 193, 194, 195, 196, 197, 198, 199, 200, 210, 211, 212, 213, 214, 215, 216, 217, 218, 219, 164, 165, 166, 125, 126, 127, 128, 18, 129, 130, 131, 132, 133, 134, 135, 136, 137, 138, 139, 140, 141, 142, 143, 144, 145, 146, 147, 148, 149, 150, 151, 152, 153, 383, 384, 385, 386, 387, 388, 389, 390, 391, 392, 393, 394, 395, 396, 397, 400, 401, 402] rfl (by decide +kernel)
set_option maxRecDepth 20000 in
theorem gL_isStep_X4_read : GoodIn wsL_isStep (wsV RL 59 RX4 yX4_read wsX4_read) := goodIn_app (goodIn_of _ (by decide +kernel)) ggL_isStep_X4_read
set_option maxRecDepth 20000 in
theorem ggL_isStep_L_isPadded : GoodIn wsL_isStep wsL_isPadded := goodIn_r _ [222, 223, 224, 225, 226, 227, 228, 9, 229, 16, 17, 230, 231, 232, 233, 234, 235, 236, 237, 238, 239, 240, 241, 242, 243, 244, 245, 246, 247, 248, 249, 250, 251, 123, 124, 252, 253, 3, 254, 255, 256, 257, 258, 259, 260, 261, 262, 263, 264, 265, 266, 267, 268, 269, 270, 271, 26, 27, 272, 273, 274, 275, 276, 277, 278, 279, 280, 281, 282, 283, 284, 285, 286, 287, 288, 289, 290, 291, 292, 293, 294, 295, 296, 297, 298, 299, 300, 301, 302, 303, 304, 305, 306, 307, 308, 99, 100, 101, 102, 103, 12, 104, 105, 106, 23, 107, 25, 56, 69, 79, 46, 37, 108, 32, 109, 110, 111, 112, 113, 90, 114, 115, 116, 117, 118, 309, 310, 311, 312, 313, 314, 315, 316, 317, 318, 43, 44, 45, 50, 51, 319, 320, 321, 322, 323, 324, 325, 326, 327, 181, 182, 183, 42, 184, 169, 170, 171, 70, 21, 22, 24, 185, 34, 35, 36, 209, 187, 188, 189, 190, 191, 192, 193, 194, 195, 196, 197, 198, 199, 200, 210, 211, 212, 213, 214, 328, 329, 330, 331, 173, 174, 332, 333, 334, 335, 336, 337, 338, 339, 340, 159, 160, 52, 53, 54, 55, 65, 66, 67, 68, 215, 216, 217, 218, 341, 206, 207, 208, 61, 62, 63, 64, 219, 164, 165, 166, 125, 126, 127, 128, 18, 129, 130, 131, 132, 133, 134, 135, 136, 137, 138, 139, 140, 141, 142, 143, 144, 145, 146, 147, 148, 149, 150, 151, 152, 153, 383, 384, 385, 386, 387, 388, 398, 399, 403, 404, 405, 406, 407, 389, 390, 391, 392, 393, 394, 395, 396, 397, 400, 401, 402] rfl (by decide +kernel)
set_option maxRecDepth 20000 in
theorem gL_isStep_L_isPadded : GoodIn wsL_isStep (va_wsS RL 62 yL_isPadded wsL_isPadded) := goodIn_app (goodIn_of _ (by decide +kernel)) ggL_isStep_L_isPadded
set_option maxRecDepth 20000 in
theorem ggL_isStep_X4_refresh : GoodIn wsL_isStep wsX4_refresh := goodIn_r _ [345, 12, 158, 159, 9, 160, 161, 43, 44, 23, 45, 46, 26, 27, 167, 66, 67, 68, 69, 99, 100, 101, 102, 103, 104, 105, 106, 107, 25, 56, 79, 37, 108, 32, 109, 110, 111, 112, 113, 90, 114, 115, 116, 117, 118, 205, 206, 207, 208, 42, 61, 62, 63, 64, 52, 53, 54, 55, 65, 70, 21, 22, 24, 209, 187, 188, 189, 50, 51, 190, 191, 192, 193, 194, 195, 196, 197, 198, 199, 200, 210, 211, 212, 213, 214, 215, 216, 217, 218, 219, 164, 165, 166, 346, 324, 325, 326, 327, 181, 182, 183, 184, 169, 170, 171, 185, 34, 35, 36, 328, 329, 330, 331, 123, 124, 173, 174, 332, 333, 334, 335, 336, 337, 338, 339, 340, 125, 126, 127, 128, 18, 129, 130, 131, 132, 133, 134, 135, 136, 137, 138, 139, 140, 141, 142, 143, 144, 145, 146, 147, 148, 149, 150, 151, 152, 153, 383, 384, 385, 386, 387, 388, 389, 390, 391, 392, 393, 394, 395, 396, 397, 400, 401, 402] rfl (by decide +kernel)
set_option maxRecDepth 20000 in
theorem gL_isStep_X4_refresh : GoodIn wsL_isStep (wsV RL 66 RX4 yX4_refresh wsX4_refresh) := goodIn_app (goodIn_of _ (by decide +kernel)) ggL_isStep_X4_refresh
set_option maxRecDepth 20000 in
theorem ggL_isStep_X4_seek : GoodIn wsL_isStep wsX4_seek := goodIn_r _ [350, 351, 352, 9, 353, 99, 100, 101, 102, 103, 12, 104, 105, 106, 23, 107, 25, 56, 69, 79, 46, 37, 108, 32, 109, 110, 111, 112, 113, 90, 114, 115, 116, 117, 118, 354, 355, 356, 357, 190, 191, 192, 193, 194, 195, 196, 70, 21, 22, 24, 26, 27, 210, 211, 212, 213, 214, 215, 216, 217, 218, 125, 126, 127, 128, 18, 129, 130, 131, 132, 133, 134, 135, 136, 137, 138, 139, 140, 141, 142, 143, 144, 145, 146, 147, 148, 149, 150, 151, 152, 153, 383, 384, 385, 386, 387, 388, 389, 390, 391, 392, 393, 394, 395, 396, 397, 400, 401, 402] rfl (by decide +kernel)
set_option maxRecDepth 20000 in
theorem gL_isStep_X4_seek : GoodIn wsL_isStep (wsV RL 69 RX4 yX4_seek wsX4_seek) := goodIn_app (goodIn_of _ (by decide +kernel)) ggL_isStep_X4_seek
set_option maxRecDepth 20000 in
theorem ggL_isStep_X4_idle : GoodIn wsL_isStep wsX4_idle := goodIn_r _ [361, 99, 100, 101, 9, 102, 103, 12, 104, 105, 106, 23, 107, 25, 56, 69, 79, 46, 37, 108, 32, 109, 110, 111, 112, 113, 90, 114, 115, 116, 117, 118, 362, 363, 364, 365, 210, 211, 212, 213, 214, 215, 216, 217, 218, 366, 29, 30, 31, 125, 126, 127, 128, 18, 129, 130, 131, 132, 133, 134, 135, 136, 137, 138, 139, 140, 141, 142, 143, 144, 145, 146, 147, 148, 149, 150, 151, 152, 153, 383, 384, 385, 386, 387, 388, 389, 390, 391, 392, 393, 394, 395, 396, 397, 400, 401, 402] rfl (by decide +kernel)
set_option maxRecDepth 20000 in
theorem gL_isStep_X4_idle : GoodIn wsL_isStep (wsV RL 72 RX4 yX4_idle wsX4_idle) := goodIn_app (goodIn_of _ (by decide +kernel)) ggL_isStep_X4_idle
set_option maxRecDepth 20000 in
theorem ggL_isStep_X4_save : GoodIn wsL_isStep wsX4_save := goodIn_r _ [370, 371, 129, 130, 23, 12, 143, 144, 145, 146, 147, 148, 149, 25, 56, 69, 79, 46, 37, 108, 32, 109, 110, 9, 111, 112, 113, 90, 114, 115, 116, 117, 118, 150, 151, 152, 153, 104, 105, 106, 107, 38, 39, 40, 41, 42, 43, 44, 45, 26, 27, 47, 48, 49, 50, 51, 52, 53, 54, 55, 383, 384, 385, 386, 387, 388, 389, 390, 391, 392, 393, 394, 395, 396, 397] rfl (by decide +kernel)
set_option maxRecDepth 20000 in
theorem gL_isStep_X4_save : GoodIn wsL_isStep (wsV RL 75 RX4 yX4_save wsX4_save) := goodIn_app (goodIn_of _ (by decide +kernel)) ggL_isStep_X4_save
set_option maxRecDepth 20000 in
theorem ggL_isStep_X4_restore : GoodIn wsL_isStep wsX4_restore := goodIn_r _ [375, 371, 103, 104, 105, 106, 23, 107, 25, 56, 69, 79, 46, 37, 108, 32, 109, 110, 9, 111, 112, 113, 90, 114, 115, 116, 117, 118, 38, 39, 40, 41, 42, 43, 44, 45, 26, 27, 47, 48, 49, 50, 51, 52, 53, 54, 55, 125, 126, 127, 128, 18, 12, 129, 130, 131, 132, 133, 134, 135, 136, 137, 138, 139, 140, 141, 142, 143, 144, 145, 146, 147, 148, 149, 150, 151, 152, 153, 383, 384, 385, 386, 387, 388, 389, 390, 391, 392, 393, 394, 395, 396, 397, 400, 401, 402] rfl (by decide +kernel)
set_option maxRecDepth 20000 in
theorem gL_isStep_X4_restore : GoodIn wsL_isStep (wsV RL 78 RX4 yX4_restore wsX4_restore) := goodIn_app (goodIn_of _ (by decide +kernel)) ggL_isStep_X4_restore
set_option maxRecDepth 20000 in
theorem ggL_isStep_L_isWritten : GoodIn wsL_isStep wsL_isWritten := goodIn_r _ [378, 154, 155, 156, 9, 157, 12, 158, 159, 160, 161, 43, 44, 23, 45, 46, 26, 27, 162, 50, 51, 163, 164, 165, 166, 56, 167, 66, 67, 68, 69, 168, 169, 170, 171, 79, 172, 173, 174, 175, 62, 63, 64, 52, 53, 54, 55, 65, 70, 21, 22, 24, 25, 6, 7, 8, 10, 11, 13, 14, 15, 16, 17, 18, 19, 20, 28, 29, 30, 31, 32, 33, 34, 35, 36, 37, 38, 39, 40, 41, 42, 47, 48, 49, 57, 58, 59, 60, 61, 71, 72, 73, 74, 75, 76, 77, 78, 80, 81, 82, 83, 84, 85, 86, 87, 88, 89, 90, 91, 379, 380, 381, 382, 99, 100, 101, 102, 103, 104, 105, 106, 107, 108, 109, 110, 111, 112, 113, 114, 115, 116, 117, 118, 346, 324, 325, 326, 327, 181, 182, 183, 184, 185, 209, 187, 188, 189, 190, 191, 192, 193, 194, 195, 196, 197, 198, 199, 200, 210, 211, 212, 213, 214, 328, 329, 330, 331, 123, 124, 332, 333, 334, 335, 336, 337, 338, 339, 340, 215, 216, 217, 218, 125, 126, 127, 128, 129, 130, 131, 132, 133, 134, 135, 136, 137, 138, 139, 140, 141, 142, 143, 144, 145, 146, 147, 148, 149, 150, 151, 152, 153, 383, 384, 385, 386, 387, 388, 389, 390, 391, 392, 393, 394, 395, 396, 397, 398, 399, 400, 401, 402] rfl (by decide +kernel)
set_option maxRecDepth 20000 in
theorem gL_isStep_L_isWritten : GoodIn wsL_isStep (va_wsS RL 81 yL_isWritten wsL_isWritten) := goodIn_app (goodIn_of _ (by decide +kernel)) ggL_isStep_L_isWritten
theorem dL_isStep_0 : decode cL_isStep 0 = .ok (.iload_n 2, 1) := by decide +kernel
theorem dL_isStep_1 : decode cL_isStep 1 = .ok (.iconst 4, 1) := by decide +kernel
theorem dL_isStep_2 : decode cL_isStep 2 = .ok (.ishr, 1) := by decide +kernel
theorem dL_isStep_3 : decode cL_isStep 3 = .ok (.istore 4, 2) := by decide +kernel
theorem dL_isStep_5 : decode cL_isStep 5 = .ok (.iload 4, 2) := by decide +kernel
theorem dL_isStep_7 : decode cL_isStep 7 = .ok (.iconst 4, 1) := by decide +kernel
theorem dL_isStep_8 : decode cL_isStep 8 = .ok (.invokestatic 49, 3) := by decide +kernel
theorem dL_isStep_11 : decode cL_isStep 11 = .ok (.ifCond .ne 16, 3) := by decide +kernel
theorem dL_isStep_14 : decode cL_isStep 14 = .ok (.iload 4, 2) := by decide +kernel
theorem dL_isStep_16 : decode cL_isStep 16 = .ok (.iconst 3, 1) := by decide +kernel
theorem dL_isStep_17 : decode cL_isStep 17 = .ok (.ishr, 1) := by decide +kernel
theorem dL_isStep_18 : decode cL_isStep 18 = .ok (.sipush 192, 3) := by decide +kernel
theorem dL_isStep_21 : decode cL_isStep 21 = .ok (.invokestatic 49, 3) := by decide +kernel
theorem dL_isStep_24 : decode cL_isStep 24 = .ok (.goto 25, 3) := by decide +kernel
theorem dL_isStep_27 : decode cL_isStep 27 = .ok (.bipush 12, 2) := by decide +kernel
theorem dL_isStep_29 : decode cL_isStep 29 = .ok (.iload 4, 2) := by decide +kernel
theorem dL_isStep_31 : decode cL_isStep 31 = .ok (.iconst 3, 1) := by decide +kernel
theorem dL_isStep_32 : decode cL_isStep 32 = .ok (.ishr, 1) := by decide +kernel
theorem dL_isStep_33 : decode cL_isStep 33 = .ok (.bipush 6, 2) := by decide +kernel
theorem dL_isStep_35 : decode cL_isStep 35 = .ok (.invokestatic 49, 3) := by decide +kernel
theorem dL_isStep_38 : decode cL_isStep 38 = .ok (.imul, 1) := by decide +kernel
theorem dL_isStep_39 : decode cL_isStep 39 = .ok (.iload 4, 2) := by decide +kernel
theorem dL_isStep_41 : decode cL_isStep 41 = .ok (.bipush 7, 2) := by decide +kernel
theorem dL_isStep_43 : decode cL_isStep 43 = .ok (.ishr, 1) := by decide +kernel
theorem dL_isStep_44 : decode cL_isStep 44 = .ok (.iconst 2, 1) := by decide +kernel
theorem dL_isStep_45 : decode cL_isStep 45 = .ok (.invokestatic 49, 3) := by decide +kernel
theorem dL_isStep_48 : decode cL_isStep 48 = .ok (.iadd, 1) := by decide +kernel
theorem dL_isStep_49 : decode cL_isStep 49 = .ok (.istore 5, 2) := by decide +kernel
theorem dL_isStep_51 : decode cL_isStep 51 = .ok (.iload_n 2, 1) := by decide +kernel
theorem dL_isStep_52 : decode cL_isStep 52 = .ok (.bipush 16, 2) := by decide +kernel
theorem dL_isStep_54 : decode cL_isStep 54 = .ok (.invokestatic 49, 3) := by decide +kernel
theorem dL_isStep_57 : decode cL_isStep 57 = .ok (.tableswitch 676 0 7 #[47, 177, 177, 177, 330, 442, 525, 608], 47) := by decide +kernel
theorem dL_isStep_104 : decode cL_isStep 104 = .ok (.iload 4, 2) := by decide +kernel
theorem dL_isStep_106 : decode cL_isStep 106 = .ok (.iconst 5, 1) := by decide +kernel
theorem dL_isStep_107 : decode cL_isStep 107 = .ok (.invokestatic 49, 3) := by decide +kernel
theorem dL_isStep_110 : decode cL_isStep 110 = .ok (.istore 6, 2) := by decide +kernel
theorem dL_isStep_112 : decode cL_isStep 112 = .ok (.iload 6, 2) := by decide +kernel
theorem dL_isStep_114 : decode cL_isStep 114 = .ok (.iconst 2, 1) := by decide +kernel
theorem dL_isStep_115 : decode cL_isStep 115 = .ok (.if_icmp .ne 28, 3) := by decide +kernel
theorem dL_isStep_118 : decode cL_isStep 118 = .ok (.iconst 5, 1) := by decide +kernel
theorem dL_isStep_119 : decode cL_isStep 119 = .ok (.iload_n 3, 1) := by decide +kernel
theorem dL_isStep_120 : decode cL_isStep 120 = .ok (.iload 4, 2) := by decide +kernel
theorem dL_isStep_122 : decode cL_isStep 122 = .ok (.iconst 2, 1) := by decide +kernel
theorem dL_isStep_123 : decode cL_isStep 123 = .ok (.invokestatic 49, 3) := by decide +kernel
theorem dL_isStep_126 : decode cL_isStep 126 = .ok (.ifCond .ne 8, 3) := by decide +kernel
theorem dL_isStep_129 : decode cL_isStep 129 = .ok (.bipush 95, 2) := by decide +kernel
theorem dL_isStep_131 : decode cL_isStep 131 = .ok (.goto 5, 3) := by decide +kernel
theorem dL_isStep_134 : decode cL_isStep 134 = .ok (.bipush 12, 2) := by decide +kernel
theorem dL_isStep_136 : decode cL_isStep 136 = .ok (.invokestatic 49, 3) := by decide +kernel
theorem dL_isStep_139 : decode cL_isStep 139 = .ok (.iadd, 1) := by decide +kernel
theorem dL_isStep_140 : decode cL_isStep 140 = .ok (.goto 41, 3) := by decide +kernel
theorem dL_isStep_143 : decode cL_isStep 143 = .ok (.iload 6, 2) := by decide +kernel
theorem dL_isStep_145 : decode cL_isStep 145 = .ok (.iconst 3, 1) := by decide +kernel
theorem dL_isStep_146 : decode cL_isStep 146 = .ok (.if_icmp .ne 29, 3) := by decide +kernel
theorem dL_isStep_149 : decode cL_isStep 149 = .ok (.iconst 1, 1) := by decide +kernel
theorem dL_isStep_150 : decode cL_isStep 150 = .ok (.iload_n 3, 1) := by decide +kernel
theorem dL_isStep_151 : decode cL_isStep 151 = .ok (.iload 4, 2) := by decide +kernel
theorem dL_isStep_153 : decode cL_isStep 153 = .ok (.iconst 3, 1) := by decide +kernel
theorem dL_isStep_154 : decode cL_isStep 154 = .ok (.ishr, 1) := by decide +kernel
theorem dL_isStep_155 : decode cL_isStep 155 = .ok (.iconst 2, 1) := by decide +kernel
theorem dL_isStep_156 : decode cL_isStep 156 = .ok (.invokestatic 49, 3) := by decide +kernel
theorem dL_isStep_159 : decode cL_isStep 159 = .ok (.ifCond .ne 8, 3) := by decide +kernel
theorem dL_isStep_162 : decode cL_isStep 162 = .ok (.bipush 99, 2) := by decide +kernel
theorem dL_isStep_164 : decode cL_isStep 164 = .ok (.goto 4, 3) := by decide +kernel
theorem dL_isStep_167 : decode cL_isStep 167 = .ok (.iconst 4, 1) := by decide +kernel
theorem dL_isStep_168 : decode cL_isStep 168 = .ok (.invokestatic 49, 3) := by decide +kernel
theorem dL_isStep_171 : decode cL_isStep 171 = .ok (.iadd, 1) := by decide +kernel
theorem dL_isStep_172 : decode cL_isStep 172 = .ok (.goto 9, 3) := by decide +kernel
theorem dL_isStep_175 : decode cL_isStep 175 = .ok (.iload_n 3, 1) := by decide +kernel
theorem dL_isStep_176 : decode cL_isStep 176 = .ok (.bipush 21, 2) := by decide +kernel
theorem dL_isStep_178 : decode cL_isStep 178 = .ok (.invokestatic 49, 3) := by decide +kernel
theorem dL_isStep_181 : decode cL_isStep 181 = .ok (.istore 7, 2) := by decide +kernel
theorem dL_isStep_183 : decode cL_isStep 183 = .ok (.aload_n 0, 1) := by decide +kernel
theorem dL_isStep_184 : decode cL_isStep 184 = .ok (.iload 6, 2) := by decide +kernel
theorem dL_isStep_186 : decode cL_isStep 186 = .ok (.invokevirtual 42, 3) := by decide +kernel
theorem dL_isStep_189 : decode cL_isStep 189 = .ok (.istore 8, 2) := by decide +kernel
theorem dL_isStep_191 : decode cL_isStep 191 = .ok (.aload_n 0, 1) := by decide +kernel
theorem dL_isStep_192 : decode cL_isStep 192 = .ok (.iload 6, 2) := by decide +kernel
theorem dL_isStep_194 : decode cL_isStep 194 = .ok (.iload 7, 2) := by decide +kernel
theorem dL_isStep_196 : decode cL_isStep 196 = .ok (.invokevirtual 52, 3) := by decide +kernel
theorem dL_isStep_199 : decode cL_isStep 199 = .ok (.iload 8, 2) := by decide +kernel
theorem dL_isStep_201 : decode cL_isStep 201 = .ok (.if_icmp .ne 31, 3) := by decide +kernel
theorem dL_isStep_204 : decode cL_isStep 204 = .ok (.aload_n 1, 1) := by decide +kernel
theorem dL_isStep_205 : decode cL_isStep 205 = .ok (.iload 6, 2) := by decide +kernel
theorem dL_isStep_207 : decode cL_isStep 207 = .ok (.iload 7, 2) := by decide +kernel
theorem dL_isStep_209 : decode cL_isStep 209 = .ok (.invokevirtual 52, 3) := by decide +kernel
theorem dL_isStep_212 : decode cL_isStep 212 = .ok (.iload 8, 2) := by decide +kernel
theorem dL_isStep_214 : decode cL_isStep 214 = .ok (.if_icmp .ne 18, 3) := by decide +kernel
theorem dL_isStep_217 : decode cL_isStep 217 = .ok (.aload_n 0, 1) := by decide +kernel
theorem dL_isStep_218 : decode cL_isStep 218 = .ok (.iload 6, 2) := by decide +kernel
theorem dL_isStep_220 : decode cL_isStep 220 = .ok (.invokevirtual 42, 3) := by decide +kernel
theorem dL_isStep_223 : decode cL_isStep 223 = .ok (.iload 7, 2) := by decide +kernel
theorem dL_isStep_225 : decode cL_isStep 225 = .ok (.if_icmp .ne 7, 3) := by decide +kernel
theorem dL_isStep_228 : decode cL_isStep 228 = .ok (.iconst 1, 1) := by decide +kernel
theorem dL_isStep_229 : decode cL_isStep 229 = .ok (.goto 4, 3) := by decide +kernel
theorem dL_isStep_232 : decode cL_isStep 232 = .ok (.iconst 0, 1) := by decide +kernel
theorem dL_isStep_233 : decode cL_isStep 233 = .ok (.ireturn, 1) := by decide +kernel
theorem dL_isStep_234 : decode cL_isStep 234 = .ok (.aload_n 0, 1) := by decide +kernel
theorem dL_isStep_235 : decode cL_isStep 235 = .ok (.iload 5, 2) := by decide +kernel
theorem dL_isStep_237 : decode cL_isStep 237 = .ok (.bipush 6, 2) := by decide +kernel
theorem dL_isStep_239 : decode cL_isStep 239 = .ok (.invokevirtual 38, 3) := by decide +kernel
theorem dL_isStep_242 : decode cL_isStep 242 = .ok (.iconst 1, 1) := by decide +kernel
theorem dL_isStep_243 : decode cL_isStep 243 = .ok (.if_icmp .ne 7, 3) := by decide +kernel
theorem dL_isStep_246 : decode cL_isStep 246 = .ok (.iconst 1, 1) := by decide +kernel
theorem dL_isStep_247 : decode cL_isStep 247 = .ok (.goto 4, 3) := by decide +kernel
theorem dL_isStep_250 : decode cL_isStep 250 = .ok (.iconst 0, 1) := by decide +kernel
theorem dL_isStep_251 : decode cL_isStep 251 = .ok (.istore 6, 2) := by decide +kernel
theorem dL_isStep_253 : decode cL_isStep 253 = .ok (.aload_n 0, 1) := by decide +kernel
theorem dL_isStep_254 : decode cL_isStep 254 = .ok (.bipush 12, 2) := by decide +kernel
theorem dL_isStep_256 : decode cL_isStep 256 = .ok (.invokevirtual 42, 3) := by decide +kernel
theorem dL_isStep_259 : decode cL_isStep 259 = .ok (.istore 7, 2) := by decide +kernel
theorem dL_isStep_261 : decode cL_isStep 261 = .ok (.aload_n 0, 1) := by decide +kernel
theorem dL_isStep_262 : decode cL_isStep 262 = .ok (.iload 5, 2) := by decide +kernel
theorem dL_isStep_264 : decode cL_isStep 264 = .ok (.iconst 0, 1) := by decide +kernel
theorem dL_isStep_265 : decode cL_isStep 265 = .ok (.invokevirtual 55, 3) := by decide +kernel
theorem dL_isStep_268 : decode cL_isStep 268 = .ok (.istore 8, 2) := by decide +kernel
theorem dL_isStep_270 : decode cL_isStep 270 = .ok (.aload_n 0, 1) := by decide +kernel
theorem dL_isStep_271 : decode cL_isStep 271 = .ok (.iconst 5, 1) := by decide +kernel
theorem dL_isStep_272 : decode cL_isStep 272 = .ok (.invokevirtual 42, 3) := by decide +kernel
theorem dL_isStep_275 : decode cL_isStep 275 = .ok (.istore 9, 2) := by decide +kernel
theorem dL_isStep_277 : decode cL_isStep 277 = .ok (.aload_n 0, 1) := by decide +kernel
theorem dL_isStep_278 : decode cL_isStep 278 = .ok (.iload 5, 2) := by decide +kernel
theorem dL_isStep_280 : decode cL_isStep 280 = .ok (.invokevirtual 59, 3) := by decide +kernel
theorem dL_isStep_283 : decode cL_isStep 283 = .ok (.istore 10, 2) := by decide +kernel
theorem dL_isStep_285 : decode cL_isStep 285 = .ok (.aload_n 1, 1) := by decide +kernel
theorem dL_isStep_286 : decode cL_isStep 286 = .ok (.iload 5, 2) := by decide +kernel
theorem dL_isStep_288 : decode cL_isStep 288 = .ok (.iconst (-1), 1) := by decide +kernel
theorem dL_isStep_289 : decode cL_isStep 289 = .ok (.iload 6, 2) := by decide +kernel
theorem dL_isStep_291 : decode cL_isStep 291 = .ok (.ifCond .eq 7, 3) := by decide +kernel
theorem dL_isStep_294 : decode cL_isStep 294 = .ok (.iconst 1, 1) := by decide +kernel
theorem dL_isStep_295 : decode cL_isStep 295 = .ok (.goto 4, 3) := by decide +kernel
theorem dL_isStep_298 : decode cL_isStep 298 = .ok (.iconst 0, 1) := by decide +kernel
theorem dL_isStep_299 : decode cL_isStep 299 = .ok (.iload_n 3, 1) := by decide +kernel
theorem dL_isStep_300 : decode cL_isStep 300 = .ok (.iconst 2, 1) := by decide +kernel
theorem dL_isStep_301 : decode cL_isStep 301 = .ok (.invokestatic 49, 3) := by decide +kernel
theorem dL_isStep_304 : decode cL_isStep 304 = .ok (.ifCond .ne 7, 3) := by decide +kernel
theorem dL_isStep_307 : decode cL_isStep 307 = .ok (.iconst 1, 1) := by decide +kernel
theorem dL_isStep_308 : decode cL_isStep 308 = .ok (.goto 4, 3) := by decide +kernel
theorem dL_isStep_311 : decode cL_isStep 311 = .ok (.iconst 0, 1) := by decide +kernel
theorem dL_isStep_312 : decode cL_isStep 312 = .ok (.invokestatic 62, 3) := by decide +kernel
theorem dL_isStep_315 : decode cL_isStep 315 = .ok (.ifCond .eq 70, 3) := by decide +kernel
theorem dL_isStep_318 : decode cL_isStep 318 = .ok (.iload 6, 2) := by decide +kernel
theorem dL_isStep_320 : decode cL_isStep 320 = .ok (.ifCond .eq 44, 3) := by decide +kernel
theorem dL_isStep_323 : decode cL_isStep 323 = .ok (.iload 10, 2) := by decide +kernel
theorem dL_isStep_325 : decode cL_isStep 325 = .ok (.aload_n 0, 1) := by decide +kernel
theorem dL_isStep_326 : decode cL_isStep 326 = .ok (.iload 5, 2) := by decide +kernel
theorem dL_isStep_328 : decode cL_isStep 328 = .ok (.iconst 2, 1) := by decide +kernel
theorem dL_isStep_329 : decode cL_isStep 329 = .ok (.invokevirtual 38, 3) := by decide +kernel
theorem dL_isStep_332 : decode cL_isStep 332 = .ok (.if_icmp .ne 53, 3) := by decide +kernel
theorem dL_isStep_335 : decode cL_isStep 335 = .ok (.aload_n 0, 1) := by decide +kernel
theorem dL_isStep_336 : decode cL_isStep 336 = .ok (.bipush 12, 2) := by decide +kernel
theorem dL_isStep_338 : decode cL_isStep 338 = .ok (.invokevirtual 42, 3) := by decide +kernel
theorem dL_isStep_341 : decode cL_isStep 341 = .ok (.iload 7, 2) := by decide +kernel
theorem dL_isStep_343 : decode cL_isStep 343 = .ok (.iconst 1, 1) := by decide +kernel
theorem dL_isStep_344 : decode cL_isStep 344 = .ok (.iadd, 1) := by decide +kernel
theorem dL_isStep_345 : decode cL_isStep 345 = .ok (.if_icmp .ne 40, 3) := by decide +kernel
theorem dL_isStep_348 : decode cL_isStep 348 = .ok (.aload_n 0, 1) := by decide +kernel
theorem dL_isStep_349 : decode cL_isStep 349 = .ok (.iconst 5, 1) := by decide +kernel
theorem dL_isStep_350 : decode cL_isStep 350 = .ok (.invokevirtual 42, 3) := by decide +kernel
theorem dL_isStep_353 : decode cL_isStep 353 = .ok (.iload 9, 2) := by decide +kernel
theorem dL_isStep_355 : decode cL_isStep 355 = .ok (.iload 8, 2) := by decide +kernel
theorem dL_isStep_357 : decode cL_isStep 357 = .ok (.iadd, 1) := by decide +kernel
theorem dL_isStep_358 : decode cL_isStep 358 = .ok (.if_icmp .ne 27, 3) := by decide +kernel
theorem dL_isStep_361 : decode cL_isStep 361 = .ok (.goto 20, 3) := by decide +kernel
theorem dL_isStep_364 : decode cL_isStep 364 = .ok (.iload 10, 2) := by decide +kernel
theorem dL_isStep_366 : decode cL_isStep 366 = .ok (.bipush (-5), 2) := by decide +kernel
theorem dL_isStep_368 : decode cL_isStep 368 = .ok (.if_icmp .ne 17, 3) := by decide +kernel
theorem dL_isStep_371 : decode cL_isStep 371 = .ok (.aload_n 0, 1) := by decide +kernel
theorem dL_isStep_372 : decode cL_isStep 372 = .ok (.iconst 5, 1) := by decide +kernel
theorem dL_isStep_373 : decode cL_isStep 373 = .ok (.invokevirtual 42, 3) := by decide +kernel
theorem dL_isStep_376 : decode cL_isStep 376 = .ok (.iload 9, 2) := by decide +kernel
theorem dL_isStep_378 : decode cL_isStep 378 = .ok (.if_icmp .ne 7, 3) := by decide +kernel
theorem dL_isStep_381 : decode cL_isStep 381 = .ok (.iconst 1, 1) := by decide +kernel
theorem dL_isStep_382 : decode cL_isStep 382 = .ok (.goto 4, 3) := by decide +kernel
theorem dL_isStep_385 : decode cL_isStep 385 = .ok (.iconst 0, 1) := by decide +kernel
theorem dL_isStep_386 : decode cL_isStep 386 = .ok (.ireturn, 1) := by decide +kernel
theorem dL_isStep_387 : decode cL_isStep 387 = .ok (.aload_n 0, 1) := by decide +kernel
theorem dL_isStep_388 : decode cL_isStep 388 = .ok (.iload 5, 2) := by decide +kernel
theorem dL_isStep_390 : decode cL_isStep 390 = .ok (.bipush 6, 2) := by decide +kernel
theorem dL_isStep_392 : decode cL_isStep 392 = .ok (.invokevirtual 38, 3) := by decide +kernel
theorem dL_isStep_395 : decode cL_isStep 395 = .ok (.iconst 1, 1) := by decide +kernel
theorem dL_isStep_396 : decode cL_isStep 396 = .ok (.if_icmp .ne 7, 3) := by decide +kernel
theorem dL_isStep_399 : decode cL_isStep 399 = .ok (.iconst 1, 1) := by decide +kernel
theorem dL_isStep_400 : decode cL_isStep 400 = .ok (.goto 4, 3) := by decide +kernel
theorem dL_isStep_403 : decode cL_isStep 403 = .ok (.iconst 0, 1) := by decide +kernel
theorem dL_isStep_404 : decode cL_isStep 404 = .ok (.istore 6, 2) := by decide +kernel
theorem dL_isStep_406 : decode cL_isStep 406 = .ok (.aload_n 0, 1) := by decide +kernel
theorem dL_isStep_407 : decode cL_isStep 407 = .ok (.iload 5, 2) := by decide +kernel
theorem dL_isStep_409 : decode cL_isStep 409 = .ok (.iconst 3, 1) := by decide +kernel
theorem dL_isStep_410 : decode cL_isStep 410 = .ok (.invokevirtual 38, 3) := by decide +kernel
theorem dL_isStep_413 : decode cL_isStep 413 = .ok (.istore 7, 2) := by decide +kernel
theorem dL_isStep_415 : decode cL_isStep 415 = .ok (.aload_n 0, 1) := by decide +kernel
theorem dL_isStep_416 : decode cL_isStep 416 = .ok (.iload 5, 2) := by decide +kernel
theorem dL_isStep_418 : decode cL_isStep 418 = .ok (.iconst 2, 1) := by decide +kernel
theorem dL_isStep_419 : decode cL_isStep 419 = .ok (.invokevirtual 38, 3) := by decide +kernel
theorem dL_isStep_422 : decode cL_isStep 422 = .ok (.istore 8, 2) := by decide +kernel
theorem dL_isStep_424 : decode cL_isStep 424 = .ok (.aload_n 0, 1) := by decide +kernel
theorem dL_isStep_425 : decode cL_isStep 425 = .ok (.iload 5, 2) := by decide +kernel
theorem dL_isStep_427 : decode cL_isStep 427 = .ok (.invokevirtual 66, 3) := by decide +kernel
theorem dL_isStep_430 : decode cL_isStep 430 = .ok (.istore 9, 2) := by decide +kernel
theorem dL_isStep_432 : decode cL_isStep 432 = .ok (.iload 6, 2) := by decide +kernel
theorem dL_isStep_434 : decode cL_isStep 434 = .ok (.ifCond .ne 27, 3) := by decide +kernel
theorem dL_isStep_437 : decode cL_isStep 437 = .ok (.iload 9, 2) := by decide +kernel
theorem dL_isStep_439 : decode cL_isStep 439 = .ok (.bipush (-5), 2) := by decide +kernel
theorem dL_isStep_441 : decode cL_isStep 441 = .ok (.if_icmp .ne 18, 3) := by decide +kernel
theorem dL_isStep_444 : decode cL_isStep 444 = .ok (.aload_n 1, 1) := by decide +kernel
theorem dL_isStep_445 : decode cL_isStep 445 = .ok (.iload 5, 2) := by decide +kernel
theorem dL_isStep_447 : decode cL_isStep 447 = .ok (.invokevirtual 66, 3) := by decide +kernel
theorem dL_isStep_450 : decode cL_isStep 450 = .ok (.iload 9, 2) := by decide +kernel
theorem dL_isStep_452 : decode cL_isStep 452 = .ok (.if_icmp .ne 7, 3) := by decide +kernel
theorem dL_isStep_455 : decode cL_isStep 455 = .ok (.iconst 1, 1) := by decide +kernel
theorem dL_isStep_456 : decode cL_isStep 456 = .ok (.goto 4, 3) := by decide +kernel
theorem dL_isStep_459 : decode cL_isStep 459 = .ok (.iconst 0, 1) := by decide +kernel
theorem dL_isStep_460 : decode cL_isStep 460 = .ok (.ireturn, 1) := by decide +kernel
theorem dL_isStep_461 : decode cL_isStep 461 = .ok (.iload 9, 2) := by decide +kernel
theorem dL_isStep_463 : decode cL_isStep 463 = .ok (.iload 7, 2) := by decide +kernel
theorem dL_isStep_465 : decode cL_isStep 465 = .ok (.if_icmp .ne 32, 3) := by decide +kernel
theorem dL_isStep_468 : decode cL_isStep 468 = .ok (.aload_n 1, 1) := by decide +kernel
theorem dL_isStep_469 : decode cL_isStep 469 = .ok (.iload 5, 2) := by decide +kernel
theorem dL_isStep_471 : decode cL_isStep 471 = .ok (.iconst (-1), 1) := by decide +kernel
theorem dL_isStep_472 : decode cL_isStep 472 = .ok (.iconst 1, 1) := by decide +kernel
theorem dL_isStep_473 : decode cL_isStep 473 = .ok (.iconst 0, 1) := by decide +kernel
theorem dL_isStep_474 : decode cL_isStep 474 = .ok (.invokestatic 62, 3) := by decide +kernel
theorem dL_isStep_477 : decode cL_isStep 477 = .ok (.ifCond .eq 20, 3) := by decide +kernel
theorem dL_isStep_480 : decode cL_isStep 480 = .ok (.aload_n 1, 1) := by decide +kernel
theorem dL_isStep_481 : decode cL_isStep 481 = .ok (.iload 5, 2) := by decide +kernel
theorem dL_isStep_483 : decode cL_isStep 483 = .ok (.iload 8, 2) := by decide +kernel
theorem dL_isStep_485 : decode cL_isStep 485 = .ok (.iconst 1, 1) := by decide +kernel
theorem dL_isStep_486 : decode cL_isStep 486 = .ok (.iconst 1, 1) := by decide +kernel
theorem dL_isStep_487 : decode cL_isStep 487 = .ok (.invokestatic 62, 3) := by decide +kernel
theorem dL_isStep_490 : decode cL_isStep 490 = .ok (.ifCond .eq 7, 3) := by decide +kernel
theorem dL_isStep_493 : decode cL_isStep 493 = .ok (.iconst 1, 1) := by decide +kernel
theorem dL_isStep_494 : decode cL_isStep 494 = .ok (.goto 4, 3) := by decide +kernel
theorem dL_isStep_497 : decode cL_isStep 497 = .ok (.iconst 0, 1) := by decide +kernel
theorem dL_isStep_498 : decode cL_isStep 498 = .ok (.ireturn, 1) := by decide +kernel
theorem dL_isStep_499 : decode cL_isStep 499 = .ok (.iload_n 3, 1) := by decide +kernel
theorem dL_isStep_500 : decode cL_isStep 500 = .ok (.bipush 17, 2) := by decide +kernel
theorem dL_isStep_502 : decode cL_isStep 502 = .ok (.invokestatic 49, 3) := by decide +kernel
theorem dL_isStep_505 : decode cL_isStep 505 = .ok (.istore 6, 2) := by decide +kernel
theorem dL_isStep_507 : decode cL_isStep 507 = .ok (.aload_n 0, 1) := by decide +kernel
theorem dL_isStep_508 : decode cL_isStep 508 = .ok (.bipush 6, 2) := by decide +kernel
theorem dL_isStep_510 : decode cL_isStep 510 = .ok (.invokevirtual 42, 3) := by decide +kernel
theorem dL_isStep_513 : decode cL_isStep 513 = .ok (.istore 7, 2) := by decide +kernel
theorem dL_isStep_515 : decode cL_isStep 515 = .ok (.aload_n 0, 1) := by decide +kernel
theorem dL_isStep_516 : decode cL_isStep 516 = .ok (.iload 6, 2) := by decide +kernel
theorem dL_isStep_518 : decode cL_isStep 518 = .ok (.invokevirtual 69, 3) := by decide +kernel
theorem dL_isStep_521 : decode cL_isStep 521 = .ok (.istore 8, 2) := by decide +kernel
theorem dL_isStep_523 : decode cL_isStep 523 = .ok (.iload 8, 2) := by decide +kernel
theorem dL_isStep_525 : decode cL_isStep 525 = .ok (.aload_n 1, 1) := by decide +kernel
theorem dL_isStep_526 : decode cL_isStep 526 = .ok (.iload 6, 2) := by decide +kernel
theorem dL_isStep_528 : decode cL_isStep 528 = .ok (.invokevirtual 69, 3) := by decide +kernel
theorem dL_isStep_531 : decode cL_isStep 531 = .ok (.if_icmp .ne 49, 3) := by decide +kernel
theorem dL_isStep_534 : decode cL_isStep 534 = .ok (.iload 8, 2) := by decide +kernel
theorem dL_isStep_536 : decode cL_isStep 536 = .ok (.aload_n 0, 1) := by decide +kernel
theorem dL_isStep_537 : decode cL_isStep 537 = .ok (.iconst 4, 1) := by decide +kernel
theorem dL_isStep_538 : decode cL_isStep 538 = .ok (.invokevirtual 42, 3) := by decide +kernel
theorem dL_isStep_541 : decode cL_isStep 541 = .ok (.iload 6, 2) := by decide +kernel
theorem dL_isStep_543 : decode cL_isStep 543 = .ok (.iload 7, 2) := by decide +kernel
theorem dL_isStep_545 : decode cL_isStep 545 = .ok (.if_icmp .le 11, 3) := by decide +kernel
theorem dL_isStep_548 : decode cL_isStep 548 = .ok (.iload 6, 2) := by decide +kernel
theorem dL_isStep_550 : decode cL_isStep 550 = .ok (.iload 7, 2) := by decide +kernel
theorem dL_isStep_552 : decode cL_isStep 552 = .ok (.isub, 1) := by decide +kernel
theorem dL_isStep_553 : decode cL_isStep 553 = .ok (.goto 8, 3) := by decide +kernel
theorem dL_isStep_556 : decode cL_isStep 556 = .ok (.iload 7, 2) := by decide +kernel
theorem dL_isStep_558 : decode cL_isStep 558 = .ok (.iload 6, 2) := by decide +kernel
theorem dL_isStep_560 : decode cL_isStep 560 = .ok (.isub, 1) := by decide +kernel
theorem dL_isStep_561 : decode cL_isStep 561 = .ok (.imul, 1) := by decide +kernel
theorem dL_isStep_562 : decode cL_isStep 562 = .ok (.if_icmp .ne 18, 3) := by decide +kernel
theorem dL_isStep_565 : decode cL_isStep 565 = .ok (.aload_n 0, 1) := by decide +kernel
theorem dL_isStep_566 : decode cL_isStep 566 = .ok (.bipush 6, 2) := by decide +kernel
theorem dL_isStep_568 : decode cL_isStep 568 = .ok (.invokevirtual 42, 3) := by decide +kernel
theorem dL_isStep_571 : decode cL_isStep 571 = .ok (.iload 6, 2) := by decide +kernel
theorem dL_isStep_573 : decode cL_isStep 573 = .ok (.if_icmp .ne 7, 3) := by decide +kernel
theorem dL_isStep_576 : decode cL_isStep 576 = .ok (.iconst 1, 1) := by decide +kernel
theorem dL_isStep_577 : decode cL_isStep 577 = .ok (.goto 4, 3) := by decide +kernel
theorem dL_isStep_580 : decode cL_isStep 580 = .ok (.iconst 0, 1) := by decide +kernel
theorem dL_isStep_581 : decode cL_isStep 581 = .ok (.ireturn, 1) := by decide +kernel
theorem dL_isStep_582 : decode cL_isStep 582 = .ok (.iconst 1, 1) := by decide +kernel
theorem dL_isStep_583 : decode cL_isStep 583 = .ok (.iload_n 3, 1) := by decide +kernel
theorem dL_isStep_584 : decode cL_isStep 584 = .ok (.iload 4, 2) := by decide +kernel
theorem dL_isStep_586 : decode cL_isStep 586 = .ok (.iconst 3, 1) := by decide +kernel
theorem dL_isStep_587 : decode cL_isStep 587 = .ok (.invokestatic 49, 3) := by decide +kernel
theorem dL_isStep_590 : decode cL_isStep 590 = .ok (.ifCond .ne 9, 3) := by decide +kernel
theorem dL_isStep_593 : decode cL_isStep 593 = .ok (.sipush 9999, 3) := by decide +kernel
theorem dL_isStep_596 : decode cL_isStep 596 = .ok (.goto 5, 3) := by decide +kernel
theorem dL_isStep_599 : decode cL_isStep 599 = .ok (.bipush 20, 2) := by decide +kernel
theorem dL_isStep_601 : decode cL_isStep 601 = .ok (.invokestatic 49, 3) := by decide +kernel
theorem dL_isStep_604 : decode cL_isStep 604 = .ok (.iadd, 1) := by decide +kernel
theorem dL_isStep_605 : decode cL_isStep 605 = .ok (.istore 6, 2) := by decide +kernel
theorem dL_isStep_607 : decode cL_isStep 607 = .ok (.aload_n 0, 1) := by decide +kernel
theorem dL_isStep_608 : decode cL_isStep 608 = .ok (.iconst 5, 1) := by decide +kernel
theorem dL_isStep_609 : decode cL_isStep 609 = .ok (.invokevirtual 42, 3) := by decide +kernel
theorem dL_isStep_612 : decode cL_isStep 612 = .ok (.istore 7, 2) := by decide +kernel
theorem dL_isStep_614 : decode cL_isStep 614 = .ok (.aload_n 0, 1) := by decide +kernel
theorem dL_isStep_615 : decode cL_isStep 615 = .ok (.iload 6, 2) := by decide +kernel
theorem dL_isStep_617 : decode cL_isStep 617 = .ok (.invokevirtual 72, 3) := by decide +kernel
theorem dL_isStep_620 : decode cL_isStep 620 = .ok (.aload_n 1, 1) := by decide +kernel
theorem dL_isStep_621 : decode cL_isStep 621 = .ok (.iload 6, 2) := by decide +kernel
theorem dL_isStep_623 : decode cL_isStep 623 = .ok (.invokevirtual 72, 3) := by decide +kernel
theorem dL_isStep_626 : decode cL_isStep 626 = .ok (.if_icmp .ne 37, 3) := by decide +kernel
theorem dL_isStep_629 : decode cL_isStep 629 = .ok (.aload_n 0, 1) := by decide +kernel
theorem dL_isStep_630 : decode cL_isStep 630 = .ok (.iconst 5, 1) := by decide +kernel
theorem dL_isStep_631 : decode cL_isStep 631 = .ok (.invokevirtual 42, 3) := by decide +kernel
theorem dL_isStep_634 : decode cL_isStep 634 = .ok (.iload 7, 2) := by decide +kernel
theorem dL_isStep_636 : decode cL_isStep 636 = .ok (.iload 6, 2) := by decide +kernel
theorem dL_isStep_638 : decode cL_isStep 638 = .ok (.iadd, 1) := by decide +kernel
theorem dL_isStep_639 : decode cL_isStep 639 = .ok (.if_icmp .ne 24, 3) := by decide +kernel
theorem dL_isStep_642 : decode cL_isStep 642 = .ok (.aload_n 0, 1) := by decide +kernel
theorem dL_isStep_643 : decode cL_isStep 643 = .ok (.bipush 7, 2) := by decide +kernel
theorem dL_isStep_645 : decode cL_isStep 645 = .ok (.invokevirtual 42, 3) := by decide +kernel
theorem dL_isStep_648 : decode cL_isStep 648 = .ok (.iload 7, 2) := by decide +kernel
theorem dL_isStep_650 : decode cL_isStep 650 = .ok (.iload 6, 2) := by decide +kernel
theorem dL_isStep_652 : decode cL_isStep 652 = .ok (.iadd, 1) := by decide +kernel
theorem dL_isStep_653 : decode cL_isStep 653 = .ok (.bipush 12, 2) := by decide +kernel
theorem dL_isStep_655 : decode cL_isStep 655 = .ok (.irem, 1) := by decide +kernel
theorem dL_isStep_656 : decode cL_isStep 656 = .ok (.if_icmp .ne 7, 3) := by decide +kernel
theorem dL_isStep_659 : decode cL_isStep 659 = .ok (.iconst 1, 1) := by decide +kernel
theorem dL_isStep_660 : decode cL_isStep 660 = .ok (.goto 4, 3) := by decide +kernel
theorem dL_isStep_663 : decode cL_isStep 663 = .ok (.iconst 0, 1) := by decide +kernel
theorem dL_isStep_664 : decode cL_isStep 664 = .ok (.ireturn, 1) := by decide +kernel
theorem dL_isStep_665 : decode cL_isStep 665 = .ok (.iload_n 3, 1) := by decide +kernel
theorem dL_isStep_666 : decode cL_isStep 666 = .ok (.iconst 2, 1) := by decide +kernel
theorem dL_isStep_667 : decode cL_isStep 667 = .ok (.invokestatic 49, 3) := by decide +kernel
theorem dL_isStep_670 : decode cL_isStep 670 = .ok (.ifCond .ne 34, 3) := by decide +kernel
theorem dL_isStep_673 : decode cL_isStep 673 = .ok (.aload_n 0, 1) := by decide +kernel
theorem dL_isStep_674 : decode cL_isStep 674 = .ok (.iload 4, 2) := by decide +kernel
theorem dL_isStep_676 : decode cL_isStep 676 = .ok (.iconst 2, 1) := by decide +kernel
theorem dL_isStep_677 : decode cL_isStep 677 = .ok (.invokestatic 49, 3) := by decide +kernel
theorem dL_isStep_680 : decode cL_isStep 680 = .ok (.invokevirtual 75, 3) := by decide +kernel
theorem dL_isStep_683 : decode cL_isStep 683 = .ok (.aload_n 1, 1) := by decide +kernel
theorem dL_isStep_684 : decode cL_isStep 684 = .ok (.iload 4, 2) := by decide +kernel
theorem dL_isStep_686 : decode cL_isStep 686 = .ok (.iconst 2, 1) := by decide +kernel
theorem dL_isStep_687 : decode cL_isStep 687 = .ok (.invokestatic 49, 3) := by decide +kernel
theorem dL_isStep_690 : decode cL_isStep 690 = .ok (.invokevirtual 75, 3) := by decide +kernel
theorem dL_isStep_693 : decode cL_isStep 693 = .ok (.if_icmp .ne 7, 3) := by decide +kernel
theorem dL_isStep_696 : decode cL_isStep 696 = .ok (.iconst 1, 1) := by decide +kernel
theorem dL_isStep_697 : decode cL_isStep 697 = .ok (.goto 35, 3) := by decide +kernel
theorem dL_isStep_700 : decode cL_isStep 700 = .ok (.iconst 0, 1) := by decide +kernel
theorem dL_isStep_701 : decode cL_isStep 701 = .ok (.goto 31, 3) := by decide +kernel
theorem dL_isStep_704 : decode cL_isStep 704 = .ok (.aload_n 0, 1) := by decide +kernel
theorem dL_isStep_705 : decode cL_isStep 705 = .ok (.iload 4, 2) := by decide +kernel
theorem dL_isStep_707 : decode cL_isStep 707 = .ok (.iconst 2, 1) := by decide +kernel
theorem dL_isStep_708 : decode cL_isStep 708 = .ok (.invokestatic 49, 3) := by decide +kernel
theorem dL_isStep_711 : decode cL_isStep 711 = .ok (.invokevirtual 78, 3) := by decide +kernel
theorem dL_isStep_714 : decode cL_isStep 714 = .ok (.aload_n 1, 1) := by decide +kernel
theorem dL_isStep_715 : decode cL_isStep 715 = .ok (.iload 4, 2) := by decide +kernel
theorem dL_isStep_717 : decode cL_isStep 717 = .ok (.iconst 2, 1) := by decide +kernel
theorem dL_isStep_718 : decode cL_isStep 718 = .ok (.invokestatic 49, 3) := by decide +kernel
theorem dL_isStep_721 : decode cL_isStep 721 = .ok (.invokevirtual 78, 3) := by decide +kernel
theorem dL_isStep_724 : decode cL_isStep 724 = .ok (.if_icmp .ne 7, 3) := by decide +kernel
theorem dL_isStep_727 : decode cL_isStep 727 = .ok (.iconst 1, 1) := by decide +kernel
theorem dL_isStep_728 : decode cL_isStep 728 = .ok (.goto 4, 3) := by decide +kernel
theorem dL_isStep_731 : decode cL_isStep 731 = .ok (.iconst 0, 1) := by decide +kernel
theorem dL_isStep_732 : decode cL_isStep 732 = .ok (.ireturn, 1) := by decide +kernel
theorem dL_isStep_733 : decode cL_isStep 733 = .ok (.iload_n 3, 1) := by decide +kernel
theorem dL_isStep_734 : decode cL_isStep 734 = .ok (.sipush 256, 3) := by decide +kernel
theorem dL_isStep_737 : decode cL_isStep 737 = .ok (.invokestatic 49, 3) := by decide +kernel
theorem dL_isStep_740 : decode cL_isStep 740 = .ok (.istore 6, 2) := by decide +kernel
theorem dL_isStep_742 : decode cL_isStep 742 = .ok (.aload_n 0, 1) := by decide +kernel
theorem dL_isStep_743 : decode cL_isStep 743 = .ok (.iload 5, 2) := by decide +kernel
theorem dL_isStep_745 : decode cL_isStep 745 = .ok (.iload 6, 2) := by decide +kernel
theorem dL_isStep_747 : decode cL_isStep 747 = .ok (.invokestatic 81, 3) := by decide +kernel
theorem dL_isStep_750 : decode cL_isStep 750 = .ok (.ifCond .eq 32, 3) := by decide +kernel
theorem dL_isStep_753 : decode cL_isStep 753 = .ok (.aload_n 1, 1) := by decide +kernel
theorem dL_isStep_754 : decode cL_isStep 754 = .ok (.iload 5, 2) := by decide +kernel
theorem dL_isStep_756 : decode cL_isStep 756 = .ok (.iload 6, 2) := by decide +kernel
theorem dL_isStep_758 : decode cL_isStep 758 = .ok (.iconst 1, 1) := by decide +kernel
theorem dL_isStep_759 : decode cL_isStep 759 = .ok (.iload_n 3, 1) := by decide +kernel
theorem dL_isStep_760 : decode cL_isStep 760 = .ok (.iconst 2, 1) := by decide +kernel
theorem dL_isStep_761 : decode cL_isStep 761 = .ok (.invokestatic 49, 3) := by decide +kernel
theorem dL_isStep_764 : decode cL_isStep 764 = .ok (.ifCond .ne 7, 3) := by decide +kernel
theorem dL_isStep_767 : decode cL_isStep 767 = .ok (.iconst 1, 1) := by decide +kernel
theorem dL_isStep_768 : decode cL_isStep 768 = .ok (.goto 4, 3) := by decide +kernel
theorem dL_isStep_771 : decode cL_isStep 771 = .ok (.iconst 0, 1) := by decide +kernel
theorem dL_isStep_772 : decode cL_isStep 772 = .ok (.invokestatic 62, 3) := by decide +kernel
theorem dL_isStep_775 : decode cL_isStep 775 = .ok (.ifCond .eq 7, 3) := by decide +kernel
theorem dL_isStep_778 : decode cL_isStep 778 = .ok (.iconst 1, 1) := by decide +kernel
theorem dL_isStep_779 : decode cL_isStep 779 = .ok (.goto 4, 3) := by decide +kernel
theorem dL_isStep_782 : decode cL_isStep 782 = .ok (.iconst 0, 1) := by decide +kernel
theorem dL_isStep_783 : decode cL_isStep 783 = .ok (.ireturn, 1) := by decide +kernel
set_option maxRecDepth 20000 in
theorem ggL_areAlike_X4_worst : GoodIn wsL_areAlike wsX4_worst := goodIn_r _ [5, 6, 7, 8, 9, 10, 11, 12, 13, 4, 14, 15, 16, 17, 18, 19, 20, 21, 22, 23, 24, 25, 26, 27, 28, 29, 30, 31, 32, 33, 34, 182, 183, 184, 185, 186, 187, 188, 189, 190, 191, 192, 193, 194, 195, 196] rfl (by decide +kernel)
set_option maxRecDepth 20000 in
theorem gL_areAlike_X4_worst : GoodIn wsL_areAlike (wsV RL 85 RX4 yX4_worst wsX4_worst) := goodIn_app (goodIn_of _ (by decide +kernel)) ggL_areAlike_X4_worst
set_option maxRecDepth 20000 in
theorem ggL_areAlike_X4_count : GoodIn wsL_areAlike wsX4_count := goodIn_r _ [38, 39, 6, 40, 41, 42, 43, 44, 45, 46, 47, 30, 31, 10, 32, 33, 13, 4, 14, 48, 49, 50, 51, 52, 53, 54, 55, 56, 57, 58, 59, 60, 61, 62, 8, 9, 11, 12, 63, 64, 65, 66, 67, 19, 20, 21, 22, 23, 68, 69, 70, 71, 72, 16, 17, 18, 24, 25, 26, 27, 28, 29, 73, 74, 75, 76, 77, 78, 79, 80, 81, 82, 83, 84, 85, 86, 87, 88, 89, 90, 91, 92, 93, 182, 183, 184, 185, 186, 187, 188, 189, 190, 191, 192, 193, 194, 195, 196, 197, 198, 199, 200, 201] rfl (by decide +kernel)
set_option maxRecDepth 20000 in
theorem gL_areAlike_X4_count : GoodIn wsL_areAlike (wsV RL 42 RX4 yX4_count wsX4_count) := goodIn_app (goodIn_of _ (by decide +kernel)) ggL_areAlike_X4_count
set_option maxRecDepth 20000 in
theorem ggL_areAlike_X4_sector : GoodIn wsL_areAlike wsX4_sector := goodIn_r _ [97, 6, 98, 99, 4, 100, 7, 8, 9, 10, 11, 12, 13, 14, 101, 66, 67, 102, 103, 104, 105, 23, 34, 25, 26, 27, 28, 106, 107, 108, 109, 81, 110, 111, 112, 15, 16, 17, 18, 19, 20, 21, 22, 24, 29, 30, 31, 32, 33, 182, 183, 184, 185, 186, 187, 188, 189, 190, 191, 192, 193, 194, 195, 196] rfl (by decide +kernel)
set_option maxRecDepth 20000 in
theorem gL_areAlike_X4_sector : GoodIn wsL_areAlike (wsV RL 38 RX4 yX4_sector wsX4_sector) := goodIn_app (goodIn_of _ (by decide +kernel)) ggL_areAlike_X4_sector
set_option maxRecDepth 20000 in
theorem ggL_areAlike_X4_ticksFor : GoodIn wsL_areAlike wsX4_ticksFor := goodIn_r _ [116, 6, 98, 99, 4, 100, 117, 118, 119, 10, 120, 57, 62, 8, 9, 11, 12, 13, 14, 121, 107, 108, 109, 81, 29, 30, 31, 32, 33, 122, 54, 55, 56, 7, 123, 124, 125, 126, 52, 66, 67, 127, 128, 129, 130, 131, 132, 133, 92, 134, 135, 136, 137, 138, 182, 183, 184, 185, 186, 187, 188, 189, 190, 191, 192, 193, 194, 195, 196] rfl (by decide +kernel)
set_option maxRecDepth 20000 in
theorem gL_areAlike_X4_ticksFor : GoodIn wsL_areAlike (wsV RL 55 RX4 yX4_ticksFor wsX4_ticksFor) := goodIn_app (goodIn_of _ (by decide +kernel)) ggL_areAlike_X4_ticksFor
set_option maxRecDepth 20000 in
theorem ggL_areAlike_L_up : GoodIn wsL_areAlike wsL_up := goodIn_r _ [142, 143] rfl (by decide +kernel)
set_option maxRecDepth 20000 in
theorem gL_areAlike_L_up : GoodIn wsL_areAlike (va_wsS RL 49 yL_up wsL_up) := goodIn_app (goodIn_of _ (by decide +kernel)) ggL_areAlike_L_up
set_option maxRecDepth 20000 in
theorem ggL_areAlike_X4_untilLost : GoodIn wsL_areAlike wsX4_untilLost := goodIn_r _ [147, 6, 98, 99, 4, 100, 7, 8, 9, 10, 11, 12, 13, 14, 15, 16, 17, 18, 19, 20, 21, 22, 23, 24, 25, 26, 27, 28, 29, 30, 31, 32, 33, 148, 149, 150, 151, 152, 153, 154, 155, 156, 81, 57, 157, 52, 131, 158, 159, 160, 161, 92, 162, 163, 164, 165, 166, 117, 118, 119, 120, 62, 121, 107, 108, 109, 122, 54, 55, 56, 167, 168, 169, 170, 171, 172, 111, 112, 173, 174, 175, 176, 177, 178, 179, 180, 181, 182, 183, 184, 185, 186, 187, 188, 189, 190, 191, 192, 193, 194, 195, 196] rfl (by decide +kernel)
set_option maxRecDepth 20000 in
theorem gL_areAlike_X4_untilLost : GoodIn wsL_areAlike (wsV RL 88 RX4 yX4_untilLost wsX4_untilLost) := goodIn_app (goodIn_of _ (by decide +kernel)) ggL_areAlike_X4_untilLost
theorem dL_areAlike_0 : decode cL_areAlike 0 = .ok (.aload_n 0, 1) := by decide +kernel
theorem dL_areAlike_1 : decode cL_areAlike 1 = .ok (.invokevirtual 85, 3) := by decide +kernel
theorem dL_areAlike_4 : decode cL_areAlike 4 = .ok (.aload_n 1, 1) := by decide +kernel
theorem dL_areAlike_5 : decode cL_areAlike 5 = .ok (.invokevirtual 85, 3) := by decide +kernel
theorem dL_areAlike_8 : decode cL_areAlike 8 = .ok (.if_icmp .ne 7, 3) := by decide +kernel
theorem dL_areAlike_11 : decode cL_areAlike 11 = .ok (.iconst 1, 1) := by decide +kernel
theorem dL_areAlike_12 : decode cL_areAlike 12 = .ok (.goto 4, 3) := by decide +kernel
theorem dL_areAlike_15 : decode cL_areAlike 15 = .ok (.iconst 0, 1) := by decide +kernel
theorem dL_areAlike_16 : decode cL_areAlike 16 = .ok (.istore_n 3, 1) := by decide +kernel
theorem dL_areAlike_17 : decode cL_areAlike 17 = .ok (.iconst 0, 1) := by decide +kernel
theorem dL_areAlike_18 : decode cL_areAlike 18 = .ok (.istore 4, 2) := by decide +kernel
theorem dL_areAlike_20 : decode cL_areAlike 20 = .ok (.iload 4, 2) := by decide +kernel
theorem dL_areAlike_22 : decode cL_areAlike 22 = .ok (.bipush 16, 2) := by decide +kernel
theorem dL_areAlike_24 : decode cL_areAlike 24 = .ok (.if_icmp .ge 34, 3) := by decide +kernel
theorem dL_areAlike_27 : decode cL_areAlike 27 = .ok (.iload_n 3, 1) := by decide +kernel
theorem dL_areAlike_28 : decode cL_areAlike 28 = .ok (.ifCond .eq 22, 3) := by decide +kernel
theorem dL_areAlike_31 : decode cL_areAlike 31 = .ok (.aload_n 0, 1) := by decide +kernel
theorem dL_areAlike_32 : decode cL_areAlike 32 = .ok (.iload 4, 2) := by decide +kernel
theorem dL_areAlike_34 : decode cL_areAlike 34 = .ok (.invokevirtual 42, 3) := by decide +kernel
theorem dL_areAlike_37 : decode cL_areAlike 37 = .ok (.aload_n 1, 1) := by decide +kernel
theorem dL_areAlike_38 : decode cL_areAlike 38 = .ok (.iload 4, 2) := by decide +kernel
theorem dL_areAlike_40 : decode cL_areAlike 40 = .ok (.invokevirtual 42, 3) := by decide +kernel
theorem dL_areAlike_43 : decode cL_areAlike 43 = .ok (.if_icmp .ne 7, 3) := by decide +kernel
theorem dL_areAlike_46 : decode cL_areAlike 46 = .ok (.iconst 1, 1) := by decide +kernel
theorem dL_areAlike_47 : decode cL_areAlike 47 = .ok (.goto 4, 3) := by decide +kernel
theorem dL_areAlike_50 : decode cL_areAlike 50 = .ok (.iconst 0, 1) := by decide +kernel
theorem dL_areAlike_51 : decode cL_areAlike 51 = .ok (.istore_n 3, 1) := by decide +kernel
theorem dL_areAlike_52 : decode cL_areAlike 52 = .ok (.iinc 4 1, 3) := by decide +kernel
theorem dL_areAlike_55 : decode cL_areAlike 55 = .ok (.goto (-35), 3) := by decide +kernel
theorem dL_areAlike_58 : decode cL_areAlike 58 = .ok (.iconst 0, 1) := by decide +kernel
theorem dL_areAlike_59 : decode cL_areAlike 59 = .ok (.istore 4, 2) := by decide +kernel
theorem dL_areAlike_61 : decode cL_areAlike 61 = .ok (.iload 4, 2) := by decide +kernel
theorem dL_areAlike_63 : decode cL_areAlike 63 = .ok (.sipush 192, 3) := by decide +kernel
theorem dL_areAlike_66 : decode cL_areAlike 66 = .ok (.if_icmp .ge 98, 3) := by decide +kernel
theorem dL_areAlike_69 : decode cL_areAlike 69 = .ok (.iconst 0, 1) := by decide +kernel
theorem dL_areAlike_70 : decode cL_areAlike 70 = .ok (.istore 5, 2) := by decide +kernel
theorem dL_areAlike_72 : decode cL_areAlike 72 = .ok (.iload 5, 2) := by decide +kernel
theorem dL_areAlike_74 : decode cL_areAlike 74 = .ok (.bipush 7, 2) := by decide +kernel
theorem dL_areAlike_76 : decode cL_areAlike 76 = .ok (.if_icmp .ge 38, 3) := by decide +kernel
theorem dL_areAlike_79 : decode cL_areAlike 79 = .ok (.iload_n 3, 1) := by decide +kernel
theorem dL_areAlike_80 : decode cL_areAlike 80 = .ok (.ifCond .eq 26, 3) := by decide +kernel
theorem dL_areAlike_83 : decode cL_areAlike 83 = .ok (.aload_n 0, 1) := by decide +kernel
theorem dL_areAlike_84 : decode cL_areAlike 84 = .ok (.iload 4, 2) := by decide +kernel
theorem dL_areAlike_86 : decode cL_areAlike 86 = .ok (.iload 5, 2) := by decide +kernel
theorem dL_areAlike_88 : decode cL_areAlike 88 = .ok (.invokevirtual 38, 3) := by decide +kernel
theorem dL_areAlike_91 : decode cL_areAlike 91 = .ok (.aload_n 1, 1) := by decide +kernel
theorem dL_areAlike_92 : decode cL_areAlike 92 = .ok (.iload 4, 2) := by decide +kernel
theorem dL_areAlike_94 : decode cL_areAlike 94 = .ok (.iload 5, 2) := by decide +kernel
theorem dL_areAlike_96 : decode cL_areAlike 96 = .ok (.invokevirtual 38, 3) := by decide +kernel
theorem dL_areAlike_99 : decode cL_areAlike 99 = .ok (.if_icmp .ne 7, 3) := by decide +kernel
theorem dL_areAlike_102 : decode cL_areAlike 102 = .ok (.iconst 1, 1) := by decide +kernel
theorem dL_areAlike_103 : decode cL_areAlike 103 = .ok (.goto 4, 3) := by decide +kernel
theorem dL_areAlike_106 : decode cL_areAlike 106 = .ok (.iconst 0, 1) := by decide +kernel
theorem dL_areAlike_107 : decode cL_areAlike 107 = .ok (.istore_n 3, 1) := by decide +kernel
theorem dL_areAlike_108 : decode cL_areAlike 108 = .ok (.iinc 5 1, 3) := by decide +kernel
theorem dL_areAlike_111 : decode cL_areAlike 111 = .ok (.goto (-39), 3) := by decide +kernel
theorem dL_areAlike_114 : decode cL_areAlike 114 = .ok (.iload_n 3, 1) := by decide +kernel
theorem dL_areAlike_115 : decode cL_areAlike 115 = .ok (.ifCond .eq 41, 3) := by decide +kernel
theorem dL_areAlike_118 : decode cL_areAlike 118 = .ok (.aload_n 0, 1) := by decide +kernel
theorem dL_areAlike_119 : decode cL_areAlike 119 = .ok (.iload 4, 2) := by decide +kernel
theorem dL_areAlike_121 : decode cL_areAlike 121 = .ok (.iconst 1, 1) := by decide +kernel
theorem dL_areAlike_122 : decode cL_areAlike 122 = .ok (.invokevirtual 55, 3) := by decide +kernel
theorem dL_areAlike_125 : decode cL_areAlike 125 = .ok (.aload_n 1, 1) := by decide +kernel
theorem dL_areAlike_126 : decode cL_areAlike 126 = .ok (.iload 4, 2) := by decide +kernel
theorem dL_areAlike_128 : decode cL_areAlike 128 = .ok (.iconst 1, 1) := by decide +kernel
theorem dL_areAlike_129 : decode cL_areAlike 129 = .ok (.invokevirtual 55, 3) := by decide +kernel
theorem dL_areAlike_132 : decode cL_areAlike 132 = .ok (.if_icmp .ne 24, 3) := by decide +kernel
theorem dL_areAlike_135 : decode cL_areAlike 135 = .ok (.aload_n 0, 1) := by decide +kernel
theorem dL_areAlike_136 : decode cL_areAlike 136 = .ok (.iload 4, 2) := by decide +kernel
theorem dL_areAlike_138 : decode cL_areAlike 138 = .ok (.iconst 0, 1) := by decide +kernel
theorem dL_areAlike_139 : decode cL_areAlike 139 = .ok (.invokevirtual 55, 3) := by decide +kernel
theorem dL_areAlike_142 : decode cL_areAlike 142 = .ok (.aload_n 1, 1) := by decide +kernel
theorem dL_areAlike_143 : decode cL_areAlike 143 = .ok (.iload 4, 2) := by decide +kernel
theorem dL_areAlike_145 : decode cL_areAlike 145 = .ok (.iconst 0, 1) := by decide +kernel
theorem dL_areAlike_146 : decode cL_areAlike 146 = .ok (.invokevirtual 55, 3) := by decide +kernel
theorem dL_areAlike_149 : decode cL_areAlike 149 = .ok (.if_icmp .ne 7, 3) := by decide +kernel
theorem dL_areAlike_152 : decode cL_areAlike 152 = .ok (.iconst 1, 1) := by decide +kernel
theorem dL_areAlike_153 : decode cL_areAlike 153 = .ok (.goto 4, 3) := by decide +kernel
theorem dL_areAlike_156 : decode cL_areAlike 156 = .ok (.iconst 0, 1) := by decide +kernel
theorem dL_areAlike_157 : decode cL_areAlike 157 = .ok (.istore_n 3, 1) := by decide +kernel
theorem dL_areAlike_158 : decode cL_areAlike 158 = .ok (.iinc 4 1, 3) := by decide +kernel
theorem dL_areAlike_161 : decode cL_areAlike 161 = .ok (.goto (-100), 3) := by decide +kernel
theorem dL_areAlike_164 : decode cL_areAlike 164 = .ok (.bipush 12, 2) := by decide +kernel
theorem dL_areAlike_166 : decode cL_areAlike 166 = .ok (.iload_n 2, 1) := by decide +kernel
theorem dL_areAlike_167 : decode cL_areAlike 167 = .ok (.bipush 6, 2) := by decide +kernel
theorem dL_areAlike_169 : decode cL_areAlike 169 = .ok (.invokestatic 49, 3) := by decide +kernel
theorem dL_areAlike_172 : decode cL_areAlike 172 = .ok (.imul, 1) := by decide +kernel
theorem dL_areAlike_173 : decode cL_areAlike 173 = .ok (.iload_n 2, 1) := by decide +kernel
theorem dL_areAlike_174 : decode cL_areAlike 174 = .ok (.iconst 3, 1) := by decide +kernel
theorem dL_areAlike_175 : decode cL_areAlike 175 = .ok (.ishr, 1) := by decide +kernel
theorem dL_areAlike_176 : decode cL_areAlike 176 = .ok (.iconst 2, 1) := by decide +kernel
theorem dL_areAlike_177 : decode cL_areAlike 177 = .ok (.invokestatic 49, 3) := by decide +kernel
theorem dL_areAlike_180 : decode cL_areAlike 180 = .ok (.iadd, 1) := by decide +kernel
theorem dL_areAlike_181 : decode cL_areAlike 181 = .ok (.istore 4, 2) := by decide +kernel
theorem dL_areAlike_183 : decode cL_areAlike 183 = .ok (.bipush 12, 2) := by decide +kernel
theorem dL_areAlike_185 : decode cL_areAlike 185 = .ok (.iload_n 2, 1) := by decide +kernel
theorem dL_areAlike_186 : decode cL_areAlike 186 = .ok (.iconst 5, 1) := by decide +kernel
theorem dL_areAlike_187 : decode cL_areAlike 187 = .ok (.ishr, 1) := by decide +kernel
theorem dL_areAlike_188 : decode cL_areAlike 188 = .ok (.bipush 6, 2) := by decide +kernel
theorem dL_areAlike_190 : decode cL_areAlike 190 = .ok (.invokestatic 49, 3) := by decide +kernel
theorem dL_areAlike_193 : decode cL_areAlike 193 = .ok (.imul, 1) := by decide +kernel
theorem dL_areAlike_194 : decode cL_areAlike 194 = .ok (.iload_n 2, 1) := by decide +kernel
theorem dL_areAlike_195 : decode cL_areAlike 195 = .ok (.iconst 3, 1) := by decide +kernel
theorem dL_areAlike_196 : decode cL_areAlike 196 = .ok (.ishr, 1) := by decide +kernel
theorem dL_areAlike_197 : decode cL_areAlike 197 = .ok (.iconst 2, 1) := by decide +kernel
theorem dL_areAlike_198 : decode cL_areAlike 198 = .ok (.invokestatic 49, 3) := by decide +kernel
theorem dL_areAlike_201 : decode cL_areAlike 201 = .ok (.iadd, 1) := by decide +kernel
theorem dL_areAlike_202 : decode cL_areAlike 202 = .ok (.istore 5, 2) := by decide +kernel
theorem dL_areAlike_204 : decode cL_areAlike 204 = .ok (.iload_n 3, 1) := by decide +kernel
theorem dL_areAlike_205 : decode cL_areAlike 205 = .ok (.ifCond .eq 26, 3) := by decide +kernel
theorem dL_areAlike_208 : decode cL_areAlike 208 = .ok (.aload_n 0, 1) := by decide +kernel
theorem dL_areAlike_209 : decode cL_areAlike 209 = .ok (.iload 4, 2) := by decide +kernel
theorem dL_areAlike_211 : decode cL_areAlike 211 = .ok (.iload 5, 2) := by decide +kernel
theorem dL_areAlike_213 : decode cL_areAlike 213 = .ok (.invokevirtual 88, 3) := by decide +kernel
theorem dL_areAlike_216 : decode cL_areAlike 216 = .ok (.aload_n 1, 1) := by decide +kernel
theorem dL_areAlike_217 : decode cL_areAlike 217 = .ok (.iload 4, 2) := by decide +kernel
theorem dL_areAlike_219 : decode cL_areAlike 219 = .ok (.iload 5, 2) := by decide +kernel
theorem dL_areAlike_221 : decode cL_areAlike 221 = .ok (.invokevirtual 88, 3) := by decide +kernel
theorem dL_areAlike_224 : decode cL_areAlike 224 = .ok (.if_icmp .ne 7, 3) := by decide +kernel
theorem dL_areAlike_227 : decode cL_areAlike 227 = .ok (.iconst 1, 1) := by decide +kernel
theorem dL_areAlike_228 : decode cL_areAlike 228 = .ok (.goto 4, 3) := by decide +kernel
theorem dL_areAlike_231 : decode cL_areAlike 231 = .ok (.iconst 0, 1) := by decide +kernel
theorem dL_areAlike_232 : decode cL_areAlike 232 = .ok (.ireturn, 1) := by decide +kernel
set_option maxRecDepth 20000 in
theorem ggL_isWell_X4_sector : GoodIn wsL_isWell wsX4_sector := goodIn_r _ [5, 6, 7, 8, 4, 9, 10, 11, 12, 13, 14, 15, 16, 17, 18, 19, 20, 21, 22, 23, 24, 25, 26, 27, 28, 29, 30, 31, 32, 33, 34, 35, 36, 37, 38, 39, 40, 41, 42, 43, 44, 45, 46, 47, 48, 49, 50, 51, 52, 124, 125, 126, 127, 128, 129, 130, 131, 132, 133, 134, 135, 136, 137, 138] rfl (by decide +kernel)
set_option maxRecDepth 20000 in
theorem gL_isWell_X4_sector : GoodIn wsL_isWell (wsV RL 38 RX4 yX4_sector wsX4_sector) := goodIn_app (goodIn_of _ (by decide +kernel)) ggL_isWell_X4_sector
set_option maxRecDepth 20000 in
theorem ggL_isWell_X4_count : GoodIn wsL_isWell wsX4_count := goodIn_r _ [56, 57, 6, 58, 59, 60, 61, 62, 63, 64, 65, 49, 50, 13, 51, 52, 16, 4, 17, 66, 67, 68, 69, 70, 71, 72, 73, 74, 75, 76, 77, 78, 79, 80, 11, 12, 14, 15, 81, 82, 83, 19, 20, 43, 44, 45, 46, 25, 84, 85, 86, 87, 88, 40, 41, 42, 47, 27, 28, 29, 30, 48, 89, 90, 91, 92, 93, 94, 95, 96, 35, 97, 98, 99, 100, 101, 102, 103, 104, 105, 106, 107, 108, 124, 125, 126, 127, 128, 129, 130, 131, 132, 133, 134, 135, 136, 137, 138, 139, 140, 141, 142, 143] rfl (by decide +kernel)
set_option maxRecDepth 20000 in
theorem gL_isWell_X4_count : GoodIn wsL_isWell (wsV RL 42 RX4 yX4_count wsX4_count) := goodIn_app (goodIn_of _ (by decide +kernel)) ggL_isWell_X4_count
set_option maxRecDepth 20000 in
theorem ggL_isWell_X4_track : GoodIn wsL_isWell wsX4_track := goodIn_r _ [112, 6, 113, 114, 4, 115, 76, 77, 78, 13, 79, 80, 11, 12, 14, 15, 16, 17, 81, 82, 83, 19, 20, 43, 44, 45, 46, 25, 84, 85, 86, 87, 88, 40, 41, 42, 47, 27, 28, 29, 30, 48, 49, 50, 51, 52, 116, 117, 118, 119, 97, 98, 99, 100, 94, 95, 96, 35, 124, 125, 126, 127, 128, 129, 130, 131, 132, 133, 134, 135, 136, 137, 138] rfl (by decide +kernel)
set_option maxRecDepth 20000 in
theorem gL_isWell_X4_track : GoodIn wsL_isWell (wsV RL 91 RX4 yX4_track wsX4_track) := goodIn_app (goodIn_of _ (by decide +kernel)) ggL_isWell_X4_track
set_option maxRecDepth 20000 in
theorem ggL_isWell_X4_worst : GoodIn wsL_isWell wsX4_worst := goodIn_r _ [123, 6, 10, 11, 12, 13, 14, 15, 16, 4, 17, 39, 40, 41, 42, 43, 44, 45, 46, 25, 47, 27, 28, 29, 30, 48, 49, 50, 51, 52, 26, 124, 125, 126, 127, 128, 129, 130, 131, 132, 133, 134, 135, 136, 137, 138] rfl (by decide +kernel)
set_option maxRecDepth 20000 in
theorem gL_isWell_X4_worst : GoodIn wsL_isWell (wsV RL 85 RX4 yX4_worst wsX4_worst) := goodIn_app (goodIn_of _ (by decide +kernel)) ggL_isWell_X4_worst
theorem dL_isWell_0 : decode cL_isWell 0 = .ok (.iconst 0, 1) := by decide +kernel
theorem dL_isWell_1 : decode cL_isWell 1 = .ok (.istore_n 1, 1) := by decide +kernel
theorem dL_isWell_2 : decode cL_isWell 2 = .ok (.iconst 0, 1) := by decide +kernel
theorem dL_isWell_3 : decode cL_isWell 3 = .ok (.istore_n 2, 1) := by decide +kernel
theorem dL_isWell_4 : decode cL_isWell 4 = .ok (.iconst 0, 1) := by decide +kernel
theorem dL_isWell_5 : decode cL_isWell 5 = .ok (.istore_n 3, 1) := by decide +kernel
theorem dL_isWell_6 : decode cL_isWell 6 = .ok (.iconst 0, 1) := by decide +kernel
theorem dL_isWell_7 : decode cL_isWell 7 = .ok (.istore 4, 2) := by decide +kernel
theorem dL_isWell_9 : decode cL_isWell 9 = .ok (.bipush (-6), 2) := by decide +kernel
theorem dL_isWell_11 : decode cL_isWell 11 = .ok (.istore 5, 2) := by decide +kernel
theorem dL_isWell_13 : decode cL_isWell 13 = .ok (.iconst 1, 1) := by decide +kernel
theorem dL_isWell_14 : decode cL_isWell 14 = .ok (.istore 6, 2) := by decide +kernel
theorem dL_isWell_16 : decode cL_isWell 16 = .ok (.iconst 0, 1) := by decide +kernel
theorem dL_isWell_17 : decode cL_isWell 17 = .ok (.istore 7, 2) := by decide +kernel
theorem dL_isWell_19 : decode cL_isWell 19 = .ok (.iload 7, 2) := by decide +kernel
theorem dL_isWell_21 : decode cL_isWell 21 = .ok (.sipush 192, 3) := by decide +kernel
theorem dL_isWell_24 : decode cL_isWell 24 = .ok (.if_icmp .ge 265, 3) := by decide +kernel
theorem dL_isWell_27 : decode cL_isWell 27 = .ok (.aload_n 0, 1) := by decide +kernel
theorem dL_isWell_28 : decode cL_isWell 28 = .ok (.iload 7, 2) := by decide +kernel
theorem dL_isWell_30 : decode cL_isWell 30 = .ok (.iconst 3, 1) := by decide +kernel
theorem dL_isWell_31 : decode cL_isWell 31 = .ok (.invokevirtual 38, 3) := by decide +kernel
theorem dL_isWell_34 : decode cL_isWell 34 = .ok (.istore 8, 2) := by decide +kernel
theorem dL_isWell_36 : decode cL_isWell 36 = .ok (.aload_n 0, 1) := by decide +kernel
theorem dL_isWell_37 : decode cL_isWell 37 = .ok (.iload 7, 2) := by decide +kernel
theorem dL_isWell_39 : decode cL_isWell 39 = .ok (.iconst 2, 1) := by decide +kernel
theorem dL_isWell_40 : decode cL_isWell 40 = .ok (.invokevirtual 38, 3) := by decide +kernel
theorem dL_isWell_43 : decode cL_isWell 43 = .ok (.bipush (-6), 2) := by decide +kernel
theorem dL_isWell_45 : decode cL_isWell 45 = .ok (.if_icmp .eq 7, 3) := by decide +kernel
theorem dL_isWell_48 : decode cL_isWell 48 = .ok (.iconst 1, 1) := by decide +kernel
theorem dL_isWell_49 : decode cL_isWell 49 = .ok (.goto 4, 3) := by decide +kernel
theorem dL_isWell_52 : decode cL_isWell 52 = .ok (.iconst 0, 1) := by decide +kernel
theorem dL_isWell_53 : decode cL_isWell 53 = .ok (.istore 9, 2) := by decide +kernel
theorem dL_isWell_55 : decode cL_isWell 55 = .ok (.aload_n 0, 1) := by decide +kernel
theorem dL_isWell_56 : decode cL_isWell 56 = .ok (.iload 7, 2) := by decide +kernel
theorem dL_isWell_58 : decode cL_isWell 58 = .ok (.bipush 6, 2) := by decide +kernel
theorem dL_isWell_60 : decode cL_isWell 60 = .ok (.invokevirtual 38, 3) := by decide +kernel
theorem dL_isWell_63 : decode cL_isWell 63 = .ok (.iconst 1, 1) := by decide +kernel
theorem dL_isWell_64 : decode cL_isWell 64 = .ok (.if_icmp .ne 7, 3) := by decide +kernel
theorem dL_isWell_67 : decode cL_isWell 67 = .ok (.iconst 1, 1) := by decide +kernel
theorem dL_isWell_68 : decode cL_isWell 68 = .ok (.goto 4, 3) := by decide +kernel
theorem dL_isWell_71 : decode cL_isWell 71 = .ok (.iconst 0, 1) := by decide +kernel
theorem dL_isWell_72 : decode cL_isWell 72 = .ok (.istore 10, 2) := by decide +kernel
theorem dL_isWell_74 : decode cL_isWell 74 = .ok (.iload_n 1, 1) := by decide +kernel
theorem dL_isWell_75 : decode cL_isWell 75 = .ok (.iload 9, 2) := by decide +kernel
theorem dL_isWell_77 : decode cL_isWell 77 = .ok (.ifCond .eq 7, 3) := by decide +kernel
theorem dL_isWell_80 : decode cL_isWell 80 = .ok (.iconst 1, 1) := by decide +kernel
theorem dL_isWell_81 : decode cL_isWell 81 = .ok (.goto 4, 3) := by decide +kernel
theorem dL_isWell_84 : decode cL_isWell 84 = .ok (.iconst 0, 1) := by decide +kernel
theorem dL_isWell_85 : decode cL_isWell 85 = .ok (.iadd, 1) := by decide +kernel
theorem dL_isWell_86 : decode cL_isWell 86 = .ok (.istore_n 1, 1) := by decide +kernel
theorem dL_isWell_87 : decode cL_isWell 87 = .ok (.iload_n 2, 1) := by decide +kernel
theorem dL_isWell_88 : decode cL_isWell 88 = .ok (.iload 9, 2) := by decide +kernel
theorem dL_isWell_90 : decode cL_isWell 90 = .ok (.ifCond .eq 12, 3) := by decide +kernel
theorem dL_isWell_93 : decode cL_isWell 93 = .ok (.iload 10, 2) := by decide +kernel
theorem dL_isWell_95 : decode cL_isWell 95 = .ok (.ifCond .ne 7, 3) := by decide +kernel
theorem dL_isWell_98 : decode cL_isWell 98 = .ok (.iconst 1, 1) := by decide +kernel
theorem dL_isWell_99 : decode cL_isWell 99 = .ok (.goto 4, 3) := by decide +kernel
theorem dL_isWell_102 : decode cL_isWell 102 = .ok (.iconst 0, 1) := by decide +kernel
theorem dL_isWell_103 : decode cL_isWell 103 = .ok (.iadd, 1) := by decide +kernel
theorem dL_isWell_104 : decode cL_isWell 104 = .ok (.istore_n 2, 1) := by decide +kernel
theorem dL_isWell_105 : decode cL_isWell 105 = .ok (.iload 8, 2) := by decide +kernel
theorem dL_isWell_107 : decode cL_isWell 107 = .ok (.iload_n 3, 1) := by decide +kernel
theorem dL_isWell_108 : decode cL_isWell 108 = .ok (.if_icmp .le 8, 3) := by decide +kernel
theorem dL_isWell_111 : decode cL_isWell 111 = .ok (.iload 8, 2) := by decide +kernel
theorem dL_isWell_113 : decode cL_isWell 113 = .ok (.goto 4, 3) := by decide +kernel
theorem dL_isWell_116 : decode cL_isWell 116 = .ok (.iload_n 3, 1) := by decide +kernel
theorem dL_isWell_117 : decode cL_isWell 117 = .ok (.istore_n 3, 1) := by decide +kernel
theorem dL_isWell_118 : decode cL_isWell 118 = .ok (.iload 4, 2) := by decide +kernel
theorem dL_isWell_120 : decode cL_isWell 120 = .ok (.aload_n 0, 1) := by decide +kernel
theorem dL_isWell_121 : decode cL_isWell 121 = .ok (.iload 7, 2) := by decide +kernel
theorem dL_isWell_123 : decode cL_isWell 123 = .ok (.iconst 5, 1) := by decide +kernel
theorem dL_isWell_124 : decode cL_isWell 124 = .ok (.invokevirtual 38, 3) := by decide +kernel
theorem dL_isWell_127 : decode cL_isWell 127 = .ok (.iadd, 1) := by decide +kernel
theorem dL_isWell_128 : decode cL_isWell 128 = .ok (.istore 4, 2) := by decide +kernel
theorem dL_isWell_130 : decode cL_isWell 130 = .ok (.iload 10, 2) := by decide +kernel
theorem dL_isWell_132 : decode cL_isWell 132 = .ok (.ifCond .eq 27, 3) := by decide +kernel
theorem dL_isWell_135 : decode cL_isWell 135 = .ok (.iload 5, 2) := by decide +kernel
theorem dL_isWell_137 : decode cL_isWell 137 = .ok (.bipush (-6), 2) := by decide +kernel
theorem dL_isWell_139 : decode cL_isWell 139 = .ok (.if_icmp .eq 15, 3) := by decide +kernel
theorem dL_isWell_142 : decode cL_isWell 142 = .ok (.iload 8, 2) := by decide +kernel
theorem dL_isWell_144 : decode cL_isWell 144 = .ok (.aload_n 0, 1) := by decide +kernel
theorem dL_isWell_145 : decode cL_isWell 145 = .ok (.iload 5, 2) := by decide +kernel
theorem dL_isWell_147 : decode cL_isWell 147 = .ok (.iconst 3, 1) := by decide +kernel
theorem dL_isWell_148 : decode cL_isWell 148 = .ok (.invokevirtual 38, 3) := by decide +kernel
theorem dL_isWell_151 : decode cL_isWell 151 = .ok (.if_icmp .le 8, 3) := by decide +kernel
theorem dL_isWell_154 : decode cL_isWell 154 = .ok (.iload 7, 2) := by decide +kernel
theorem dL_isWell_156 : decode cL_isWell 156 = .ok (.goto 5, 3) := by decide +kernel
theorem dL_isWell_159 : decode cL_isWell 159 = .ok (.iload 5, 2) := by decide +kernel
theorem dL_isWell_161 : decode cL_isWell 161 = .ok (.istore 5, 2) := by decide +kernel
theorem dL_isWell_163 : decode cL_isWell 163 = .ok (.iload 6, 2) := by decide +kernel
theorem dL_isWell_165 : decode cL_isWell 165 = .ok (.ifCond .eq 115, 3) := by decide +kernel
theorem dL_isWell_168 : decode cL_isWell 168 = .ok (.iload 10, 2) := by decide +kernel
theorem dL_isWell_170 : decode cL_isWell 170 = .ok (.iload 9, 2) := by decide +kernel
theorem dL_isWell_172 : decode cL_isWell 172 = .ok (.ifCond .eq 17, 3) := by decide +kernel
theorem dL_isWell_175 : decode cL_isWell 175 = .ok (.iload 8, 2) := by decide +kernel
theorem dL_isWell_177 : decode cL_isWell 177 = .ok (.aload_n 0, 1) := by decide +kernel
theorem dL_isWell_178 : decode cL_isWell 178 = .ok (.iconst 2, 1) := by decide +kernel
theorem dL_isWell_179 : decode cL_isWell 179 = .ok (.invokevirtual 42, 3) := by decide +kernel
theorem dL_isWell_182 : decode cL_isWell 182 = .ok (.if_icmp .ge 7, 3) := by decide +kernel
theorem dL_isWell_185 : decode cL_isWell 185 = .ok (.iconst 1, 1) := by decide +kernel
theorem dL_isWell_186 : decode cL_isWell 186 = .ok (.goto 4, 3) := by decide +kernel
theorem dL_isWell_189 : decode cL_isWell 189 = .ok (.iconst 0, 1) := by decide +kernel
theorem dL_isWell_190 : decode cL_isWell 190 = .ok (.if_icmp .ne 90, 3) := by decide +kernel
theorem dL_isWell_193 : decode cL_isWell 193 = .ok (.iload 9, 2) := by decide +kernel
theorem dL_isWell_195 : decode cL_isWell 195 = .ok (.ifCond .ne 18, 3) := by decide +kernel
theorem dL_isWell_198 : decode cL_isWell 198 = .ok (.iload 8, 2) := by decide +kernel
theorem dL_isWell_200 : decode cL_isWell 200 = .ok (.ifCond .ne 80, 3) := by decide +kernel
theorem dL_isWell_203 : decode cL_isWell 203 = .ok (.aload_n 0, 1) := by decide +kernel
theorem dL_isWell_204 : decode cL_isWell 204 = .ok (.iload 7, 2) := by decide +kernel
theorem dL_isWell_206 : decode cL_isWell 206 = .ok (.iconst 4, 1) := by decide +kernel
theorem dL_isWell_207 : decode cL_isWell 207 = .ok (.invokevirtual 38, 3) := by decide +kernel
theorem dL_isWell_210 : decode cL_isWell 210 = .ok (.ifCond .ne 70, 3) := by decide +kernel
theorem dL_isWell_213 : decode cL_isWell 213 = .ok (.aload_n 0, 1) := by decide +kernel
theorem dL_isWell_214 : decode cL_isWell 214 = .ok (.iload 7, 2) := by decide +kernel
theorem dL_isWell_216 : decode cL_isWell 216 = .ok (.iconst 5, 1) := by decide +kernel
theorem dL_isWell_217 : decode cL_isWell 217 = .ok (.invokevirtual 38, 3) := by decide +kernel
theorem dL_isWell_220 : decode cL_isWell 220 = .ok (.iconst 1, 1) := by decide +kernel
theorem dL_isWell_221 : decode cL_isWell 221 = .ok (.if_icmp .ne 18, 3) := by decide +kernel
theorem dL_isWell_224 : decode cL_isWell 224 = .ok (.aload_n 0, 1) := by decide +kernel
theorem dL_isWell_225 : decode cL_isWell 225 = .ok (.iload 7, 2) := by decide +kernel
theorem dL_isWell_227 : decode cL_isWell 227 = .ok (.iconst 0, 1) := by decide +kernel
theorem dL_isWell_228 : decode cL_isWell 228 = .ok (.invokevirtual 38, 3) := by decide +kernel
theorem dL_isWell_231 : decode cL_isWell 231 = .ok (.bipush 16, 2) := by decide +kernel
theorem dL_isWell_233 : decode cL_isWell 233 = .ok (.if_icmp .ne 47, 3) := by decide +kernel
theorem dL_isWell_236 : decode cL_isWell 236 = .ok (.goto 33, 3) := by decide +kernel
theorem dL_isWell_239 : decode cL_isWell 239 = .ok (.aload_n 0, 1) := by decide +kernel
theorem dL_isWell_240 : decode cL_isWell 240 = .ok (.iload 7, 2) := by decide +kernel
theorem dL_isWell_242 : decode cL_isWell 242 = .ok (.iconst 0, 1) := by decide +kernel
theorem dL_isWell_243 : decode cL_isWell 243 = .ok (.invokevirtual 38, 3) := by decide +kernel
theorem dL_isWell_246 : decode cL_isWell 246 = .ok (.iload 7, 2) := by decide +kernel
theorem dL_isWell_248 : decode cL_isWell 248 = .ok (.bipush 12, 2) := by decide +kernel
theorem dL_isWell_250 : decode cL_isWell 250 = .ok (.idiv, 1) := by decide +kernel
theorem dL_isWell_251 : decode cL_isWell 251 = .ok (.if_icmp .ne 29, 3) := by decide +kernel
theorem dL_isWell_254 : decode cL_isWell 254 = .ok (.aload_n 0, 1) := by decide +kernel
theorem dL_isWell_255 : decode cL_isWell 255 = .ok (.iload 7, 2) := by decide +kernel
theorem dL_isWell_257 : decode cL_isWell 257 = .ok (.iconst 1, 1) := by decide +kernel
theorem dL_isWell_258 : decode cL_isWell 258 = .ok (.invokevirtual 38, 3) := by decide +kernel
theorem dL_isWell_261 : decode cL_isWell 261 = .ok (.iload 7, 2) := by decide +kernel
theorem dL_isWell_263 : decode cL_isWell 263 = .ok (.bipush 12, 2) := by decide +kernel
theorem dL_isWell_265 : decode cL_isWell 265 = .ok (.irem, 1) := by decide +kernel
theorem dL_isWell_266 : decode cL_isWell 266 = .ok (.if_icmp .ne 14, 3) := by decide +kernel
theorem dL_isWell_269 : decode cL_isWell 269 = .ok (.iload 8, 2) := by decide +kernel
theorem dL_isWell_271 : decode cL_isWell 271 = .ok (.bipush 99, 2) := by decide +kernel
theorem dL_isWell_273 : decode cL_isWell 273 = .ok (.if_icmp .gt 7, 3) := by decide +kernel
theorem dL_isWell_276 : decode cL_isWell 276 = .ok (.iconst 1, 1) := by decide +kernel
theorem dL_isWell_277 : decode cL_isWell 277 = .ok (.goto 4, 3) := by decide +kernel
theorem dL_isWell_280 : decode cL_isWell 280 = .ok (.iconst 0, 1) := by decide +kernel
theorem dL_isWell_281 : decode cL_isWell 281 = .ok (.istore 6, 2) := by decide +kernel
theorem dL_isWell_283 : decode cL_isWell 283 = .ok (.iinc 7 1, 3) := by decide +kernel
theorem dL_isWell_286 : decode cL_isWell 286 = .ok (.goto (-267), 3) := by decide +kernel
theorem dL_isWell_289 : decode cL_isWell 289 = .ok (.iconst 0, 1) := by decide +kernel
theorem dL_isWell_290 : decode cL_isWell 290 = .ok (.istore 7, 2) := by decide +kernel
theorem dL_isWell_292 : decode cL_isWell 292 = .ok (.iconst 0, 1) := by decide +kernel
theorem dL_isWell_293 : decode cL_isWell 293 = .ok (.istore 8, 2) := by decide +kernel
theorem dL_isWell_295 : decode cL_isWell 295 = .ok (.iconst 0, 1) := by decide +kernel
theorem dL_isWell_296 : decode cL_isWell 296 = .ok (.istore 9, 2) := by decide +kernel
theorem dL_isWell_298 : decode cL_isWell 298 = .ok (.iconst 0, 1) := by decide +kernel
theorem dL_isWell_299 : decode cL_isWell 299 = .ok (.istore 10, 2) := by decide +kernel
theorem dL_isWell_301 : decode cL_isWell 301 = .ok (.iconst 0, 1) := by decide +kernel
theorem dL_isWell_302 : decode cL_isWell 302 = .ok (.istore 11, 2) := by decide +kernel
theorem dL_isWell_304 : decode cL_isWell 304 = .ok (.iload 11, 2) := by decide +kernel
theorem dL_isWell_306 : decode cL_isWell 306 = .ok (.bipush 17, 2) := by decide +kernel
theorem dL_isWell_308 : decode cL_isWell 308 = .ok (.if_icmp .ge 75, 3) := by decide +kernel
theorem dL_isWell_311 : decode cL_isWell 311 = .ok (.iload 7, 2) := by decide +kernel
theorem dL_isWell_313 : decode cL_isWell 313 = .ok (.aload_n 0, 1) := by decide +kernel
theorem dL_isWell_314 : decode cL_isWell 314 = .ok (.iload 11, 2) := by decide +kernel
theorem dL_isWell_316 : decode cL_isWell 316 = .ok (.iconst 0, 1) := by decide +kernel
theorem dL_isWell_317 : decode cL_isWell 317 = .ok (.invokevirtual 91, 3) := by decide +kernel
theorem dL_isWell_320 : decode cL_isWell 320 = .ok (.iadd, 1) := by decide +kernel
theorem dL_isWell_321 : decode cL_isWell 321 = .ok (.istore 7, 2) := by decide +kernel
theorem dL_isWell_323 : decode cL_isWell 323 = .ok (.iload 8, 2) := by decide +kernel
theorem dL_isWell_325 : decode cL_isWell 325 = .ok (.aload_n 0, 1) := by decide +kernel
theorem dL_isWell_326 : decode cL_isWell 326 = .ok (.iload 11, 2) := by decide +kernel
theorem dL_isWell_328 : decode cL_isWell 328 = .ok (.iconst 1, 1) := by decide +kernel
theorem dL_isWell_329 : decode cL_isWell 329 = .ok (.invokevirtual 91, 3) := by decide +kernel
theorem dL_isWell_332 : decode cL_isWell 332 = .ok (.iadd, 1) := by decide +kernel
theorem dL_isWell_333 : decode cL_isWell 333 = .ok (.istore 8, 2) := by decide +kernel
theorem dL_isWell_335 : decode cL_isWell 335 = .ok (.iload 9, 2) := by decide +kernel
theorem dL_isWell_337 : decode cL_isWell 337 = .ok (.aload_n 0, 1) := by decide +kernel
theorem dL_isWell_338 : decode cL_isWell 338 = .ok (.iload 11, 2) := by decide +kernel
theorem dL_isWell_340 : decode cL_isWell 340 = .ok (.iconst 3, 1) := by decide +kernel
theorem dL_isWell_341 : decode cL_isWell 341 = .ok (.invokevirtual 91, 3) := by decide +kernel
theorem dL_isWell_344 : decode cL_isWell 344 = .ok (.iadd, 1) := by decide +kernel
theorem dL_isWell_345 : decode cL_isWell 345 = .ok (.istore 9, 2) := by decide +kernel
theorem dL_isWell_347 : decode cL_isWell 347 = .ok (.iload 10, 2) := by decide +kernel
theorem dL_isWell_349 : decode cL_isWell 349 = .ok (.iload 11, 2) := by decide +kernel
theorem dL_isWell_351 : decode cL_isWell 351 = .ok (.bipush 16, 2) := by decide +kernel
theorem dL_isWell_353 : decode cL_isWell 353 = .ok (.if_icmp .ge 20, 3) := by decide +kernel
theorem dL_isWell_356 : decode cL_isWell 356 = .ok (.iload 11, 2) := by decide +kernel
theorem dL_isWell_358 : decode cL_isWell 358 = .ok (.iconst 2, 1) := by decide +kernel
theorem dL_isWell_359 : decode cL_isWell 359 = .ok (.irem, 1) := by decide +kernel
theorem dL_isWell_360 : decode cL_isWell 360 = .ok (.ifCond .ne 13, 3) := by decide +kernel
theorem dL_isWell_363 : decode cL_isWell 363 = .ok (.aload_n 0, 1) := by decide +kernel
theorem dL_isWell_364 : decode cL_isWell 364 = .ok (.iload 11, 2) := by decide +kernel
theorem dL_isWell_366 : decode cL_isWell 366 = .ok (.iconst 3, 1) := by decide +kernel
theorem dL_isWell_367 : decode cL_isWell 367 = .ok (.invokevirtual 91, 3) := by decide +kernel
theorem dL_isWell_370 : decode cL_isWell 370 = .ok (.goto 4, 3) := by decide +kernel
theorem dL_isWell_373 : decode cL_isWell 373 = .ok (.iconst 0, 1) := by decide +kernel
theorem dL_isWell_374 : decode cL_isWell 374 = .ok (.iadd, 1) := by decide +kernel
theorem dL_isWell_375 : decode cL_isWell 375 = .ok (.istore 10, 2) := by decide +kernel
theorem dL_isWell_377 : decode cL_isWell 377 = .ok (.iinc 11 1, 3) := by decide +kernel
theorem dL_isWell_380 : decode cL_isWell 380 = .ok (.goto (-76), 3) := by decide +kernel
theorem dL_isWell_383 : decode cL_isWell 383 = .ok (.iload 6, 2) := by decide +kernel
theorem dL_isWell_385 : decode cL_isWell 385 = .ok (.ifCond .eq 133, 3) := by decide +kernel
theorem dL_isWell_388 : decode cL_isWell 388 = .ok (.iload 7, 2) := by decide +kernel
theorem dL_isWell_390 : decode cL_isWell 390 = .ok (.iload_n 1, 1) := by decide +kernel
theorem dL_isWell_391 : decode cL_isWell 391 = .ok (.if_icmp .ne 127, 3) := by decide +kernel
theorem dL_isWell_394 : decode cL_isWell 394 = .ok (.iload 8, 2) := by decide +kernel
theorem dL_isWell_396 : decode cL_isWell 396 = .ok (.iload_n 2, 1) := by decide +kernel
theorem dL_isWell_397 : decode cL_isWell 397 = .ok (.if_icmp .ne 121, 3) := by decide +kernel
theorem dL_isWell_400 : decode cL_isWell 400 = .ok (.iload_n 1, 1) := by decide +kernel
theorem dL_isWell_401 : decode cL_isWell 401 = .ok (.aload_n 0, 1) := by decide +kernel
theorem dL_isWell_402 : decode cL_isWell 402 = .ok (.bipush 9, 2) := by decide +kernel
theorem dL_isWell_404 : decode cL_isWell 404 = .ok (.invokevirtual 42, 3) := by decide +kernel
theorem dL_isWell_407 : decode cL_isWell 407 = .ok (.if_icmp .ne 111, 3) := by decide +kernel
theorem dL_isWell_410 : decode cL_isWell 410 = .ok (.iload_n 2, 1) := by decide +kernel
theorem dL_isWell_411 : decode cL_isWell 411 = .ok (.aload_n 0, 1) := by decide +kernel
theorem dL_isWell_412 : decode cL_isWell 412 = .ok (.bipush 10, 2) := by decide +kernel
theorem dL_isWell_414 : decode cL_isWell 414 = .ok (.invokevirtual 42, 3) := by decide +kernel
theorem dL_isWell_417 : decode cL_isWell 417 = .ok (.if_icmp .ne 101, 3) := by decide +kernel
theorem dL_isWell_420 : decode cL_isWell 420 = .ok (.iload_n 3, 1) := by decide +kernel
theorem dL_isWell_421 : decode cL_isWell 421 = .ok (.aload_n 0, 1) := by decide +kernel
theorem dL_isWell_422 : decode cL_isWell 422 = .ok (.bipush 15, 2) := by decide +kernel
theorem dL_isWell_424 : decode cL_isWell 424 = .ok (.invokevirtual 42, 3) := by decide +kernel
theorem dL_isWell_427 : decode cL_isWell 427 = .ok (.if_icmp .ne 91, 3) := by decide +kernel
theorem dL_isWell_430 : decode cL_isWell 430 = .ok (.iload 9, 2) := by decide +kernel
theorem dL_isWell_432 : decode cL_isWell 432 = .ok (.aload_n 0, 1) := by decide +kernel
theorem dL_isWell_433 : decode cL_isWell 433 = .ok (.bipush 11, 2) := by decide +kernel
theorem dL_isWell_435 : decode cL_isWell 435 = .ok (.invokevirtual 42, 3) := by decide +kernel
theorem dL_isWell_438 : decode cL_isWell 438 = .ok (.if_icmp .ne 80, 3) := by decide +kernel
theorem dL_isWell_441 : decode cL_isWell 441 = .ok (.iload 10, 2) := by decide +kernel
theorem dL_isWell_443 : decode cL_isWell 443 = .ok (.aload_n 0, 1) := by decide +kernel
theorem dL_isWell_444 : decode cL_isWell 444 = .ok (.bipush 13, 2) := by decide +kernel
theorem dL_isWell_446 : decode cL_isWell 446 = .ok (.invokevirtual 42, 3) := by decide +kernel
theorem dL_isWell_449 : decode cL_isWell 449 = .ok (.if_icmp .ne 69, 3) := by decide +kernel
theorem dL_isWell_452 : decode cL_isWell 452 = .ok (.iload 9, 2) := by decide +kernel
theorem dL_isWell_454 : decode cL_isWell 454 = .ok (.iload 10, 2) := by decide +kernel
theorem dL_isWell_456 : decode cL_isWell 456 = .ok (.isub, 1) := by decide +kernel
theorem dL_isWell_457 : decode cL_isWell 457 = .ok (.aload_n 0, 1) := by decide +kernel
theorem dL_isWell_458 : decode cL_isWell 458 = .ok (.bipush 16, 2) := by decide +kernel
theorem dL_isWell_460 : decode cL_isWell 460 = .ok (.iconst 3, 1) := by decide +kernel
theorem dL_isWell_461 : decode cL_isWell 461 = .ok (.invokevirtual 91, 3) := by decide +kernel
theorem dL_isWell_464 : decode cL_isWell 464 = .ok (.isub, 1) := by decide +kernel
theorem dL_isWell_465 : decode cL_isWell 465 = .ok (.aload_n 0, 1) := by decide +kernel
theorem dL_isWell_466 : decode cL_isWell 466 = .ok (.bipush 14, 2) := by decide +kernel
theorem dL_isWell_468 : decode cL_isWell 468 = .ok (.invokevirtual 42, 3) := by decide +kernel
theorem dL_isWell_471 : decode cL_isWell 471 = .ok (.if_icmp .ne 47, 3) := by decide +kernel
theorem dL_isWell_474 : decode cL_isWell 474 = .ok (.iload 4, 2) := by decide +kernel
theorem dL_isWell_476 : decode cL_isWell 476 = .ok (.bipush 12, 2) := by decide +kernel
theorem dL_isWell_478 : decode cL_isWell 478 = .ok (.aload_n 0, 1) := by decide +kernel
theorem dL_isWell_479 : decode cL_isWell 479 = .ok (.bipush 8, 2) := by decide +kernel
theorem dL_isWell_481 : decode cL_isWell 481 = .ok (.invokevirtual 42, 3) := by decide +kernel
theorem dL_isWell_484 : decode cL_isWell 484 = .ok (.isub, 1) := by decide +kernel
theorem dL_isWell_485 : decode cL_isWell 485 = .ok (.if_icmp .gt 33, 3) := by decide +kernel
theorem dL_isWell_488 : decode cL_isWell 488 = .ok (.iload 5, 2) := by decide +kernel
theorem dL_isWell_490 : decode cL_isWell 490 = .ok (.aload_n 0, 1) := by decide +kernel
theorem dL_isWell_491 : decode cL_isWell 491 = .ok (.invokevirtual 85, 3) := by decide +kernel
theorem dL_isWell_494 : decode cL_isWell 494 = .ok (.if_icmp .ne 24, 3) := by decide +kernel
theorem dL_isWell_497 : decode cL_isWell 497 = .ok (.aload_n 0, 1) := by decide +kernel
theorem dL_isWell_498 : decode cL_isWell 498 = .ok (.bipush 7, 2) := by decide +kernel
theorem dL_isWell_500 : decode cL_isWell 500 = .ok (.invokevirtual 42, 3) := by decide +kernel
theorem dL_isWell_503 : decode cL_isWell 503 = .ok (.aload_n 0, 1) := by decide +kernel
theorem dL_isWell_504 : decode cL_isWell 504 = .ok (.iconst 5, 1) := by decide +kernel
theorem dL_isWell_505 : decode cL_isWell 505 = .ok (.invokevirtual 42, 3) := by decide +kernel
theorem dL_isWell_508 : decode cL_isWell 508 = .ok (.bipush 12, 2) := by decide +kernel
theorem dL_isWell_510 : decode cL_isWell 510 = .ok (.irem, 1) := by decide +kernel
theorem dL_isWell_511 : decode cL_isWell 511 = .ok (.if_icmp .ne 7, 3) := by decide +kernel
theorem dL_isWell_514 : decode cL_isWell 514 = .ok (.iconst 1, 1) := by decide +kernel
theorem dL_isWell_515 : decode cL_isWell 515 = .ok (.goto 4, 3) := by decide +kernel
theorem dL_isWell_518 : decode cL_isWell 518 = .ok (.iconst 0, 1) := by decide +kernel
theorem dL_isWell_519 : decode cL_isWell 519 = .ok (.ireturn, 1) := by decide +kernel
