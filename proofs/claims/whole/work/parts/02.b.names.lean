set_option maxRecDepth 20000 in
theorem ggX0_init_X2_init : GoodIn wsX0_init wsX2_init := goodIn_r _ [10, 11, 2, 3, 12, 13, 14, 15] (by decide +kernel) (by decide +kernel)
set_option maxRecDepth 20000 in
theorem gX0_init_X2_init_n13 : GoodIn wsX0_init (wsX2_init) := ggX0_init_X2_init
theorem dX0_init_0 : decode cX0_init 0 = .ok (.aload_n 0, 1) := by decide +kernel
theorem dX0_init_1 : decode cX0_init 1 = .ok (.invokespecial 5, 3) := by decide +kernel
theorem dX0_init_4 : decode cX0_init 4 = .ok (.aload_n 0, 1) := by decide +kernel
theorem dX0_init_5 : decode cX0_init 5 = .ok (.new 11, 3) := by decide +kernel
theorem dX0_init_8 : decode cX0_init 8 = .ok (.dup, 1) := by decide +kernel
theorem dX0_init_9 : decode cX0_init 9 = .ok (.invokespecial 13, 3) := by decide +kernel
theorem dX0_init_12 : decode cX0_init 12 = .ok (.putfield 14, 3) := by decide +kernel
theorem dX0_init_15 : decode cX0_init 15 = .ok (.aload_n 0, 1) := by decide +kernel
theorem dX0_init_16 : decode cX0_init 16 = .ok (.new 11, 3) := by decide +kernel
theorem dX0_init_19 : decode cX0_init 19 = .ok (.dup, 1) := by decide +kernel
theorem dX0_init_20 : decode cX0_init 20 = .ok (.invokespecial 13, 3) := by decide +kernel
theorem dX0_init_23 : decode cX0_init 23 = .ok (.putfield 18, 3) := by decide +kernel
theorem dX0_init_26 : decode cX0_init 26 = .ok (.return_, 1) := by decide +kernel
set_option maxRecDepth 20000 in
theorem ggX0_commonDivisor_X2_order : GoodIn wsX0_commonDivisor wsX2_order := goodIn_r _ [7, 8, 9, 135, 136] (by decide +kernel) (by decide +kernel)
set_option maxRecDepth 20000 in
theorem gX0_commonDivisor_X2_order : GoodIn wsX0_commonDivisor (wsV RX0 21 RX2 yX2_order wsX2_order) := goodIn_app (goodIn_of _ (by decide +kernel)) ggX0_commonDivisor_X2_order
set_option maxRecDepth 20000 in
theorem ggX0_commonDivisor_X2_take : GoodIn wsX0_commonDivisor wsX2_take := goodIn_r _ [13, 9, 8, 14, 15, 16, 17, 135, 136] (by decide +kernel) (by decide +kernel)
set_option maxRecDepth 20000 in
theorem gX0_commonDivisor_X2_take : GoodIn wsX0_commonDivisor (wsV RX0 25 RX2 yX2_take wsX2_take) := goodIn_app (goodIn_of _ (by decide +kernel)) ggX0_commonDivisor_X2_take
set_option maxRecDepth 20000 in
theorem ggX0_commonDivisor_X2_isZero : GoodIn wsX0_commonDivisor wsX2_isZero := goodIn_r _ [21, 8, 135, 136] (by decide +kernel) (by decide +kernel)
set_option maxRecDepth 20000 in
theorem gX0_commonDivisor_X2_isZero : GoodIn wsX0_commonDivisor (wsV RX0 29 RX2 yX2_isZero wsX2_isZero) := goodIn_app (goodIn_of _ (by decide +kernel)) ggX0_commonDivisor_X2_isZero
set_option maxRecDepth 20000 in
theorem ggX0_commonDivisor_X0_foreseeSteps : GoodIn wsX0_commonDivisor wsX0_foreseeSteps := goodIn_r _ [26, 1, 27, 28, 29, 30, 2, 31, 32, 33, 34, 35, 36, 37, 6, 38, 8, 39, 40, 41, 42, 43, 44, 45, 46, 9, 47, 48, 49, 50, 51, 52, 53, 25, 54, 55, 56, 57, 58, 59, 129, 130, 131, 132, 133, 134, 135, 136] (by decide +kernel) (by decide +kernel)
set_option maxRecDepth 20000 in
theorem gX0_commonDivisor_X0_foreseeSteps : GoodIn wsX0_commonDivisor (wsV RX0 33 RX0 yX0_foreseeSteps wsX0_foreseeSteps) := goodIn_app (goodIn_of _ (by decide +kernel)) ggX0_commonDivisor_X0_foreseeSteps
set_option maxRecDepth 20000 in
theorem ggX0_commonDivisor_X0_takeForeseenSteps : GoodIn wsX0_commonDivisor wsX0_takeForeseenSteps := goodIn_r _ [63, 1, 64, 2, 65, 31, 32, 33, 34, 66, 67, 68, 69, 6, 70, 8, 9, 71, 72, 73, 74, 75, 76, 29, 77, 78, 28, 30, 129, 130, 131, 132, 133, 134, 135, 136] (by decide +kernel) (by decide +kernel)
set_option maxRecDepth 20000 in
theorem gX0_commonDivisor_X0_takeForeseenSteps : GoodIn wsX0_commonDivisor (wsV RX0 36 RX0 yX0_takeForeseenSteps wsX0_takeForeseenSteps) := goodIn_app (goodIn_of _ (by decide +kernel)) ggX0_commonDivisor_X0_takeForeseenSteps
set_option maxRecDepth 20000 in
theorem ggX0_commonDivisor_X0_takeStep : GoodIn wsX0_commonDivisor wsX0_takeStep := goodIn_r _ [82, 1, 2, 83, 84, 85, 86, 87, 88, 89, 90, 91, 92, 76, 29, 77, 93, 28, 30, 94, 95, 96, 19, 20, 6, 21, 8, 97, 40, 41, 42, 43, 44, 45, 46, 9, 47, 48, 49, 50, 51, 98, 99, 100, 101, 75, 59, 102, 72, 73, 74, 78, 103, 68, 69, 70, 104, 105, 106, 107, 108, 109, 110, 111, 112, 113, 114, 115, 116, 117, 118, 119, 120, 121, 122, 123, 124, 125, 126, 127, 128, 56, 57, 58, 10, 11, 12, 13, 14, 15, 16, 17, 129, 130, 131, 132, 133, 134, 137, 138, 139, 135, 136] (by decide +kernel) (by decide +kernel)
set_option maxRecDepth 20000 in
theorem gX0_commonDivisor_X0_takeStep : GoodIn wsX0_commonDivisor (wsV RX0 39 RX0 yX0_takeStep wsX0_takeStep) := goodIn_app (goodIn_of _ (by decide +kernel)) ggX0_commonDivisor_X0_takeStep
theorem dX0_commonDivisor_0 : decode cX0_commonDivisor 0 = .ok (.aload_n 1, 1) := by decide +kernel
theorem dX0_commonDivisor_1 : decode cX0_commonDivisor 1 = .ok (.aload_n 2, 1) := by decide +kernel
theorem dX0_commonDivisor_2 : decode cX0_commonDivisor 2 = .ok (.invokevirtual 21, 3) := by decide +kernel
theorem dX0_commonDivisor_5 : decode cX0_commonDivisor 5 = .ok (.ifCond .lt 7, 3) := by decide +kernel
theorem dX0_commonDivisor_8 : decode cX0_commonDivisor 8 = .ok (.iconst 1, 1) := by decide +kernel
theorem dX0_commonDivisor_9 : decode cX0_commonDivisor 9 = .ok (.goto 4, 3) := by decide +kernel
theorem dX0_commonDivisor_12 : decode cX0_commonDivisor 12 = .ok (.iconst 0, 1) := by decide +kernel
theorem dX0_commonDivisor_13 : decode cX0_commonDivisor 13 = .ok (.istore 4, 2) := by decide +kernel
theorem dX0_commonDivisor_15 : decode cX0_commonDivisor 15 = .ok (.aload_n 0, 1) := by decide +kernel
theorem dX0_commonDivisor_16 : decode cX0_commonDivisor 16 = .ok (.getfield 14, 3) := by decide +kernel
theorem dX0_commonDivisor_19 : decode cX0_commonDivisor 19 = .ok (.iload 4, 2) := by decide +kernel
theorem dX0_commonDivisor_21 : decode cX0_commonDivisor 21 = .ok (.ifCond .eq 7, 3) := by decide +kernel
theorem dX0_commonDivisor_24 : decode cX0_commonDivisor 24 = .ok (.aload_n 1, 1) := by decide +kernel
theorem dX0_commonDivisor_25 : decode cX0_commonDivisor 25 = .ok (.goto 4, 3) := by decide +kernel
theorem dX0_commonDivisor_28 : decode cX0_commonDivisor 28 = .ok (.aload_n 2, 1) := by decide +kernel
theorem dX0_commonDivisor_29 : decode cX0_commonDivisor 29 = .ok (.invokevirtual 25, 3) := by decide +kernel
theorem dX0_commonDivisor_32 : decode cX0_commonDivisor 32 = .ok (.aload_n 0, 1) := by decide +kernel
theorem dX0_commonDivisor_33 : decode cX0_commonDivisor 33 = .ok (.getfield 18, 3) := by decide +kernel
theorem dX0_commonDivisor_36 : decode cX0_commonDivisor 36 = .ok (.iload 4, 2) := by decide +kernel
theorem dX0_commonDivisor_38 : decode cX0_commonDivisor 38 = .ok (.ifCond .eq 7, 3) := by decide +kernel
theorem dX0_commonDivisor_41 : decode cX0_commonDivisor 41 = .ok (.aload_n 2, 1) := by decide +kernel
theorem dX0_commonDivisor_42 : decode cX0_commonDivisor 42 = .ok (.goto 4, 3) := by decide +kernel
theorem dX0_commonDivisor_45 : decode cX0_commonDivisor 45 = .ok (.aload_n 1, 1) := by decide +kernel
theorem dX0_commonDivisor_46 : decode cX0_commonDivisor 46 = .ok (.invokevirtual 25, 3) := by decide +kernel
theorem dX0_commonDivisor_49 : decode cX0_commonDivisor 49 = .ok (.iconst 0, 1) := by decide +kernel
theorem dX0_commonDivisor_50 : decode cX0_commonDivisor 50 = .ok (.istore 5, 2) := by decide +kernel
theorem dX0_commonDivisor_52 : decode cX0_commonDivisor 52 = .ok (.iload 5, 2) := by decide +kernel
theorem dX0_commonDivisor_54 : decode cX0_commonDivisor 54 = .ok (.sipush 8194, 3) := by decide +kernel
theorem dX0_commonDivisor_57 : decode cX0_commonDivisor 57 = .ok (.if_icmp .ge 38, 3) := by decide +kernel
theorem dX0_commonDivisor_60 : decode cX0_commonDivisor 60 = .ok (.aload_n 0, 1) := by decide +kernel
theorem dX0_commonDivisor_61 : decode cX0_commonDivisor 61 = .ok (.getfield 18, 3) := by decide +kernel
theorem dX0_commonDivisor_64 : decode cX0_commonDivisor 64 = .ok (.invokevirtual 29, 3) := by decide +kernel
theorem dX0_commonDivisor_67 : decode cX0_commonDivisor 67 = .ok (.ifCond .ne 28, 3) := by decide +kernel
theorem dX0_commonDivisor_70 : decode cX0_commonDivisor 70 = .ok (.aload_n 0, 1) := by decide +kernel
theorem dX0_commonDivisor_71 : decode cX0_commonDivisor 71 = .ok (.invokevirtual 33, 3) := by decide +kernel
theorem dX0_commonDivisor_74 : decode cX0_commonDivisor 74 = .ok (.ifCond .eq 10, 3) := by decide +kernel
theorem dX0_commonDivisor_77 : decode cX0_commonDivisor 77 = .ok (.aload_n 0, 1) := by decide +kernel
theorem dX0_commonDivisor_78 : decode cX0_commonDivisor 78 = .ok (.invokevirtual 36, 3) := by decide +kernel
theorem dX0_commonDivisor_81 : decode cX0_commonDivisor 81 = .ok (.goto 8, 3) := by decide +kernel
theorem dX0_commonDivisor_84 : decode cX0_commonDivisor 84 = .ok (.aload_n 0, 1) := by decide +kernel
theorem dX0_commonDivisor_85 : decode cX0_commonDivisor 85 = .ok (.aload_n 3, 1) := by decide +kernel
theorem dX0_commonDivisor_86 : decode cX0_commonDivisor 86 = .ok (.invokevirtual 39, 3) := by decide +kernel
theorem dX0_commonDivisor_89 : decode cX0_commonDivisor 89 = .ok (.iinc 5 1, 3) := by decide +kernel
theorem dX0_commonDivisor_92 : decode cX0_commonDivisor 92 = .ok (.goto (-40), 3) := by decide +kernel
theorem dX0_commonDivisor_95 : decode cX0_commonDivisor 95 = .ok (.aload_n 0, 1) := by decide +kernel
theorem dX0_commonDivisor_96 : decode cX0_commonDivisor 96 = .ok (.getfield 14, 3) := by decide +kernel
theorem dX0_commonDivisor_99 : decode cX0_commonDivisor 99 = .ok (.areturn, 1) := by decide +kernel
set_option maxRecDepth 20000 in
theorem ggX0_takeStep_X1_split : GoodIn wsX0_takeStep wsX1_split := goodIn_r _ [8, 9, 10, 11, 12, 13, 14, 15, 16, 17, 18, 19, 20, 21, 22, 23, 24, 25, 26, 27, 28, 29, 30, 31, 32, 33, 34, 35, 36, 37, 38, 39, 40, 41, 42, 43, 44, 45, 46, 47, 48, 49, 50, 51, 52, 53, 54, 55, 56, 57, 58, 7, 59, 60, 61, 62, 63, 64, 65, 66, 67, 68, 69, 70, 71, 72, 73, 74, 75, 76, 77, 78, 79, 80, 81, 82, 83, 98, 99, 100, 101, 102] (by decide +kernel) (by decide +kernel)
set_option maxRecDepth 20000 in
theorem gX0_takeStep_X1_split : GoodIn wsX0_takeStep (wsV RX0 43 RX1 yX1_split wsX1_split) := goodIn_app (goodIn_of _ (by decide +kernel)) ggX0_takeStep_X1_split
set_option maxRecDepth 20000 in
theorem ggX0_takeStep_X2_take : GoodIn wsX0_takeStep wsX2_take := goodIn_r _ [87, 35, 26, 88, 89, 90, 91, 101, 102] (by decide +kernel) (by decide +kernel)
set_option maxRecDepth 20000 in
theorem gX0_takeStep_X2_take : GoodIn wsX0_takeStep (wsV RX0 25 RX2 yX2_take wsX2_take) := goodIn_app (goodIn_of _ (by decide +kernel)) ggX0_takeStep_X2_take
theorem dX0_takeStep_0 : decode cX0_takeStep 0 = .ok (.aload_n 1, 1) := by decide +kernel
theorem dX0_takeStep_1 : decode cX0_takeStep 1 = .ok (.aload_n 0, 1) := by decide +kernel
theorem dX0_takeStep_2 : decode cX0_takeStep 2 = .ok (.getfield 14, 3) := by decide +kernel
theorem dX0_takeStep_5 : decode cX0_takeStep 5 = .ok (.aload_n 0, 1) := by decide +kernel
theorem dX0_takeStep_6 : decode cX0_takeStep 6 = .ok (.getfield 18, 3) := by decide +kernel
theorem dX0_takeStep_9 : decode cX0_takeStep 9 = .ok (.invokevirtual 43, 3) := by decide +kernel
theorem dX0_takeStep_12 : decode cX0_takeStep 12 = .ok (.aload_n 0, 1) := by decide +kernel
theorem dX0_takeStep_13 : decode cX0_takeStep 13 = .ok (.getfield 14, 3) := by decide +kernel
theorem dX0_takeStep_16 : decode cX0_takeStep 16 = .ok (.astore_n 2, 1) := by decide +kernel
theorem dX0_takeStep_17 : decode cX0_takeStep 17 = .ok (.aload_n 0, 1) := by decide +kernel
theorem dX0_takeStep_18 : decode cX0_takeStep 18 = .ok (.aload_n 0, 1) := by decide +kernel
theorem dX0_takeStep_19 : decode cX0_takeStep 19 = .ok (.getfield 18, 3) := by decide +kernel
theorem dX0_takeStep_22 : decode cX0_takeStep 22 = .ok (.putfield 14, 3) := by decide +kernel
theorem dX0_takeStep_25 : decode cX0_takeStep 25 = .ok (.aload_n 0, 1) := by decide +kernel
theorem dX0_takeStep_26 : decode cX0_takeStep 26 = .ok (.aload_n 2, 1) := by decide +kernel
theorem dX0_takeStep_27 : decode cX0_takeStep 27 = .ok (.putfield 18, 3) := by decide +kernel
theorem dX0_takeStep_30 : decode cX0_takeStep 30 = .ok (.aload_n 0, 1) := by decide +kernel
theorem dX0_takeStep_31 : decode cX0_takeStep 31 = .ok (.getfield 18, 3) := by decide +kernel
theorem dX0_takeStep_34 : decode cX0_takeStep 34 = .ok (.aload_n 1, 1) := by decide +kernel
theorem dX0_takeStep_35 : decode cX0_takeStep 35 = .ok (.getfield 49, 3) := by decide +kernel
theorem dX0_takeStep_38 : decode cX0_takeStep 38 = .ok (.invokevirtual 25, 3) := by decide +kernel
theorem dX0_takeStep_41 : decode cX0_takeStep 41 = .ok (.return_, 1) := by decide +kernel
set_option maxRecDepth 20000 in
theorem ggX0_foreseeSteps_X2_bitLength : GoodIn wsX0_foreseeSteps wsX2_bitLength := goodIn_r _ [15, 16, 17, 18, 19, 14, 20, 21, 22, 23, 24, 25, 26, 27, 28, 29, 30, 46, 47] (by decide +kernel) (by decide +kernel)
set_option maxRecDepth 20000 in
theorem gX0_foreseeSteps_X2_bitLength : GoodIn wsX0_foreseeSteps (wsV RX0 52 RX2 yX2_bitLength wsX2_bitLength) := goodIn_app (goodIn_of _ (by decide +kernel)) ggX0_foreseeSteps_X2_bitLength
set_option maxRecDepth 20000 in
theorem ggX0_foreseeSteps_X0_headFrom : GoodIn wsX0_foreseeSteps wsX0_headFrom := goodIn_r _ [34, 35, 36, 37, 14, 38, 39, 21, 22, 23, 24, 16, 25, 46, 47] (by decide +kernel) (by decide +kernel)
set_option maxRecDepth 20000 in
theorem gX0_foreseeSteps_X0_headFrom : GoodIn wsX0_foreseeSteps (va_wsS RX0 62 yX0_headFrom wsX0_headFrom) := goodIn_app (goodIn_of _ (by decide +kernel)) ggX0_foreseeSteps_X0_headFrom
theorem dX0_foreseeSteps_0 : decode cX0_foreseeSteps 0 = .ok (.aload_n 0, 1) := by decide +kernel
theorem dX0_foreseeSteps_1 : decode cX0_foreseeSteps 1 = .ok (.getfield 14, 3) := by decide +kernel
theorem dX0_foreseeSteps_4 : decode cX0_foreseeSteps 4 = .ok (.invokevirtual 52, 3) := by decide +kernel
theorem dX0_foreseeSteps_7 : decode cX0_foreseeSteps 7 = .ok (.bipush 60, 2) := by decide +kernel
theorem dX0_foreseeSteps_9 : decode cX0_foreseeSteps 9 = .ok (.isub, 1) := by decide +kernel
theorem dX0_foreseeSteps_10 : decode cX0_foreseeSteps 10 = .ok (.iconst 0, 1) := by decide +kernel
theorem dX0_foreseeSteps_11 : decode cX0_foreseeSteps 11 = .ok (.invokestatic 56, 3) := by decide +kernel
theorem dX0_foreseeSteps_14 : decode cX0_foreseeSteps 14 = .ok (.istore_n 1, 1) := by decide +kernel
theorem dX0_foreseeSteps_15 : decode cX0_foreseeSteps 15 = .ok (.aload_n 0, 1) := by decide +kernel
theorem dX0_foreseeSteps_16 : decode cX0_foreseeSteps 16 = .ok (.getfield 14, 3) := by decide +kernel
theorem dX0_foreseeSteps_19 : decode cX0_foreseeSteps 19 = .ok (.iload_n 1, 1) := by decide +kernel
theorem dX0_foreseeSteps_20 : decode cX0_foreseeSteps 20 = .ok (.invokestatic 62, 3) := by decide +kernel
theorem dX0_foreseeSteps_23 : decode cX0_foreseeSteps 23 = .ok (.lstore_n 2, 1) := by decide +kernel
theorem dX0_foreseeSteps_24 : decode cX0_foreseeSteps 24 = .ok (.aload_n 0, 1) := by decide +kernel
theorem dX0_foreseeSteps_25 : decode cX0_foreseeSteps 25 = .ok (.getfield 18, 3) := by decide +kernel
theorem dX0_foreseeSteps_28 : decode cX0_foreseeSteps 28 = .ok (.iload_n 1, 1) := by decide +kernel
theorem dX0_foreseeSteps_29 : decode cX0_foreseeSteps 29 = .ok (.invokestatic 62, 3) := by decide +kernel
theorem dX0_foreseeSteps_32 : decode cX0_foreseeSteps 32 = .ok (.lstore 4, 2) := by decide +kernel
theorem dX0_foreseeSteps_34 : decode cX0_foreseeSteps 34 = .ok (.aload_n 0, 1) := by decide +kernel
theorem dX0_foreseeSteps_35 : decode cX0_foreseeSteps 35 = .ok (.lconst 1, 1) := by decide +kernel
theorem dX0_foreseeSteps_36 : decode cX0_foreseeSteps 36 = .ok (.putfield 66, 3) := by decide +kernel
theorem dX0_foreseeSteps_39 : decode cX0_foreseeSteps 39 = .ok (.aload_n 0, 1) := by decide +kernel
theorem dX0_foreseeSteps_40 : decode cX0_foreseeSteps 40 = .ok (.lconst 0, 1) := by decide +kernel
theorem dX0_foreseeSteps_41 : decode cX0_foreseeSteps 41 = .ok (.putfield 70, 3) := by decide +kernel
theorem dX0_foreseeSteps_44 : decode cX0_foreseeSteps 44 = .ok (.aload_n 0, 1) := by decide +kernel
theorem dX0_foreseeSteps_45 : decode cX0_foreseeSteps 45 = .ok (.lconst 0, 1) := by decide +kernel
theorem dX0_foreseeSteps_46 : decode cX0_foreseeSteps 46 = .ok (.putfield 73, 3) := by decide +kernel
theorem dX0_foreseeSteps_49 : decode cX0_foreseeSteps 49 = .ok (.aload_n 0, 1) := by decide +kernel
theorem dX0_foreseeSteps_50 : decode cX0_foreseeSteps 50 = .ok (.lconst 1, 1) := by decide +kernel
theorem dX0_foreseeSteps_51 : decode cX0_foreseeSteps 51 = .ok (.putfield 76, 3) := by decide +kernel
theorem dX0_foreseeSteps_54 : decode cX0_foreseeSteps 54 = .ok (.iconst 0, 1) := by decide +kernel
theorem dX0_foreseeSteps_55 : decode cX0_foreseeSteps 55 = .ok (.istore 6, 2) := by decide +kernel
theorem dX0_foreseeSteps_57 : decode cX0_foreseeSteps 57 = .ok (.iload 6, 2) := by decide +kernel
theorem dX0_foreseeSteps_59 : decode cX0_foreseeSteps 59 = .ok (.bipush 120, 2) := by decide +kernel
theorem dX0_foreseeSteps_61 : decode cX0_foreseeSteps 61 = .ok (.if_icmp .ge 144, 3) := by decide +kernel
theorem dX0_foreseeSteps_64 : decode cX0_foreseeSteps 64 = .ok (.lload 4, 2) := by decide +kernel
theorem dX0_foreseeSteps_66 : decode cX0_foreseeSteps 66 = .ok (.aload_n 0, 1) := by decide +kernel
theorem dX0_foreseeSteps_67 : decode cX0_foreseeSteps 67 = .ok (.getfield 73, 3) := by decide +kernel
theorem dX0_foreseeSteps_70 : decode cX0_foreseeSteps 70 = .ok (.ladd, 1) := by decide +kernel
theorem dX0_foreseeSteps_71 : decode cX0_foreseeSteps 71 = .ok (.lconst 0, 1) := by decide +kernel
theorem dX0_foreseeSteps_72 : decode cX0_foreseeSteps 72 = .ok (.lcmp, 1) := by decide +kernel
theorem dX0_foreseeSteps_73 : decode cX0_foreseeSteps 73 = .ok (.ifCond .le 132, 3) := by decide +kernel
theorem dX0_foreseeSteps_76 : decode cX0_foreseeSteps 76 = .ok (.lload 4, 2) := by decide +kernel
theorem dX0_foreseeSteps_78 : decode cX0_foreseeSteps 78 = .ok (.aload_n 0, 1) := by decide +kernel
theorem dX0_foreseeSteps_79 : decode cX0_foreseeSteps 79 = .ok (.getfield 76, 3) := by decide +kernel
theorem dX0_foreseeSteps_82 : decode cX0_foreseeSteps 82 = .ok (.ladd, 1) := by decide +kernel
theorem dX0_foreseeSteps_83 : decode cX0_foreseeSteps 83 = .ok (.lconst 0, 1) := by decide +kernel
theorem dX0_foreseeSteps_84 : decode cX0_foreseeSteps 84 = .ok (.lcmp, 1) := by decide +kernel
theorem dX0_foreseeSteps_85 : decode cX0_foreseeSteps 85 = .ok (.ifCond .le 120, 3) := by decide +kernel
theorem dX0_foreseeSteps_88 : decode cX0_foreseeSteps 88 = .ok (.lload_n 2, 1) := by decide +kernel
theorem dX0_foreseeSteps_89 : decode cX0_foreseeSteps 89 = .ok (.aload_n 0, 1) := by decide +kernel
theorem dX0_foreseeSteps_90 : decode cX0_foreseeSteps 90 = .ok (.getfield 66, 3) := by decide +kernel
theorem dX0_foreseeSteps_93 : decode cX0_foreseeSteps 93 = .ok (.ladd, 1) := by decide +kernel
theorem dX0_foreseeSteps_94 : decode cX0_foreseeSteps 94 = .ok (.lload 4, 2) := by decide +kernel
theorem dX0_foreseeSteps_96 : decode cX0_foreseeSteps 96 = .ok (.aload_n 0, 1) := by decide +kernel
theorem dX0_foreseeSteps_97 : decode cX0_foreseeSteps 97 = .ok (.getfield 73, 3) := by decide +kernel
theorem dX0_foreseeSteps_100 : decode cX0_foreseeSteps 100 = .ok (.ladd, 1) := by decide +kernel
theorem dX0_foreseeSteps_101 : decode cX0_foreseeSteps 101 = .ok (.ldiv, 1) := by decide +kernel
theorem dX0_foreseeSteps_102 : decode cX0_foreseeSteps 102 = .ok (.lstore 7, 2) := by decide +kernel
theorem dX0_foreseeSteps_104 : decode cX0_foreseeSteps 104 = .ok (.lload 7, 2) := by decide +kernel
theorem dX0_foreseeSteps_106 : decode cX0_foreseeSteps 106 = .ok (.lload_n 2, 1) := by decide +kernel
theorem dX0_foreseeSteps_107 : decode cX0_foreseeSteps 107 = .ok (.aload_n 0, 1) := by decide +kernel
theorem dX0_foreseeSteps_108 : decode cX0_foreseeSteps 108 = .ok (.getfield 70, 3) := by decide +kernel
theorem dX0_foreseeSteps_111 : decode cX0_foreseeSteps 111 = .ok (.ladd, 1) := by decide +kernel
theorem dX0_foreseeSteps_112 : decode cX0_foreseeSteps 112 = .ok (.lload 4, 2) := by decide +kernel
theorem dX0_foreseeSteps_114 : decode cX0_foreseeSteps 114 = .ok (.aload_n 0, 1) := by decide +kernel
theorem dX0_foreseeSteps_115 : decode cX0_foreseeSteps 115 = .ok (.getfield 76, 3) := by decide +kernel
theorem dX0_foreseeSteps_118 : decode cX0_foreseeSteps 118 = .ok (.ladd, 1) := by decide +kernel
theorem dX0_foreseeSteps_119 : decode cX0_foreseeSteps 119 = .ok (.ldiv, 1) := by decide +kernel
theorem dX0_foreseeSteps_120 : decode cX0_foreseeSteps 120 = .ok (.lcmp, 1) := by decide +kernel
theorem dX0_foreseeSteps_121 : decode cX0_foreseeSteps 121 = .ok (.ifCond .eq 6, 3) := by decide +kernel
theorem dX0_foreseeSteps_124 : decode cX0_foreseeSteps 124 = .ok (.goto 81, 3) := by decide +kernel
theorem dX0_foreseeSteps_127 : decode cX0_foreseeSteps 127 = .ok (.aload_n 0, 1) := by decide +kernel
theorem dX0_foreseeSteps_128 : decode cX0_foreseeSteps 128 = .ok (.getfield 66, 3) := by decide +kernel
theorem dX0_foreseeSteps_131 : decode cX0_foreseeSteps 131 = .ok (.lload 7, 2) := by decide +kernel
theorem dX0_foreseeSteps_133 : decode cX0_foreseeSteps 133 = .ok (.aload_n 0, 1) := by decide +kernel
theorem dX0_foreseeSteps_134 : decode cX0_foreseeSteps 134 = .ok (.getfield 73, 3) := by decide +kernel
theorem dX0_foreseeSteps_137 : decode cX0_foreseeSteps 137 = .ok (.lmul, 1) := by decide +kernel
theorem dX0_foreseeSteps_138 : decode cX0_foreseeSteps 138 = .ok (.lsub, 1) := by decide +kernel
theorem dX0_foreseeSteps_139 : decode cX0_foreseeSteps 139 = .ok (.lstore 9, 2) := by decide +kernel
theorem dX0_foreseeSteps_141 : decode cX0_foreseeSteps 141 = .ok (.aload_n 0, 1) := by decide +kernel
theorem dX0_foreseeSteps_142 : decode cX0_foreseeSteps 142 = .ok (.getfield 70, 3) := by decide +kernel
theorem dX0_foreseeSteps_145 : decode cX0_foreseeSteps 145 = .ok (.lload 7, 2) := by decide +kernel
theorem dX0_foreseeSteps_147 : decode cX0_foreseeSteps 147 = .ok (.aload_n 0, 1) := by decide +kernel
theorem dX0_foreseeSteps_148 : decode cX0_foreseeSteps 148 = .ok (.getfield 76, 3) := by decide +kernel
theorem dX0_foreseeSteps_151 : decode cX0_foreseeSteps 151 = .ok (.lmul, 1) := by decide +kernel
theorem dX0_foreseeSteps_152 : decode cX0_foreseeSteps 152 = .ok (.lsub, 1) := by decide +kernel
theorem dX0_foreseeSteps_153 : decode cX0_foreseeSteps 153 = .ok (.lstore 11, 2) := by decide +kernel
theorem dX0_foreseeSteps_155 : decode cX0_foreseeSteps 155 = .ok (.lload_n 2, 1) := by decide +kernel
theorem dX0_foreseeSteps_156 : decode cX0_foreseeSteps 156 = .ok (.lload 7, 2) := by decide +kernel
theorem dX0_foreseeSteps_158 : decode cX0_foreseeSteps 158 = .ok (.lload 4, 2) := by decide +kernel
theorem dX0_foreseeSteps_160 : decode cX0_foreseeSteps 160 = .ok (.lmul, 1) := by decide +kernel
theorem dX0_foreseeSteps_161 : decode cX0_foreseeSteps 161 = .ok (.lsub, 1) := by decide +kernel
theorem dX0_foreseeSteps_162 : decode cX0_foreseeSteps 162 = .ok (.lstore 13, 2) := by decide +kernel
theorem dX0_foreseeSteps_164 : decode cX0_foreseeSteps 164 = .ok (.aload_n 0, 1) := by decide +kernel
theorem dX0_foreseeSteps_165 : decode cX0_foreseeSteps 165 = .ok (.aload_n 0, 1) := by decide +kernel
theorem dX0_foreseeSteps_166 : decode cX0_foreseeSteps 166 = .ok (.getfield 73, 3) := by decide +kernel
theorem dX0_foreseeSteps_169 : decode cX0_foreseeSteps 169 = .ok (.putfield 66, 3) := by decide +kernel
theorem dX0_foreseeSteps_172 : decode cX0_foreseeSteps 172 = .ok (.aload_n 0, 1) := by decide +kernel
theorem dX0_foreseeSteps_173 : decode cX0_foreseeSteps 173 = .ok (.aload_n 0, 1) := by decide +kernel
theorem dX0_foreseeSteps_174 : decode cX0_foreseeSteps 174 = .ok (.getfield 76, 3) := by decide +kernel
theorem dX0_foreseeSteps_177 : decode cX0_foreseeSteps 177 = .ok (.putfield 70, 3) := by decide +kernel
theorem dX0_foreseeSteps_180 : decode cX0_foreseeSteps 180 = .ok (.lload 4, 2) := by decide +kernel
theorem dX0_foreseeSteps_182 : decode cX0_foreseeSteps 182 = .ok (.lstore_n 2, 1) := by decide +kernel
theorem dX0_foreseeSteps_183 : decode cX0_foreseeSteps 183 = .ok (.aload_n 0, 1) := by decide +kernel
theorem dX0_foreseeSteps_184 : decode cX0_foreseeSteps 184 = .ok (.lload 9, 2) := by decide +kernel
theorem dX0_foreseeSteps_186 : decode cX0_foreseeSteps 186 = .ok (.putfield 73, 3) := by decide +kernel
theorem dX0_foreseeSteps_189 : decode cX0_foreseeSteps 189 = .ok (.aload_n 0, 1) := by decide +kernel
theorem dX0_foreseeSteps_190 : decode cX0_foreseeSteps 190 = .ok (.lload 11, 2) := by decide +kernel
theorem dX0_foreseeSteps_192 : decode cX0_foreseeSteps 192 = .ok (.putfield 76, 3) := by decide +kernel
theorem dX0_foreseeSteps_195 : decode cX0_foreseeSteps 195 = .ok (.lload 13, 2) := by decide +kernel
theorem dX0_foreseeSteps_197 : decode cX0_foreseeSteps 197 = .ok (.lstore 4, 2) := by decide +kernel
theorem dX0_foreseeSteps_199 : decode cX0_foreseeSteps 199 = .ok (.iinc 6 1, 3) := by decide +kernel
theorem dX0_foreseeSteps_202 : decode cX0_foreseeSteps 202 = .ok (.goto (-145), 3) := by decide +kernel
theorem dX0_foreseeSteps_205 : decode cX0_foreseeSteps 205 = .ok (.aload_n 0, 1) := by decide +kernel
theorem dX0_foreseeSteps_206 : decode cX0_foreseeSteps 206 = .ok (.getfield 70, 3) := by decide +kernel
theorem dX0_foreseeSteps_209 : decode cX0_foreseeSteps 209 = .ok (.lconst 0, 1) := by decide +kernel
theorem dX0_foreseeSteps_210 : decode cX0_foreseeSteps 210 = .ok (.lcmp, 1) := by decide +kernel
theorem dX0_foreseeSteps_211 : decode cX0_foreseeSteps 211 = .ok (.ifCond .eq 7, 3) := by decide +kernel
theorem dX0_foreseeSteps_214 : decode cX0_foreseeSteps 214 = .ok (.iconst 1, 1) := by decide +kernel
theorem dX0_foreseeSteps_215 : decode cX0_foreseeSteps 215 = .ok (.goto 4, 3) := by decide +kernel
theorem dX0_foreseeSteps_218 : decode cX0_foreseeSteps 218 = .ok (.iconst 0, 1) := by decide +kernel
theorem dX0_foreseeSteps_219 : decode cX0_foreseeSteps 219 = .ok (.ireturn, 1) := by decide +kernel
set_option maxRecDepth 20000 in
theorem ggX0_headFrom_X2_limbFrom : GoodIn wsX0_headFrom wsX2_limbFrom := goodIn_r _ [5, 6, 7, 8, 9, 4, 10, 11, 12, 13, 14] (by decide +kernel) (by decide +kernel)
set_option maxRecDepth 20000 in
theorem gX0_headFrom_X2_limbFrom : GoodIn wsX0_headFrom (wsV RX0 79 RX2 yX2_limbFrom wsX2_limbFrom) := goodIn_app (goodIn_of _ (by decide +kernel)) ggX0_headFrom_X2_limbFrom
theorem dX0_headFrom_0 : decode cX0_headFrom 0 = .ok (.aload_n 0, 1) := by decide +kernel
theorem dX0_headFrom_1 : decode cX0_headFrom 1 = .ok (.iload_n 1, 1) := by decide +kernel
theorem dX0_headFrom_2 : decode cX0_headFrom 2 = .ok (.bipush 30, 2) := by decide +kernel
theorem dX0_headFrom_4 : decode cX0_headFrom 4 = .ok (.iadd, 1) := by decide +kernel
theorem dX0_headFrom_5 : decode cX0_headFrom 5 = .ok (.invokevirtual 79, 3) := by decide +kernel
theorem dX0_headFrom_8 : decode cX0_headFrom 8 = .ok (.i2l, 1) := by decide +kernel
theorem dX0_headFrom_9 : decode cX0_headFrom 9 = .ok (.bipush 30, 2) := by decide +kernel
theorem dX0_headFrom_11 : decode cX0_headFrom 11 = .ok (.lshl, 1) := by decide +kernel
theorem dX0_headFrom_12 : decode cX0_headFrom 12 = .ok (.aload_n 0, 1) := by decide +kernel
theorem dX0_headFrom_13 : decode cX0_headFrom 13 = .ok (.iload_n 1, 1) := by decide +kernel
theorem dX0_headFrom_14 : decode cX0_headFrom 14 = .ok (.invokevirtual 79, 3) := by decide +kernel
theorem dX0_headFrom_17 : decode cX0_headFrom 17 = .ok (.i2l, 1) := by decide +kernel
theorem dX0_headFrom_18 : decode cX0_headFrom 18 = .ok (.lor, 1) := by decide +kernel
theorem dX0_headFrom_19 : decode cX0_headFrom 19 = .ok (.lreturn, 1) := by decide +kernel
set_option maxRecDepth 20000 in
theorem ggX0_takeForeseenSteps_X2_padTo : GoodIn wsX0_takeForeseenSteps wsX2_padTo := goodIn_r _ [14, 15, 16, 34, 35] (by decide +kernel) (by decide +kernel)
set_option maxRecDepth 20000 in
theorem gX0_takeForeseenSteps_X2_padTo : GoodIn wsX0_takeForeseenSteps (wsV RX0 87 RX2 yX2_padTo wsX2_padTo) := goodIn_app (goodIn_of _ (by decide +kernel)) ggX0_takeForeseenSteps_X2_padTo
set_option maxRecDepth 20000 in
theorem ggX0_takeForeseenSteps_X2_trim : GoodIn wsX0_takeForeseenSteps wsX2_trim := goodIn_r _ [20, 21, 22, 23, 24, 16, 25, 26, 27, 15, 34, 35] (by decide +kernel) (by decide +kernel)
set_option maxRecDepth 20000 in
theorem gX0_takeForeseenSteps_X2_trim : GoodIn wsX0_takeForeseenSteps (wsV RX0 96 RX2 yX2_trim wsX2_trim) := goodIn_app (goodIn_of _ (by decide +kernel)) ggX0_takeForeseenSteps_X2_trim
theorem dX0_takeForeseenSteps_0 : decode cX0_takeForeseenSteps 0 = .ok (.aload_n 0, 1) := by decide +kernel
theorem dX0_takeForeseenSteps_1 : decode cX0_takeForeseenSteps 1 = .ok (.getfield 14, 3) := by decide +kernel
theorem dX0_takeForeseenSteps_4 : decode cX0_takeForeseenSteps 4 = .ok (.getfield 83, 3) := by decide +kernel
theorem dX0_takeForeseenSteps_7 : decode cX0_takeForeseenSteps 7 = .ok (.istore_n 1, 1) := by decide +kernel
theorem dX0_takeForeseenSteps_8 : decode cX0_takeForeseenSteps 8 = .ok (.aload_n 0, 1) := by decide +kernel
theorem dX0_takeForeseenSteps_9 : decode cX0_takeForeseenSteps 9 = .ok (.getfield 18, 3) := by decide +kernel
theorem dX0_takeForeseenSteps_12 : decode cX0_takeForeseenSteps 12 = .ok (.iload_n 1, 1) := by decide +kernel
theorem dX0_takeForeseenSteps_13 : decode cX0_takeForeseenSteps 13 = .ok (.invokevirtual 87, 3) := by decide +kernel
theorem dX0_takeForeseenSteps_16 : decode cX0_takeForeseenSteps 16 = .ok (.lconst 0, 1) := by decide +kernel
theorem dX0_takeForeseenSteps_17 : decode cX0_takeForeseenSteps 17 = .ok (.lstore_n 2, 1) := by decide +kernel
theorem dX0_takeForeseenSteps_18 : decode cX0_takeForeseenSteps 18 = .ok (.lconst 0, 1) := by decide +kernel
theorem dX0_takeForeseenSteps_19 : decode cX0_takeForeseenSteps 19 = .ok (.lstore 4, 2) := by decide +kernel
theorem dX0_takeForeseenSteps_21 : decode cX0_takeForeseenSteps 21 = .ok (.iconst 0, 1) := by decide +kernel
theorem dX0_takeForeseenSteps_22 : decode cX0_takeForeseenSteps 22 = .ok (.istore 6, 2) := by decide +kernel
theorem dX0_takeForeseenSteps_24 : decode cX0_takeForeseenSteps 24 = .ok (.iload 6, 2) := by decide +kernel
theorem dX0_takeForeseenSteps_26 : decode cX0_takeForeseenSteps 26 = .ok (.iload_n 1, 1) := by decide +kernel
theorem dX0_takeForeseenSteps_27 : decode cX0_takeForeseenSteps 27 = .ok (.if_icmp .ge 116, 3) := by decide +kernel
theorem dX0_takeForeseenSteps_30 : decode cX0_takeForeseenSteps 30 = .ok (.aload_n 0, 1) := by decide +kernel
theorem dX0_takeForeseenSteps_31 : decode cX0_takeForeseenSteps 31 = .ok (.getfield 14, 3) := by decide +kernel
theorem dX0_takeForeseenSteps_34 : decode cX0_takeForeseenSteps 34 = .ok (.getfield 91, 3) := by decide +kernel
theorem dX0_takeForeseenSteps_37 : decode cX0_takeForeseenSteps 37 = .ok (.iload 6, 2) := by decide +kernel
theorem dX0_takeForeseenSteps_39 : decode cX0_takeForeseenSteps 39 = .ok (.iaload, 1) := by decide +kernel
theorem dX0_takeForeseenSteps_40 : decode cX0_takeForeseenSteps 40 = .ok (.i2l, 1) := by decide +kernel
theorem dX0_takeForeseenSteps_41 : decode cX0_takeForeseenSteps 41 = .ok (.lstore 7, 2) := by decide +kernel
theorem dX0_takeForeseenSteps_43 : decode cX0_takeForeseenSteps 43 = .ok (.aload_n 0, 1) := by decide +kernel
theorem dX0_takeForeseenSteps_44 : decode cX0_takeForeseenSteps 44 = .ok (.getfield 18, 3) := by decide +kernel
theorem dX0_takeForeseenSteps_47 : decode cX0_takeForeseenSteps 47 = .ok (.getfield 91, 3) := by decide +kernel
theorem dX0_takeForeseenSteps_50 : decode cX0_takeForeseenSteps 50 = .ok (.iload 6, 2) := by decide +kernel
theorem dX0_takeForeseenSteps_52 : decode cX0_takeForeseenSteps 52 = .ok (.iaload, 1) := by decide +kernel
theorem dX0_takeForeseenSteps_53 : decode cX0_takeForeseenSteps 53 = .ok (.i2l, 1) := by decide +kernel
theorem dX0_takeForeseenSteps_54 : decode cX0_takeForeseenSteps 54 = .ok (.lstore 9, 2) := by decide +kernel
theorem dX0_takeForeseenSteps_56 : decode cX0_takeForeseenSteps 56 = .ok (.lload_n 2, 1) := by decide +kernel
theorem dX0_takeForeseenSteps_57 : decode cX0_takeForeseenSteps 57 = .ok (.aload_n 0, 1) := by decide +kernel
theorem dX0_takeForeseenSteps_58 : decode cX0_takeForeseenSteps 58 = .ok (.getfield 66, 3) := by decide +kernel
theorem dX0_takeForeseenSteps_61 : decode cX0_takeForeseenSteps 61 = .ok (.lload 7, 2) := by decide +kernel
theorem dX0_takeForeseenSteps_63 : decode cX0_takeForeseenSteps 63 = .ok (.lmul, 1) := by decide +kernel
theorem dX0_takeForeseenSteps_64 : decode cX0_takeForeseenSteps 64 = .ok (.aload_n 0, 1) := by decide +kernel
theorem dX0_takeForeseenSteps_65 : decode cX0_takeForeseenSteps 65 = .ok (.getfield 70, 3) := by decide +kernel
theorem dX0_takeForeseenSteps_68 : decode cX0_takeForeseenSteps 68 = .ok (.lload 9, 2) := by decide +kernel
theorem dX0_takeForeseenSteps_70 : decode cX0_takeForeseenSteps 70 = .ok (.lmul, 1) := by decide +kernel
theorem dX0_takeForeseenSteps_71 : decode cX0_takeForeseenSteps 71 = .ok (.ladd, 1) := by decide +kernel
theorem dX0_takeForeseenSteps_72 : decode cX0_takeForeseenSteps 72 = .ok (.ladd, 1) := by decide +kernel
theorem dX0_takeForeseenSteps_73 : decode cX0_takeForeseenSteps 73 = .ok (.lstore_n 2, 1) := by decide +kernel
theorem dX0_takeForeseenSteps_74 : decode cX0_takeForeseenSteps 74 = .ok (.lload 4, 2) := by decide +kernel
theorem dX0_takeForeseenSteps_76 : decode cX0_takeForeseenSteps 76 = .ok (.aload_n 0, 1) := by decide +kernel
theorem dX0_takeForeseenSteps_77 : decode cX0_takeForeseenSteps 77 = .ok (.getfield 73, 3) := by decide +kernel
theorem dX0_takeForeseenSteps_80 : decode cX0_takeForeseenSteps 80 = .ok (.lload 7, 2) := by decide +kernel
theorem dX0_takeForeseenSteps_82 : decode cX0_takeForeseenSteps 82 = .ok (.lmul, 1) := by decide +kernel
theorem dX0_takeForeseenSteps_83 : decode cX0_takeForeseenSteps 83 = .ok (.aload_n 0, 1) := by decide +kernel
theorem dX0_takeForeseenSteps_84 : decode cX0_takeForeseenSteps 84 = .ok (.getfield 76, 3) := by decide +kernel
theorem dX0_takeForeseenSteps_87 : decode cX0_takeForeseenSteps 87 = .ok (.lload 9, 2) := by decide +kernel
theorem dX0_takeForeseenSteps_89 : decode cX0_takeForeseenSteps 89 = .ok (.lmul, 1) := by decide +kernel
theorem dX0_takeForeseenSteps_90 : decode cX0_takeForeseenSteps 90 = .ok (.ladd, 1) := by decide +kernel
theorem dX0_takeForeseenSteps_91 : decode cX0_takeForeseenSteps 91 = .ok (.ladd, 1) := by decide +kernel
theorem dX0_takeForeseenSteps_92 : decode cX0_takeForeseenSteps 92 = .ok (.lstore 4, 2) := by decide +kernel
theorem dX0_takeForeseenSteps_94 : decode cX0_takeForeseenSteps 94 = .ok (.aload_n 0, 1) := by decide +kernel
theorem dX0_takeForeseenSteps_95 : decode cX0_takeForeseenSteps 95 = .ok (.getfield 14, 3) := by decide +kernel
theorem dX0_takeForeseenSteps_98 : decode cX0_takeForeseenSteps 98 = .ok (.getfield 91, 3) := by decide +kernel
theorem dX0_takeForeseenSteps_101 : decode cX0_takeForeseenSteps 101 = .ok (.iload 6, 2) := by decide +kernel
theorem dX0_takeForeseenSteps_103 : decode cX0_takeForeseenSteps 103 = .ok (.lload_n 2, 1) := by decide +kernel
theorem dX0_takeForeseenSteps_104 : decode cX0_takeForeseenSteps 104 = .ok (.l2i, 1) := by decide +kernel
theorem dX0_takeForeseenSteps_105 : decode cX0_takeForeseenSteps 105 = .ok (.ldc 95, 2) := by decide +kernel
theorem dX0_takeForeseenSteps_107 : decode cX0_takeForeseenSteps 107 = .ok (.iand, 1) := by decide +kernel
theorem dX0_takeForeseenSteps_108 : decode cX0_takeForeseenSteps 108 = .ok (.iastore, 1) := by decide +kernel
theorem dX0_takeForeseenSteps_109 : decode cX0_takeForeseenSteps 109 = .ok (.aload_n 0, 1) := by decide +kernel
theorem dX0_takeForeseenSteps_110 : decode cX0_takeForeseenSteps 110 = .ok (.getfield 18, 3) := by decide +kernel
theorem dX0_takeForeseenSteps_113 : decode cX0_takeForeseenSteps 113 = .ok (.getfield 91, 3) := by decide +kernel
theorem dX0_takeForeseenSteps_116 : decode cX0_takeForeseenSteps 116 = .ok (.iload 6, 2) := by decide +kernel
theorem dX0_takeForeseenSteps_118 : decode cX0_takeForeseenSteps 118 = .ok (.lload 4, 2) := by decide +kernel
theorem dX0_takeForeseenSteps_120 : decode cX0_takeForeseenSteps 120 = .ok (.l2i, 1) := by decide +kernel
theorem dX0_takeForeseenSteps_121 : decode cX0_takeForeseenSteps 121 = .ok (.ldc 95, 2) := by decide +kernel
theorem dX0_takeForeseenSteps_123 : decode cX0_takeForeseenSteps 123 = .ok (.iand, 1) := by decide +kernel
theorem dX0_takeForeseenSteps_124 : decode cX0_takeForeseenSteps 124 = .ok (.iastore, 1) := by decide +kernel
theorem dX0_takeForeseenSteps_125 : decode cX0_takeForeseenSteps 125 = .ok (.lload_n 2, 1) := by decide +kernel
theorem dX0_takeForeseenSteps_126 : decode cX0_takeForeseenSteps 126 = .ok (.bipush 30, 2) := by decide +kernel
theorem dX0_takeForeseenSteps_128 : decode cX0_takeForeseenSteps 128 = .ok (.lshr, 1) := by decide +kernel
theorem dX0_takeForeseenSteps_129 : decode cX0_takeForeseenSteps 129 = .ok (.lstore_n 2, 1) := by decide +kernel
theorem dX0_takeForeseenSteps_130 : decode cX0_takeForeseenSteps 130 = .ok (.lload 4, 2) := by decide +kernel
theorem dX0_takeForeseenSteps_132 : decode cX0_takeForeseenSteps 132 = .ok (.bipush 30, 2) := by decide +kernel
theorem dX0_takeForeseenSteps_134 : decode cX0_takeForeseenSteps 134 = .ok (.lshr, 1) := by decide +kernel
theorem dX0_takeForeseenSteps_135 : decode cX0_takeForeseenSteps 135 = .ok (.lstore 4, 2) := by decide +kernel
theorem dX0_takeForeseenSteps_137 : decode cX0_takeForeseenSteps 137 = .ok (.iinc 6 1, 3) := by decide +kernel
theorem dX0_takeForeseenSteps_140 : decode cX0_takeForeseenSteps 140 = .ok (.goto (-116), 3) := by decide +kernel
theorem dX0_takeForeseenSteps_143 : decode cX0_takeForeseenSteps 143 = .ok (.aload_n 0, 1) := by decide +kernel
theorem dX0_takeForeseenSteps_144 : decode cX0_takeForeseenSteps 144 = .ok (.getfield 14, 3) := by decide +kernel
theorem dX0_takeForeseenSteps_147 : decode cX0_takeForeseenSteps 147 = .ok (.iload_n 1, 1) := by decide +kernel
theorem dX0_takeForeseenSteps_148 : decode cX0_takeForeseenSteps 148 = .ok (.invokevirtual 96, 3) := by decide +kernel
theorem dX0_takeForeseenSteps_151 : decode cX0_takeForeseenSteps 151 = .ok (.aload_n 0, 1) := by decide +kernel
theorem dX0_takeForeseenSteps_152 : decode cX0_takeForeseenSteps 152 = .ok (.getfield 18, 3) := by decide +kernel
theorem dX0_takeForeseenSteps_155 : decode cX0_takeForeseenSteps 155 = .ok (.iload_n 1, 1) := by decide +kernel
theorem dX0_takeForeseenSteps_156 : decode cX0_takeForeseenSteps 156 = .ok (.invokevirtual 96, 3) := by decide +kernel
theorem dX0_takeForeseenSteps_159 : decode cX0_takeForeseenSteps 159 = .ok (.return_, 1) := by decide +kernel
set_option maxRecDepth 20000 in
theorem ggX1_init_X2_init : GoodIn wsX1_init wsX2_init := goodIn_r _ [11, 12, 2, 3, 13, 14, 15, 16] (by decide +kernel) (by decide +kernel)
set_option maxRecDepth 20000 in
theorem gX1_init_X2_init_n11 : GoodIn wsX1_init (wsX2_init) := ggX1_init_X2_init
theorem dX1_init_0 : decode cX1_init 0 = .ok (.aload_n 0, 1) := by decide +kernel
theorem dX1_init_1 : decode cX1_init 1 = .ok (.invokespecial 3, 3) := by decide +kernel
theorem dX1_init_4 : decode cX1_init 4 = .ok (.aload_n 0, 1) := by decide +kernel
theorem dX1_init_5 : decode cX1_init 5 = .ok (.new 9, 3) := by decide +kernel
theorem dX1_init_8 : decode cX1_init 8 = .ok (.dup, 1) := by decide +kernel
theorem dX1_init_9 : decode cX1_init 9 = .ok (.invokespecial 11, 3) := by decide +kernel
theorem dX1_init_12 : decode cX1_init 12 = .ok (.putfield 12, 3) := by decide +kernel
theorem dX1_init_15 : decode cX1_init 15 = .ok (.aload_n 0, 1) := by decide +kernel
theorem dX1_init_16 : decode cX1_init 16 = .ok (.new 9, 3) := by decide +kernel
theorem dX1_init_19 : decode cX1_init 19 = .ok (.dup, 1) := by decide +kernel
theorem dX1_init_20 : decode cX1_init 20 = .ok (.invokespecial 11, 3) := by decide +kernel
theorem dX1_init_23 : decode cX1_init 23 = .ok (.putfield 18, 3) := by decide +kernel
theorem dX1_init_26 : decode cX1_init 26 = .ok (.aload_n 0, 1) := by decide +kernel
theorem dX1_init_27 : decode cX1_init 27 = .ok (.new 9, 3) := by decide +kernel
theorem dX1_init_30 : decode cX1_init 30 = .ok (.dup, 1) := by decide +kernel
theorem dX1_init_31 : decode cX1_init 31 = .ok (.invokespecial 11, 3) := by decide +kernel
theorem dX1_init_34 : decode cX1_init 34 = .ok (.putfield 21, 3) := by decide +kernel
theorem dX1_init_37 : decode cX1_init 37 = .ok (.return_, 1) := by decide +kernel
set_option maxRecDepth 20000 in
theorem ggX1_split_X2_isZero : GoodIn wsX1_split wsX2_isZero := goodIn_r _ [17, 18, 80, 81] (by decide +kernel) (by decide +kernel)
set_option maxRecDepth 20000 in
theorem gX1_split_X2_isZero : GoodIn wsX1_split (wsV RX1 24 RX2 yX2_isZero wsX2_isZero) := goodIn_app (goodIn_of _ (by decide +kernel)) ggX1_split_X2_isZero
set_option maxRecDepth 20000 in
theorem ggX1_split_X2_spareBits : GoodIn wsX1_split wsX2_spareBits := goodIn_r _ [22, 18, 23, 24, 25, 16, 26, 27, 28, 29, 30, 31, 32, 80, 81] (by decide +kernel) (by decide +kernel)
set_option maxRecDepth 20000 in
theorem gX1_split_X2_spareBits : GoodIn wsX1_split (wsV RX1 28 RX2 yX2_spareBits wsX2_spareBits) := goodIn_app (goodIn_of _ (by decide +kernel)) ggX1_split_X2_spareBits
set_option maxRecDepth 20000 in
theorem ggX1_split_X2_shiftUp : GoodIn wsX1_split wsX2_shiftUp := goodIn_r _ [36, 18, 37, 5, 6, 7, 27, 38, 23, 24, 25, 16, 26, 39, 40, 41, 42, 43, 9, 10, 80, 81] (by decide +kernel) (by decide +kernel)
set_option maxRecDepth 20000 in
theorem gX1_split_X2_shiftUp : GoodIn wsX1_split (wsV RX1 32 RX2 yX2_shiftUp wsX2_shiftUp) := goodIn_app (goodIn_of _ (by decide +kernel)) ggX1_split_X2_shiftUp
set_option maxRecDepth 20000 in
theorem ggX1_split_X2_padTo : GoodIn wsX1_split wsX2_padTo := goodIn_r _ [47, 18, 27, 80, 81] (by decide +kernel) (by decide +kernel)
set_option maxRecDepth 20000 in
theorem gX1_split_X2_padTo : GoodIn wsX1_split (wsV RX1 46 RX2 yX2_padTo wsX2_padTo) := goodIn_app (goodIn_of _ (by decide +kernel)) ggX1_split_X2_padTo
set_option maxRecDepth 20000 in
theorem ggX1_split_X1_takeDigit : GoodIn wsX1_split wsX1_takeDigit := goodIn_r _ [52, 53, 54, 55, 51, 56, 1, 3, 2, 12, 57, 58, 24, 25, 16, 26, 18, 27, 59, 60, 61, 62, 63, 64, 65, 66, 67, 77, 78, 79, 80, 81] (by decide +kernel) (by decide +kernel)
set_option maxRecDepth 20000 in
theorem gX1_split_X1_takeDigit : GoodIn wsX1_split (wsV RX1 57 RX1 yX1_takeDigit wsX1_takeDigit) := goodIn_app (goodIn_of _ (by decide +kernel)) ggX1_split_X1_takeDigit
set_option maxRecDepth 20000 in
theorem ggX1_split_X2_trim : GoodIn wsX1_split wsX2_trim := goodIn_r _ [42, 37, 5, 6, 7, 27, 43, 9, 10, 18, 80, 81] (by decide +kernel) (by decide +kernel)
set_option maxRecDepth 20000 in
theorem gX1_split_X2_trim : GoodIn wsX1_split (wsV RX1 61 RX2 yX2_trim wsX2_trim) := goodIn_app (goodIn_of _ (by decide +kernel)) ggX1_split_X2_trim
set_option maxRecDepth 20000 in
theorem ggX1_split_X2_shiftDown : GoodIn wsX1_split wsX2_shiftDown := goodIn_r _ [72, 18, 43, 9, 6, 10, 27, 73, 74, 75, 16, 76, 38, 23, 24, 25, 26, 39, 40, 41, 42, 37, 5, 7, 80, 81] (by decide +kernel) (by decide +kernel)
set_option maxRecDepth 20000 in
theorem gX1_split_X2_shiftDown : GoodIn wsX1_split (wsV RX1 64 RX2 yX2_shiftDown wsX2_shiftDown) := goodIn_app (goodIn_of _ (by decide +kernel)) ggX1_split_X2_shiftDown
theorem dX1_split_0 : decode cX1_split 0 = .ok (.aload_n 2, 1) := by decide +kernel
theorem dX1_split_1 : decode cX1_split 1 = .ok (.invokevirtual 24, 3) := by decide +kernel
theorem dX1_split_4 : decode cX1_split 4 = .ok (.ifCond .eq 4, 3) := by decide +kernel
theorem dX1_split_7 : decode cX1_split 7 = .ok (.return_, 1) := by decide +kernel
theorem dX1_split_8 : decode cX1_split 8 = .ok (.aload_n 2, 1) := by decide +kernel
theorem dX1_split_9 : decode cX1_split 9 = .ok (.invokevirtual 28, 3) := by decide +kernel
theorem dX1_split_12 : decode cX1_split 12 = .ok (.istore_n 3, 1) := by decide +kernel
theorem dX1_split_13 : decode cX1_split 13 = .ok (.aload_n 0, 1) := by decide +kernel
theorem dX1_split_14 : decode cX1_split 14 = .ok (.getfield 21, 3) := by decide +kernel
theorem dX1_split_17 : decode cX1_split 17 = .ok (.aload_n 2, 1) := by decide +kernel
theorem dX1_split_18 : decode cX1_split 18 = .ok (.iload_n 3, 1) := by decide +kernel
theorem dX1_split_19 : decode cX1_split 19 = .ok (.invokevirtual 32, 3) := by decide +kernel
theorem dX1_split_22 : decode cX1_split 22 = .ok (.aload_n 0, 1) := by decide +kernel
theorem dX1_split_23 : decode cX1_split 23 = .ok (.getfield 18, 3) := by decide +kernel
theorem dX1_split_26 : decode cX1_split 26 = .ok (.aload_n 1, 1) := by decide +kernel
theorem dX1_split_27 : decode cX1_split 27 = .ok (.iload_n 3, 1) := by decide +kernel
theorem dX1_split_28 : decode cX1_split 28 = .ok (.invokevirtual 32, 3) := by decide +kernel
theorem dX1_split_31 : decode cX1_split 31 = .ok (.aload_n 0, 1) := by decide +kernel
theorem dX1_split_32 : decode cX1_split 32 = .ok (.getfield 18, 3) := by decide +kernel
theorem dX1_split_35 : decode cX1_split 35 = .ok (.getfield 36, 3) := by decide +kernel
theorem dX1_split_38 : decode cX1_split 38 = .ok (.sipush 139, 3) := by decide +kernel
theorem dX1_split_41 : decode cX1_split 41 = .ok (.invokestatic 40, 3) := by decide +kernel
theorem dX1_split_44 : decode cX1_split 44 = .ok (.istore 4, 2) := by decide +kernel
theorem dX1_split_46 : decode cX1_split 46 = .ok (.aload_n 0, 1) := by decide +kernel
theorem dX1_split_47 : decode cX1_split 47 = .ok (.getfield 18, 3) := by decide +kernel
theorem dX1_split_50 : decode cX1_split 50 = .ok (.iload 4, 2) := by decide +kernel
theorem dX1_split_52 : decode cX1_split 52 = .ok (.iconst 1, 1) := by decide +kernel
theorem dX1_split_53 : decode cX1_split 53 = .ok (.iadd, 1) := by decide +kernel
theorem dX1_split_54 : decode cX1_split 54 = .ok (.invokevirtual 46, 3) := by decide +kernel
theorem dX1_split_57 : decode cX1_split 57 = .ok (.iload 4, 2) := by decide +kernel
theorem dX1_split_59 : decode cX1_split 59 = .ok (.aload_n 0, 1) := by decide +kernel
theorem dX1_split_60 : decode cX1_split 60 = .ok (.getfield 21, 3) := by decide +kernel
theorem dX1_split_63 : decode cX1_split 63 = .ok (.getfield 36, 3) := by decide +kernel
theorem dX1_split_66 : decode cX1_split 66 = .ok (.isub, 1) := by decide +kernel
theorem dX1_split_67 : decode cX1_split 67 = .ok (.iconst 1, 1) := by decide +kernel
theorem dX1_split_68 : decode cX1_split 68 = .ok (.iadd, 1) := by decide +kernel
theorem dX1_split_69 : decode cX1_split 69 = .ok (.iconst 0, 1) := by decide +kernel
theorem dX1_split_70 : decode cX1_split 70 = .ok (.invokestatic 50, 3) := by decide +kernel
theorem dX1_split_73 : decode cX1_split 73 = .ok (.istore 5, 2) := by decide +kernel
theorem dX1_split_75 : decode cX1_split 75 = .ok (.iload 5, 2) := by decide +kernel
theorem dX1_split_77 : decode cX1_split 77 = .ok (.iconst 1, 1) := by decide +kernel
theorem dX1_split_78 : decode cX1_split 78 = .ok (.isub, 1) := by decide +kernel
theorem dX1_split_79 : decode cX1_split 79 = .ok (.istore 6, 2) := by decide +kernel
theorem dX1_split_81 : decode cX1_split 81 = .ok (.iload 6, 2) := by decide +kernel
theorem dX1_split_83 : decode cX1_split 83 = .ok (.ifCond .lt 25, 3) := by decide +kernel
theorem dX1_split_86 : decode cX1_split 86 = .ok (.aload_n 0, 1) := by decide +kernel
theorem dX1_split_87 : decode cX1_split 87 = .ok (.getfield 12, 3) := by decide +kernel
theorem dX1_split_90 : decode cX1_split 90 = .ok (.getfield 53, 3) := by decide +kernel
theorem dX1_split_93 : decode cX1_split 93 = .ok (.iload 6, 2) := by decide +kernel
theorem dX1_split_95 : decode cX1_split 95 = .ok (.aload_n 0, 1) := by decide +kernel
theorem dX1_split_96 : decode cX1_split 96 = .ok (.iload 6, 2) := by decide +kernel
theorem dX1_split_98 : decode cX1_split 98 = .ok (.invokevirtual 57, 3) := by decide +kernel
theorem dX1_split_101 : decode cX1_split 101 = .ok (.iastore, 1) := by decide +kernel
theorem dX1_split_102 : decode cX1_split 102 = .ok (.iinc 6 (-1), 3) := by decide +kernel
theorem dX1_split_105 : decode cX1_split 105 = .ok (.goto (-24), 3) := by decide +kernel
theorem dX1_split_108 : decode cX1_split 108 = .ok (.aload_n 0, 1) := by decide +kernel
theorem dX1_split_109 : decode cX1_split 109 = .ok (.getfield 12, 3) := by decide +kernel
theorem dX1_split_112 : decode cX1_split 112 = .ok (.iload 5, 2) := by decide +kernel
theorem dX1_split_114 : decode cX1_split 114 = .ok (.invokevirtual 61, 3) := by decide +kernel
theorem dX1_split_117 : decode cX1_split 117 = .ok (.aload_n 0, 1) := by decide +kernel
theorem dX1_split_118 : decode cX1_split 118 = .ok (.getfield 18, 3) := by decide +kernel
theorem dX1_split_121 : decode cX1_split 121 = .ok (.aload_n 0, 1) := by decide +kernel
theorem dX1_split_122 : decode cX1_split 122 = .ok (.getfield 18, 3) := by decide +kernel
theorem dX1_split_125 : decode cX1_split 125 = .ok (.iload_n 3, 1) := by decide +kernel
theorem dX1_split_126 : decode cX1_split 126 = .ok (.invokevirtual 64, 3) := by decide +kernel
theorem dX1_split_129 : decode cX1_split 129 = .ok (.return_, 1) := by decide +kernel
set_option maxRecDepth 20000 in
theorem ggX1_takeDigit_X1_guessDigit : GoodIn wsX1_takeDigit wsX1_guessDigit := goodIn_r _ [5, 6, 7, 8, 9, 10, 11, 12, 13, 14, 15, 16, 17, 27, 28, 29, 30, 31] (by decide +kernel) (by decide +kernel)
set_option maxRecDepth 20000 in
theorem gX1_takeDigit_X1_guessDigit : GoodIn wsX1_takeDigit (wsV RX1 67 RX1 yX1_guessDigit wsX1_guessDigit) := goodIn_app (goodIn_of _ (by decide +kernel)) ggX1_takeDigit_X1_guessDigit
set_option maxRecDepth 20000 in
theorem ggX1_takeDigit_X1_subtractAt : GoodIn wsX1_takeDigit wsX1_subtractAt := goodIn_r _ [21, 6, 7, 8, 9, 22, 27, 28, 29, 30, 31] (by decide +kernel) (by decide +kernel)
set_option maxRecDepth 20000 in
theorem gX1_takeDigit_X1_subtractAt : GoodIn wsX1_takeDigit (wsV RX1 70 RX1 yX1_subtractAt wsX1_subtractAt) := goodIn_app (goodIn_of _ (by decide +kernel)) ggX1_takeDigit_X1_subtractAt
set_option maxRecDepth 20000 in
theorem ggX1_takeDigit_X1_addBackAt : GoodIn wsX1_takeDigit wsX1_addBackAt := goodIn_r _ [26, 6, 7, 8, 9, 22, 27, 28, 29, 30, 31] (by decide +kernel) (by decide +kernel)
set_option maxRecDepth 20000 in
theorem gX1_takeDigit_X1_addBackAt : GoodIn wsX1_takeDigit (wsV RX1 74 RX1 yX1_addBackAt wsX1_addBackAt) := goodIn_app (goodIn_of _ (by decide +kernel)) ggX1_takeDigit_X1_addBackAt
theorem dX1_takeDigit_0 : decode cX1_takeDigit 0 = .ok (.aload_n 0, 1) := by decide +kernel
theorem dX1_takeDigit_1 : decode cX1_takeDigit 1 = .ok (.iload_n 1, 1) := by decide +kernel
theorem dX1_takeDigit_2 : decode cX1_takeDigit 2 = .ok (.invokevirtual 67, 3) := by decide +kernel
theorem dX1_takeDigit_5 : decode cX1_takeDigit 5 = .ok (.istore_n 2, 1) := by decide +kernel
theorem dX1_takeDigit_6 : decode cX1_takeDigit 6 = .ok (.aload_n 0, 1) := by decide +kernel
theorem dX1_takeDigit_7 : decode cX1_takeDigit 7 = .ok (.iload_n 1, 1) := by decide +kernel
theorem dX1_takeDigit_8 : decode cX1_takeDigit 8 = .ok (.iload_n 2, 1) := by decide +kernel
theorem dX1_takeDigit_9 : decode cX1_takeDigit 9 = .ok (.i2l, 1) := by decide +kernel
theorem dX1_takeDigit_10 : decode cX1_takeDigit 10 = .ok (.invokevirtual 70, 3) := by decide +kernel
theorem dX1_takeDigit_13 : decode cX1_takeDigit 13 = .ok (.ifCond .eq 11, 3) := by decide +kernel
theorem dX1_takeDigit_16 : decode cX1_takeDigit 16 = .ok (.aload_n 0, 1) := by decide +kernel
theorem dX1_takeDigit_17 : decode cX1_takeDigit 17 = .ok (.iload_n 1, 1) := by decide +kernel
theorem dX1_takeDigit_18 : decode cX1_takeDigit 18 = .ok (.invokevirtual 74, 3) := by decide +kernel
theorem dX1_takeDigit_21 : decode cX1_takeDigit 21 = .ok (.iinc 2 (-1), 3) := by decide +kernel
theorem dX1_takeDigit_24 : decode cX1_takeDigit 24 = .ok (.iload_n 2, 1) := by decide +kernel
theorem dX1_takeDigit_25 : decode cX1_takeDigit 25 = .ok (.ireturn, 1) := by decide +kernel
set_option maxRecDepth 20000 in
theorem ggX1_guessDigit_X2_limb : GoodIn wsX1_guessDigit wsX2_limb := goodIn_r _ [10, 11, 12, 16, 17] (by decide +kernel) (by decide +kernel)
set_option maxRecDepth 20000 in
theorem gX1_guessDigit_X2_limb : GoodIn wsX1_guessDigit (wsV RX1 77 RX2 yX2_limb wsX2_limb) := goodIn_app (goodIn_of _ (by decide +kernel)) ggX1_guessDigit_X2_limb
theorem dX1_guessDigit_0 : decode cX1_guessDigit 0 = .ok (.iload_n 1, 1) := by decide +kernel
theorem dX1_guessDigit_1 : decode cX1_guessDigit 1 = .ok (.aload_n 0, 1) := by decide +kernel
theorem dX1_guessDigit_2 : decode cX1_guessDigit 2 = .ok (.getfield 21, 3) := by decide +kernel
theorem dX1_guessDigit_5 : decode cX1_guessDigit 5 = .ok (.getfield 36, 3) := by decide +kernel
theorem dX1_guessDigit_8 : decode cX1_guessDigit 8 = .ok (.iadd, 1) := by decide +kernel
theorem dX1_guessDigit_9 : decode cX1_guessDigit 9 = .ok (.istore_n 2, 1) := by decide +kernel
theorem dX1_guessDigit_10 : decode cX1_guessDigit 10 = .ok (.aload_n 0, 1) := by decide +kernel
theorem dX1_guessDigit_11 : decode cX1_guessDigit 11 = .ok (.getfield 18, 3) := by decide +kernel
theorem dX1_guessDigit_14 : decode cX1_guessDigit 14 = .ok (.getfield 53, 3) := by decide +kernel
theorem dX1_guessDigit_17 : decode cX1_guessDigit 17 = .ok (.iload_n 2, 1) := by decide +kernel
theorem dX1_guessDigit_18 : decode cX1_guessDigit 18 = .ok (.iaload, 1) := by decide +kernel
theorem dX1_guessDigit_19 : decode cX1_guessDigit 19 = .ok (.i2l, 1) := by decide +kernel
theorem dX1_guessDigit_20 : decode cX1_guessDigit 20 = .ok (.bipush 30, 2) := by decide +kernel
theorem dX1_guessDigit_22 : decode cX1_guessDigit 22 = .ok (.lshl, 1) := by decide +kernel
theorem dX1_guessDigit_23 : decode cX1_guessDigit 23 = .ok (.aload_n 0, 1) := by decide +kernel
theorem dX1_guessDigit_24 : decode cX1_guessDigit 24 = .ok (.getfield 18, 3) := by decide +kernel
theorem dX1_guessDigit_27 : decode cX1_guessDigit 27 = .ok (.getfield 53, 3) := by decide +kernel
theorem dX1_guessDigit_30 : decode cX1_guessDigit 30 = .ok (.iload_n 2, 1) := by decide +kernel
theorem dX1_guessDigit_31 : decode cX1_guessDigit 31 = .ok (.iconst 1, 1) := by decide +kernel
theorem dX1_guessDigit_32 : decode cX1_guessDigit 32 = .ok (.isub, 1) := by decide +kernel
theorem dX1_guessDigit_33 : decode cX1_guessDigit 33 = .ok (.iaload, 1) := by decide +kernel
theorem dX1_guessDigit_34 : decode cX1_guessDigit 34 = .ok (.i2l, 1) := by decide +kernel
theorem dX1_guessDigit_35 : decode cX1_guessDigit 35 = .ok (.lor, 1) := by decide +kernel
theorem dX1_guessDigit_36 : decode cX1_guessDigit 36 = .ok (.lstore_n 3, 1) := by decide +kernel
theorem dX1_guessDigit_37 : decode cX1_guessDigit 37 = .ok (.iload_n 2, 1) := by decide +kernel
theorem dX1_guessDigit_38 : decode cX1_guessDigit 38 = .ok (.iconst 2, 1) := by decide +kernel
theorem dX1_guessDigit_39 : decode cX1_guessDigit 39 = .ok (.if_icmp .lt 18, 3) := by decide +kernel
theorem dX1_guessDigit_42 : decode cX1_guessDigit 42 = .ok (.aload_n 0, 1) := by decide +kernel
theorem dX1_guessDigit_43 : decode cX1_guessDigit 43 = .ok (.getfield 18, 3) := by decide +kernel
theorem dX1_guessDigit_46 : decode cX1_guessDigit 46 = .ok (.getfield 53, 3) := by decide +kernel
theorem dX1_guessDigit_49 : decode cX1_guessDigit 49 = .ok (.iload_n 2, 1) := by decide +kernel
theorem dX1_guessDigit_50 : decode cX1_guessDigit 50 = .ok (.iconst 2, 1) := by decide +kernel
theorem dX1_guessDigit_51 : decode cX1_guessDigit 51 = .ok (.isub, 1) := by decide +kernel
theorem dX1_guessDigit_52 : decode cX1_guessDigit 52 = .ok (.iaload, 1) := by decide +kernel
theorem dX1_guessDigit_53 : decode cX1_guessDigit 53 = .ok (.i2l, 1) := by decide +kernel
theorem dX1_guessDigit_54 : decode cX1_guessDigit 54 = .ok (.goto 4, 3) := by decide +kernel
theorem dX1_guessDigit_57 : decode cX1_guessDigit 57 = .ok (.lconst 0, 1) := by decide +kernel
theorem dX1_guessDigit_58 : decode cX1_guessDigit 58 = .ok (.lstore 5, 2) := by decide +kernel
theorem dX1_guessDigit_60 : decode cX1_guessDigit 60 = .ok (.aload_n 0, 1) := by decide +kernel
theorem dX1_guessDigit_61 : decode cX1_guessDigit 61 = .ok (.getfield 21, 3) := by decide +kernel
theorem dX1_guessDigit_64 : decode cX1_guessDigit 64 = .ok (.aload_n 0, 1) := by decide +kernel
theorem dX1_guessDigit_65 : decode cX1_guessDigit 65 = .ok (.getfield 21, 3) := by decide +kernel
theorem dX1_guessDigit_68 : decode cX1_guessDigit 68 = .ok (.getfield 36, 3) := by decide +kernel
theorem dX1_guessDigit_71 : decode cX1_guessDigit 71 = .ok (.iconst 1, 1) := by decide +kernel
theorem dX1_guessDigit_72 : decode cX1_guessDigit 72 = .ok (.isub, 1) := by decide +kernel
theorem dX1_guessDigit_73 : decode cX1_guessDigit 73 = .ok (.invokevirtual 77, 3) := by decide +kernel
theorem dX1_guessDigit_76 : decode cX1_guessDigit 76 = .ok (.i2l, 1) := by decide +kernel
theorem dX1_guessDigit_77 : decode cX1_guessDigit 77 = .ok (.lstore 7, 2) := by decide +kernel
theorem dX1_guessDigit_79 : decode cX1_guessDigit 79 = .ok (.aload_n 0, 1) := by decide +kernel
theorem dX1_guessDigit_80 : decode cX1_guessDigit 80 = .ok (.getfield 21, 3) := by decide +kernel
theorem dX1_guessDigit_83 : decode cX1_guessDigit 83 = .ok (.aload_n 0, 1) := by decide +kernel
theorem dX1_guessDigit_84 : decode cX1_guessDigit 84 = .ok (.getfield 21, 3) := by decide +kernel
theorem dX1_guessDigit_87 : decode cX1_guessDigit 87 = .ok (.getfield 36, 3) := by decide +kernel
theorem dX1_guessDigit_90 : decode cX1_guessDigit 90 = .ok (.iconst 2, 1) := by decide +kernel
theorem dX1_guessDigit_91 : decode cX1_guessDigit 91 = .ok (.isub, 1) := by decide +kernel
theorem dX1_guessDigit_92 : decode cX1_guessDigit 92 = .ok (.invokevirtual 77, 3) := by decide +kernel
theorem dX1_guessDigit_95 : decode cX1_guessDigit 95 = .ok (.i2l, 1) := by decide +kernel
theorem dX1_guessDigit_96 : decode cX1_guessDigit 96 = .ok (.lstore 9, 2) := by decide +kernel
theorem dX1_guessDigit_98 : decode cX1_guessDigit 98 = .ok (.lload 7, 2) := by decide +kernel
theorem dX1_guessDigit_100 : decode cX1_guessDigit 100 = .ok (.lconst 0, 1) := by decide +kernel
theorem dX1_guessDigit_101 : decode cX1_guessDigit 101 = .ok (.lcmp, 1) := by decide +kernel
theorem dX1_guessDigit_102 : decode cX1_guessDigit 102 = .ok (.ifCond .ne 5, 3) := by decide +kernel
theorem dX1_guessDigit_105 : decode cX1_guessDigit 105 = .ok (.iconst 0, 1) := by decide +kernel
theorem dX1_guessDigit_106 : decode cX1_guessDigit 106 = .ok (.ireturn, 1) := by decide +kernel
theorem dX1_guessDigit_107 : decode cX1_guessDigit 107 = .ok (.lload_n 3, 1) := by decide +kernel
theorem dX1_guessDigit_108 : decode cX1_guessDigit 108 = .ok (.lload 7, 2) := by decide +kernel
theorem dX1_guessDigit_110 : decode cX1_guessDigit 110 = .ok (.ldiv, 1) := by decide +kernel
theorem dX1_guessDigit_111 : decode cX1_guessDigit 111 = .ok (.lstore 11, 2) := by decide +kernel
theorem dX1_guessDigit_113 : decode cX1_guessDigit 113 = .ok (.lload_n 3, 1) := by decide +kernel
theorem dX1_guessDigit_114 : decode cX1_guessDigit 114 = .ok (.lload 7, 2) := by decide +kernel
theorem dX1_guessDigit_116 : decode cX1_guessDigit 116 = .ok (.lrem, 1) := by decide +kernel
theorem dX1_guessDigit_117 : decode cX1_guessDigit 117 = .ok (.lstore 13, 2) := by decide +kernel
theorem dX1_guessDigit_119 : decode cX1_guessDigit 119 = .ok (.iconst 0, 1) := by decide +kernel
theorem dX1_guessDigit_120 : decode cX1_guessDigit 120 = .ok (.istore 15, 2) := by decide +kernel
theorem dX1_guessDigit_122 : decode cX1_guessDigit 122 = .ok (.iload 15, 2) := by decide +kernel
theorem dX1_guessDigit_124 : decode cX1_guessDigit 124 = .ok (.iconst 2, 1) := by decide +kernel
theorem dX1_guessDigit_125 : decode cX1_guessDigit 125 = .ok (.if_icmp .ge 60, 3) := by decide +kernel
theorem dX1_guessDigit_128 : decode cX1_guessDigit 128 = .ok (.lload 13, 2) := by decide +kernel
theorem dX1_guessDigit_130 : decode cX1_guessDigit 130 = .ok (.ldc2_w 80, 3) := by decide +kernel
theorem dX1_guessDigit_133 : decode cX1_guessDigit 133 = .ok (.lcmp, 1) := by decide +kernel
theorem dX1_guessDigit_134 : decode cX1_guessDigit 134 = .ok (.ifCond .gt 51, 3) := by decide +kernel
theorem dX1_guessDigit_137 : decode cX1_guessDigit 137 = .ok (.lload 11, 2) := by decide +kernel
theorem dX1_guessDigit_139 : decode cX1_guessDigit 139 = .ok (.ldc2_w 80, 3) := by decide +kernel
theorem dX1_guessDigit_142 : decode cX1_guessDigit 142 = .ok (.lcmp, 1) := by decide +kernel
theorem dX1_guessDigit_143 : decode cX1_guessDigit 143 = .ok (.ifCond .gt 23, 3) := by decide +kernel
theorem dX1_guessDigit_146 : decode cX1_guessDigit 146 = .ok (.lload 11, 2) := by decide +kernel
theorem dX1_guessDigit_148 : decode cX1_guessDigit 148 = .ok (.lload 9, 2) := by decide +kernel
theorem dX1_guessDigit_150 : decode cX1_guessDigit 150 = .ok (.lmul, 1) := by decide +kernel
theorem dX1_guessDigit_151 : decode cX1_guessDigit 151 = .ok (.lload 13, 2) := by decide +kernel
theorem dX1_guessDigit_153 : decode cX1_guessDigit 153 = .ok (.bipush 30, 2) := by decide +kernel
theorem dX1_guessDigit_155 : decode cX1_guessDigit 155 = .ok (.lshl, 1) := by decide +kernel
theorem dX1_guessDigit_156 : decode cX1_guessDigit 156 = .ok (.lload 5, 2) := by decide +kernel
theorem dX1_guessDigit_158 : decode cX1_guessDigit 158 = .ok (.lor, 1) := by decide +kernel
theorem dX1_guessDigit_159 : decode cX1_guessDigit 159 = .ok (.lcmp, 1) := by decide +kernel
theorem dX1_guessDigit_160 : decode cX1_guessDigit 160 = .ok (.ifCond .gt 6, 3) := by decide +kernel
theorem dX1_guessDigit_163 : decode cX1_guessDigit 163 = .ok (.goto 22, 3) := by decide +kernel
theorem dX1_guessDigit_166 : decode cX1_guessDigit 166 = .ok (.lload 11, 2) := by decide +kernel
theorem dX1_guessDigit_168 : decode cX1_guessDigit 168 = .ok (.lconst 1, 1) := by decide +kernel
theorem dX1_guessDigit_169 : decode cX1_guessDigit 169 = .ok (.lsub, 1) := by decide +kernel
theorem dX1_guessDigit_170 : decode cX1_guessDigit 170 = .ok (.lstore 11, 2) := by decide +kernel
theorem dX1_guessDigit_172 : decode cX1_guessDigit 172 = .ok (.lload 13, 2) := by decide +kernel
theorem dX1_guessDigit_174 : decode cX1_guessDigit 174 = .ok (.lload 7, 2) := by decide +kernel
theorem dX1_guessDigit_176 : decode cX1_guessDigit 176 = .ok (.ladd, 1) := by decide +kernel
theorem dX1_guessDigit_177 : decode cX1_guessDigit 177 = .ok (.lstore 13, 2) := by decide +kernel
theorem dX1_guessDigit_179 : decode cX1_guessDigit 179 = .ok (.iinc 15 1, 3) := by decide +kernel
theorem dX1_guessDigit_182 : decode cX1_guessDigit 182 = .ok (.goto (-60), 3) := by decide +kernel
theorem dX1_guessDigit_185 : decode cX1_guessDigit 185 = .ok (.lload 11, 2) := by decide +kernel
theorem dX1_guessDigit_187 : decode cX1_guessDigit 187 = .ok (.l2i, 1) := by decide +kernel
theorem dX1_guessDigit_188 : decode cX1_guessDigit 188 = .ok (.ireturn, 1) := by decide +kernel
theorem dX1_subtractAt_0 : decode cX1_subtractAt 0 = .ok (.aload_n 0, 1) := by decide +kernel
theorem dX1_subtractAt_1 : decode cX1_subtractAt 1 = .ok (.getfield 21, 3) := by decide +kernel
theorem dX1_subtractAt_4 : decode cX1_subtractAt 4 = .ok (.getfield 36, 3) := by decide +kernel
theorem dX1_subtractAt_7 : decode cX1_subtractAt 7 = .ok (.istore 4, 2) := by decide +kernel
theorem dX1_subtractAt_9 : decode cX1_subtractAt 9 = .ok (.lconst 0, 1) := by decide +kernel
theorem dX1_subtractAt_10 : decode cX1_subtractAt 10 = .ok (.lstore 5, 2) := by decide +kernel
theorem dX1_subtractAt_12 : decode cX1_subtractAt 12 = .ok (.iconst 0, 1) := by decide +kernel
theorem dX1_subtractAt_13 : decode cX1_subtractAt 13 = .ok (.istore 7, 2) := by decide +kernel
theorem dX1_subtractAt_15 : decode cX1_subtractAt 15 = .ok (.iload 7, 2) := by decide +kernel
theorem dX1_subtractAt_17 : decode cX1_subtractAt 17 = .ok (.iload 4, 2) := by decide +kernel
theorem dX1_subtractAt_19 : decode cX1_subtractAt 19 = .ok (.if_icmp .ge 66, 3) := by decide +kernel
theorem dX1_subtractAt_22 : decode cX1_subtractAt 22 = .ok (.aload_n 0, 1) := by decide +kernel
theorem dX1_subtractAt_23 : decode cX1_subtractAt 23 = .ok (.getfield 18, 3) := by decide +kernel
theorem dX1_subtractAt_26 : decode cX1_subtractAt 26 = .ok (.getfield 53, 3) := by decide +kernel
theorem dX1_subtractAt_29 : decode cX1_subtractAt 29 = .ok (.iload_n 1, 1) := by decide +kernel
theorem dX1_subtractAt_30 : decode cX1_subtractAt 30 = .ok (.iload 7, 2) := by decide +kernel
theorem dX1_subtractAt_32 : decode cX1_subtractAt 32 = .ok (.iadd, 1) := by decide +kernel
theorem dX1_subtractAt_33 : decode cX1_subtractAt 33 = .ok (.iaload, 1) := by decide +kernel
theorem dX1_subtractAt_34 : decode cX1_subtractAt 34 = .ok (.i2l, 1) := by decide +kernel
theorem dX1_subtractAt_35 : decode cX1_subtractAt 35 = .ok (.lload_n 2, 1) := by decide +kernel
theorem dX1_subtractAt_36 : decode cX1_subtractAt 36 = .ok (.aload_n 0, 1) := by decide +kernel
theorem dX1_subtractAt_37 : decode cX1_subtractAt 37 = .ok (.getfield 21, 3) := by decide +kernel
theorem dX1_subtractAt_40 : decode cX1_subtractAt 40 = .ok (.getfield 53, 3) := by decide +kernel
theorem dX1_subtractAt_43 : decode cX1_subtractAt 43 = .ok (.iload 7, 2) := by decide +kernel
theorem dX1_subtractAt_45 : decode cX1_subtractAt 45 = .ok (.iaload, 1) := by decide +kernel
theorem dX1_subtractAt_46 : decode cX1_subtractAt 46 = .ok (.i2l, 1) := by decide +kernel
theorem dX1_subtractAt_47 : decode cX1_subtractAt 47 = .ok (.lmul, 1) := by decide +kernel
theorem dX1_subtractAt_48 : decode cX1_subtractAt 48 = .ok (.lsub, 1) := by decide +kernel
theorem dX1_subtractAt_49 : decode cX1_subtractAt 49 = .ok (.lload 5, 2) := by decide +kernel
theorem dX1_subtractAt_51 : decode cX1_subtractAt 51 = .ok (.ladd, 1) := by decide +kernel
theorem dX1_subtractAt_52 : decode cX1_subtractAt 52 = .ok (.lstore 8, 2) := by decide +kernel
theorem dX1_subtractAt_54 : decode cX1_subtractAt 54 = .ok (.aload_n 0, 1) := by decide +kernel
theorem dX1_subtractAt_55 : decode cX1_subtractAt 55 = .ok (.getfield 18, 3) := by decide +kernel
theorem dX1_subtractAt_58 : decode cX1_subtractAt 58 = .ok (.getfield 53, 3) := by decide +kernel
theorem dX1_subtractAt_61 : decode cX1_subtractAt 61 = .ok (.iload_n 1, 1) := by decide +kernel
theorem dX1_subtractAt_62 : decode cX1_subtractAt 62 = .ok (.iload 7, 2) := by decide +kernel
theorem dX1_subtractAt_64 : decode cX1_subtractAt 64 = .ok (.iadd, 1) := by decide +kernel
theorem dX1_subtractAt_65 : decode cX1_subtractAt 65 = .ok (.lload 8, 2) := by decide +kernel
theorem dX1_subtractAt_67 : decode cX1_subtractAt 67 = .ok (.l2i, 1) := by decide +kernel
theorem dX1_subtractAt_68 : decode cX1_subtractAt 68 = .ok (.ldc 82, 2) := by decide +kernel
theorem dX1_subtractAt_70 : decode cX1_subtractAt 70 = .ok (.iand, 1) := by decide +kernel
theorem dX1_subtractAt_71 : decode cX1_subtractAt 71 = .ok (.iastore, 1) := by decide +kernel
theorem dX1_subtractAt_72 : decode cX1_subtractAt 72 = .ok (.lload 8, 2) := by decide +kernel
theorem dX1_subtractAt_74 : decode cX1_subtractAt 74 = .ok (.bipush 30, 2) := by decide +kernel
theorem dX1_subtractAt_76 : decode cX1_subtractAt 76 = .ok (.lshr, 1) := by decide +kernel
theorem dX1_subtractAt_77 : decode cX1_subtractAt 77 = .ok (.lstore 5, 2) := by decide +kernel
theorem dX1_subtractAt_79 : decode cX1_subtractAt 79 = .ok (.iinc 7 1, 3) := by decide +kernel
theorem dX1_subtractAt_82 : decode cX1_subtractAt 82 = .ok (.goto (-67), 3) := by decide +kernel
theorem dX1_subtractAt_85 : decode cX1_subtractAt 85 = .ok (.aload_n 0, 1) := by decide +kernel
theorem dX1_subtractAt_86 : decode cX1_subtractAt 86 = .ok (.getfield 18, 3) := by decide +kernel
theorem dX1_subtractAt_89 : decode cX1_subtractAt 89 = .ok (.getfield 53, 3) := by decide +kernel
theorem dX1_subtractAt_92 : decode cX1_subtractAt 92 = .ok (.iload_n 1, 1) := by decide +kernel
theorem dX1_subtractAt_93 : decode cX1_subtractAt 93 = .ok (.iload 4, 2) := by decide +kernel
theorem dX1_subtractAt_95 : decode cX1_subtractAt 95 = .ok (.iadd, 1) := by decide +kernel
theorem dX1_subtractAt_96 : decode cX1_subtractAt 96 = .ok (.iaload, 1) := by decide +kernel
theorem dX1_subtractAt_97 : decode cX1_subtractAt 97 = .ok (.i2l, 1) := by decide +kernel
theorem dX1_subtractAt_98 : decode cX1_subtractAt 98 = .ok (.lload 5, 2) := by decide +kernel
theorem dX1_subtractAt_100 : decode cX1_subtractAt 100 = .ok (.ladd, 1) := by decide +kernel
theorem dX1_subtractAt_101 : decode cX1_subtractAt 101 = .ok (.lstore 7, 2) := by decide +kernel
theorem dX1_subtractAt_103 : decode cX1_subtractAt 103 = .ok (.aload_n 0, 1) := by decide +kernel
theorem dX1_subtractAt_104 : decode cX1_subtractAt 104 = .ok (.getfield 18, 3) := by decide +kernel
theorem dX1_subtractAt_107 : decode cX1_subtractAt 107 = .ok (.getfield 53, 3) := by decide +kernel
theorem dX1_subtractAt_110 : decode cX1_subtractAt 110 = .ok (.iload_n 1, 1) := by decide +kernel
theorem dX1_subtractAt_111 : decode cX1_subtractAt 111 = .ok (.iload 4, 2) := by decide +kernel
theorem dX1_subtractAt_113 : decode cX1_subtractAt 113 = .ok (.iadd, 1) := by decide +kernel
theorem dX1_subtractAt_114 : decode cX1_subtractAt 114 = .ok (.lload 7, 2) := by decide +kernel
theorem dX1_subtractAt_116 : decode cX1_subtractAt 116 = .ok (.l2i, 1) := by decide +kernel
theorem dX1_subtractAt_117 : decode cX1_subtractAt 117 = .ok (.ldc 82, 2) := by decide +kernel
theorem dX1_subtractAt_119 : decode cX1_subtractAt 119 = .ok (.iand, 1) := by decide +kernel
theorem dX1_subtractAt_120 : decode cX1_subtractAt 120 = .ok (.iastore, 1) := by decide +kernel
theorem dX1_subtractAt_121 : decode cX1_subtractAt 121 = .ok (.lload 7, 2) := by decide +kernel
theorem dX1_subtractAt_123 : decode cX1_subtractAt 123 = .ok (.lconst 0, 1) := by decide +kernel
theorem dX1_subtractAt_124 : decode cX1_subtractAt 124 = .ok (.lcmp, 1) := by decide +kernel
theorem dX1_subtractAt_125 : decode cX1_subtractAt 125 = .ok (.ifCond .ge 7, 3) := by decide +kernel
theorem dX1_subtractAt_128 : decode cX1_subtractAt 128 = .ok (.iconst 1, 1) := by decide +kernel
theorem dX1_subtractAt_129 : decode cX1_subtractAt 129 = .ok (.goto 4, 3) := by decide +kernel
theorem dX1_subtractAt_132 : decode cX1_subtractAt 132 = .ok (.iconst 0, 1) := by decide +kernel
theorem dX1_subtractAt_133 : decode cX1_subtractAt 133 = .ok (.ireturn, 1) := by decide +kernel
theorem dX1_addBackAt_0 : decode cX1_addBackAt 0 = .ok (.aload_n 0, 1) := by decide +kernel
theorem dX1_addBackAt_1 : decode cX1_addBackAt 1 = .ok (.getfield 21, 3) := by decide +kernel
theorem dX1_addBackAt_4 : decode cX1_addBackAt 4 = .ok (.getfield 36, 3) := by decide +kernel
theorem dX1_addBackAt_7 : decode cX1_addBackAt 7 = .ok (.istore_n 2, 1) := by decide +kernel
theorem dX1_addBackAt_8 : decode cX1_addBackAt 8 = .ok (.iconst 0, 1) := by decide +kernel
theorem dX1_addBackAt_9 : decode cX1_addBackAt 9 = .ok (.istore_n 3, 1) := by decide +kernel
theorem dX1_addBackAt_10 : decode cX1_addBackAt 10 = .ok (.iconst 0, 1) := by decide +kernel
theorem dX1_addBackAt_11 : decode cX1_addBackAt 11 = .ok (.istore 4, 2) := by decide +kernel
theorem dX1_addBackAt_13 : decode cX1_addBackAt 13 = .ok (.iload 4, 2) := by decide +kernel
theorem dX1_addBackAt_15 : decode cX1_addBackAt 15 = .ok (.iload_n 2, 1) := by decide +kernel
theorem dX1_addBackAt_16 : decode cX1_addBackAt 16 = .ok (.if_icmp .ge 59, 3) := by decide +kernel
theorem dX1_addBackAt_19 : decode cX1_addBackAt 19 = .ok (.aload_n 0, 1) := by decide +kernel
theorem dX1_addBackAt_20 : decode cX1_addBackAt 20 = .ok (.getfield 18, 3) := by decide +kernel
theorem dX1_addBackAt_23 : decode cX1_addBackAt 23 = .ok (.getfield 53, 3) := by decide +kernel
theorem dX1_addBackAt_26 : decode cX1_addBackAt 26 = .ok (.iload_n 1, 1) := by decide +kernel
theorem dX1_addBackAt_27 : decode cX1_addBackAt 27 = .ok (.iload 4, 2) := by decide +kernel
theorem dX1_addBackAt_29 : decode cX1_addBackAt 29 = .ok (.iadd, 1) := by decide +kernel
theorem dX1_addBackAt_30 : decode cX1_addBackAt 30 = .ok (.iaload, 1) := by decide +kernel
theorem dX1_addBackAt_31 : decode cX1_addBackAt 31 = .ok (.aload_n 0, 1) := by decide +kernel
theorem dX1_addBackAt_32 : decode cX1_addBackAt 32 = .ok (.getfield 21, 3) := by decide +kernel
theorem dX1_addBackAt_35 : decode cX1_addBackAt 35 = .ok (.getfield 53, 3) := by decide +kernel
theorem dX1_addBackAt_38 : decode cX1_addBackAt 38 = .ok (.iload 4, 2) := by decide +kernel
theorem dX1_addBackAt_40 : decode cX1_addBackAt 40 = .ok (.iaload, 1) := by decide +kernel
theorem dX1_addBackAt_41 : decode cX1_addBackAt 41 = .ok (.iadd, 1) := by decide +kernel
theorem dX1_addBackAt_42 : decode cX1_addBackAt 42 = .ok (.iload_n 3, 1) := by decide +kernel
theorem dX1_addBackAt_43 : decode cX1_addBackAt 43 = .ok (.iadd, 1) := by decide +kernel
theorem dX1_addBackAt_44 : decode cX1_addBackAt 44 = .ok (.istore 5, 2) := by decide +kernel
theorem dX1_addBackAt_46 : decode cX1_addBackAt 46 = .ok (.aload_n 0, 1) := by decide +kernel
theorem dX1_addBackAt_47 : decode cX1_addBackAt 47 = .ok (.getfield 18, 3) := by decide +kernel
theorem dX1_addBackAt_50 : decode cX1_addBackAt 50 = .ok (.getfield 53, 3) := by decide +kernel
theorem dX1_addBackAt_53 : decode cX1_addBackAt 53 = .ok (.iload_n 1, 1) := by decide +kernel
theorem dX1_addBackAt_54 : decode cX1_addBackAt 54 = .ok (.iload 4, 2) := by decide +kernel
theorem dX1_addBackAt_56 : decode cX1_addBackAt 56 = .ok (.iadd, 1) := by decide +kernel
theorem dX1_addBackAt_57 : decode cX1_addBackAt 57 = .ok (.iload 5, 2) := by decide +kernel
theorem dX1_addBackAt_59 : decode cX1_addBackAt 59 = .ok (.ldc 82, 2) := by decide +kernel
theorem dX1_addBackAt_61 : decode cX1_addBackAt 61 = .ok (.iand, 1) := by decide +kernel
theorem dX1_addBackAt_62 : decode cX1_addBackAt 62 = .ok (.iastore, 1) := by decide +kernel
theorem dX1_addBackAt_63 : decode cX1_addBackAt 63 = .ok (.iload 5, 2) := by decide +kernel
theorem dX1_addBackAt_65 : decode cX1_addBackAt 65 = .ok (.bipush 30, 2) := by decide +kernel
theorem dX1_addBackAt_67 : decode cX1_addBackAt 67 = .ok (.iushr, 1) := by decide +kernel
theorem dX1_addBackAt_68 : decode cX1_addBackAt 68 = .ok (.istore_n 3, 1) := by decide +kernel
theorem dX1_addBackAt_69 : decode cX1_addBackAt 69 = .ok (.iinc 4 1, 3) := by decide +kernel
theorem dX1_addBackAt_72 : decode cX1_addBackAt 72 = .ok (.goto (-59), 3) := by decide +kernel
theorem dX1_addBackAt_75 : decode cX1_addBackAt 75 = .ok (.aload_n 0, 1) := by decide +kernel
theorem dX1_addBackAt_76 : decode cX1_addBackAt 76 = .ok (.getfield 18, 3) := by decide +kernel
theorem dX1_addBackAt_79 : decode cX1_addBackAt 79 = .ok (.getfield 53, 3) := by decide +kernel
theorem dX1_addBackAt_82 : decode cX1_addBackAt 82 = .ok (.iload_n 1, 1) := by decide +kernel
theorem dX1_addBackAt_83 : decode cX1_addBackAt 83 = .ok (.iload_n 2, 1) := by decide +kernel
theorem dX1_addBackAt_84 : decode cX1_addBackAt 84 = .ok (.iadd, 1) := by decide +kernel
theorem dX1_addBackAt_85 : decode cX1_addBackAt 85 = .ok (.aload_n 0, 1) := by decide +kernel
theorem dX1_addBackAt_86 : decode cX1_addBackAt 86 = .ok (.getfield 18, 3) := by decide +kernel
theorem dX1_addBackAt_89 : decode cX1_addBackAt 89 = .ok (.getfield 53, 3) := by decide +kernel
theorem dX1_addBackAt_92 : decode cX1_addBackAt 92 = .ok (.iload_n 1, 1) := by decide +kernel
theorem dX1_addBackAt_93 : decode cX1_addBackAt 93 = .ok (.iload_n 2, 1) := by decide +kernel
theorem dX1_addBackAt_94 : decode cX1_addBackAt 94 = .ok (.iadd, 1) := by decide +kernel
theorem dX1_addBackAt_95 : decode cX1_addBackAt 95 = .ok (.iaload, 1) := by decide +kernel
theorem dX1_addBackAt_96 : decode cX1_addBackAt 96 = .ok (.iload_n 3, 1) := by decide +kernel
theorem dX1_addBackAt_97 : decode cX1_addBackAt 97 = .ok (.iadd, 1) := by decide +kernel
theorem dX1_addBackAt_98 : decode cX1_addBackAt 98 = .ok (.ldc 82, 2) := by decide +kernel
theorem dX1_addBackAt_100 : decode cX1_addBackAt 100 = .ok (.iand, 1) := by decide +kernel
theorem dX1_addBackAt_101 : decode cX1_addBackAt 101 = .ok (.iastore, 1) := by decide +kernel
theorem dX1_addBackAt_102 : decode cX1_addBackAt 102 = .ok (.return_, 1) := by decide +kernel
theorem dX2_init_0 : decode cX2_init 0 = .ok (.aload_n 0, 1) := by decide +kernel
theorem dX2_init_1 : decode cX2_init 1 = .ok (.invokespecial 3, 3) := by decide +kernel
theorem dX2_init_4 : decode cX2_init 4 = .ok (.aload_n 0, 1) := by decide +kernel
theorem dX2_init_5 : decode cX2_init 5 = .ok (.sipush 140, 3) := by decide +kernel
theorem dX2_init_8 : decode cX2_init 8 = .ok (.newarray .int, 2) := by decide +kernel
theorem dX2_init_10 : decode cX2_init 10 = .ok (.putfield 9, 3) := by decide +kernel
theorem dX2_init_13 : decode cX2_init 13 = .ok (.return_, 1) := by decide +kernel
theorem dX2_isZero_0 : decode cX2_isZero 0 = .ok (.aload_n 0, 1) := by decide +kernel
theorem dX2_isZero_1 : decode cX2_isZero 1 = .ok (.getfield 15, 3) := by decide +kernel
theorem dX2_isZero_4 : decode cX2_isZero 4 = .ok (.ifCond .ne 7, 3) := by decide +kernel
theorem dX2_isZero_7 : decode cX2_isZero 7 = .ok (.iconst 1, 1) := by decide +kernel
theorem dX2_isZero_8 : decode cX2_isZero 8 = .ok (.goto 4, 3) := by decide +kernel
theorem dX2_isZero_11 : decode cX2_isZero 11 = .ok (.iconst 0, 1) := by decide +kernel
theorem dX2_isZero_12 : decode cX2_isZero 12 = .ok (.ireturn, 1) := by decide +kernel
theorem dX2_limb_0 : decode cX2_limb 0 = .ok (.iload_n 1, 1) := by decide +kernel
theorem dX2_limb_1 : decode cX2_limb 1 = .ok (.ifCond .lt 20, 3) := by decide +kernel
theorem dX2_limb_4 : decode cX2_limb 4 = .ok (.iload_n 1, 1) := by decide +kernel
theorem dX2_limb_5 : decode cX2_limb 5 = .ok (.aload_n 0, 1) := by decide +kernel
theorem dX2_limb_6 : decode cX2_limb 6 = .ok (.getfield 15, 3) := by decide +kernel
theorem dX2_limb_9 : decode cX2_limb 9 = .ok (.if_icmp .ge 12, 3) := by decide +kernel
theorem dX2_limb_12 : decode cX2_limb 12 = .ok (.aload_n 0, 1) := by decide +kernel
theorem dX2_limb_13 : decode cX2_limb 13 = .ok (.getfield 9, 3) := by decide +kernel
theorem dX2_limb_16 : decode cX2_limb 16 = .ok (.iload_n 1, 1) := by decide +kernel
theorem dX2_limb_17 : decode cX2_limb 17 = .ok (.iaload, 1) := by decide +kernel
theorem dX2_limb_18 : decode cX2_limb 18 = .ok (.goto 4, 3) := by decide +kernel
theorem dX2_limb_21 : decode cX2_limb 21 = .ok (.iconst 0, 1) := by decide +kernel
theorem dX2_limb_22 : decode cX2_limb 22 = .ok (.ireturn, 1) := by decide +kernel
set_option maxRecDepth 20000 in
theorem ggX2_bitLength_X2_spareBits : GoodIn wsX2_bitLength wsX2_spareBits := goodIn_r _ [6, 1, 7, 8, 9, 5, 10, 11, 12, 13, 14, 15, 16, 17, 18] (by decide +kernel) (by decide +kernel)
set_option maxRecDepth 20000 in
theorem gX2_bitLength_X2_spareBits : GoodIn wsX2_bitLength (wsV RX2 19 RX2 yX2_spareBits wsX2_spareBits) := goodIn_app (goodIn_of _ (by decide +kernel)) ggX2_bitLength_X2_spareBits
theorem dX2_bitLength_0 : decode cX2_bitLength 0 = .ok (.aload_n 0, 1) := by decide +kernel
theorem dX2_bitLength_1 : decode cX2_bitLength 1 = .ok (.getfield 15, 3) := by decide +kernel
theorem dX2_bitLength_4 : decode cX2_bitLength 4 = .ok (.bipush 30, 2) := by decide +kernel
theorem dX2_bitLength_6 : decode cX2_bitLength 6 = .ok (.imul, 1) := by decide +kernel
theorem dX2_bitLength_7 : decode cX2_bitLength 7 = .ok (.aload_n 0, 1) := by decide +kernel
theorem dX2_bitLength_8 : decode cX2_bitLength 8 = .ok (.invokevirtual 19, 3) := by decide +kernel
theorem dX2_bitLength_11 : decode cX2_bitLength 11 = .ok (.isub, 1) := by decide +kernel
theorem dX2_bitLength_12 : decode cX2_bitLength 12 = .ok (.ireturn, 1) := by decide +kernel
set_option maxRecDepth 20000 in
theorem ggX2_spareBits_X2_limb : GoodIn wsX2_spareBits wsX2_limb := goodIn_r _ [6, 1, 7, 13, 14] (by decide +kernel) (by decide +kernel)
set_option maxRecDepth 20000 in
theorem gX2_spareBits_X2_limb : GoodIn wsX2_spareBits (wsV RX2 23 RX2 yX2_limb wsX2_limb) := goodIn_app (goodIn_of _ (by decide +kernel)) ggX2_spareBits_X2_limb
set_option maxRecDepth 20000 in
theorem ggX2_spareBits_J6_numberOfLeadingZeros_0f7a4 : GoodIn wsX2_spareBits wsJ6_numberOfLeadingZeros_0f7a4 := goodIn_r _ [11, 12] (by decide +kernel) (by decide +kernel)
set_option maxRecDepth 20000 in
theorem gX2_spareBits_J6_numberOfLeadingZeros_0f7a4 : GoodIn wsX2_spareBits (va_wsS RX2 27 yJ6_numberOfLeadingZeros_0f7a4 wsJ6_numberOfLeadingZeros_0f7a4) := goodIn_app (goodIn_of _ (by decide +kernel)) ggX2_spareBits_J6_numberOfLeadingZeros_0f7a4
theorem dX2_spareBits_0 : decode cX2_spareBits 0 = .ok (.aload_n 0, 1) := by decide +kernel
theorem dX2_spareBits_1 : decode cX2_spareBits 1 = .ok (.getfield 15, 3) := by decide +kernel
theorem dX2_spareBits_4 : decode cX2_spareBits 4 = .ok (.ifCond .ne 7, 3) := by decide +kernel
theorem dX2_spareBits_7 : decode cX2_spareBits 7 = .ok (.iconst 0, 1) := by decide +kernel
theorem dX2_spareBits_8 : decode cX2_spareBits 8 = .ok (.goto 18, 3) := by decide +kernel
theorem dX2_spareBits_11 : decode cX2_spareBits 11 = .ok (.aload_n 0, 1) := by decide +kernel
theorem dX2_spareBits_12 : decode cX2_spareBits 12 = .ok (.aload_n 0, 1) := by decide +kernel
theorem dX2_spareBits_13 : decode cX2_spareBits 13 = .ok (.getfield 15, 3) := by decide +kernel
theorem dX2_spareBits_16 : decode cX2_spareBits 16 = .ok (.iconst 1, 1) := by decide +kernel
theorem dX2_spareBits_17 : decode cX2_spareBits 17 = .ok (.isub, 1) := by decide +kernel
theorem dX2_spareBits_18 : decode cX2_spareBits 18 = .ok (.invokevirtual 23, 3) := by decide +kernel
theorem dX2_spareBits_21 : decode cX2_spareBits 21 = .ok (.invokestatic 27, 3) := by decide +kernel
theorem dX2_spareBits_24 : decode cX2_spareBits 24 = .ok (.iconst 2, 1) := by decide +kernel
theorem dX2_spareBits_25 : decode cX2_spareBits 25 = .ok (.isub, 1) := by decide +kernel
theorem dX2_spareBits_26 : decode cX2_spareBits 26 = .ok (.ireturn, 1) := by decide +kernel
set_option maxRecDepth 20000 in
theorem ggX2_limbFrom_X2_limb : GoodIn wsX2_limbFrom wsX2_limb := goodIn_r _ [6, 7, 8, 9, 10] (by decide +kernel) (by decide +kernel)
set_option maxRecDepth 20000 in
theorem gX2_limbFrom_X2_limb : GoodIn wsX2_limbFrom (wsV RX2 23 RX2 yX2_limb wsX2_limb) := goodIn_app (goodIn_of _ (by decide +kernel)) ggX2_limbFrom_X2_limb
theorem dX2_limbFrom_0 : decode cX2_limbFrom 0 = .ok (.iload_n 1, 1) := by decide +kernel
theorem dX2_limbFrom_1 : decode cX2_limbFrom 1 = .ok (.bipush 30, 2) := by decide +kernel
theorem dX2_limbFrom_3 : decode cX2_limbFrom 3 = .ok (.idiv, 1) := by decide +kernel
theorem dX2_limbFrom_4 : decode cX2_limbFrom 4 = .ok (.istore_n 2, 1) := by decide +kernel
theorem dX2_limbFrom_5 : decode cX2_limbFrom 5 = .ok (.iload_n 1, 1) := by decide +kernel
theorem dX2_limbFrom_6 : decode cX2_limbFrom 6 = .ok (.bipush 30, 2) := by decide +kernel
theorem dX2_limbFrom_8 : decode cX2_limbFrom 8 = .ok (.irem, 1) := by decide +kernel
theorem dX2_limbFrom_9 : decode cX2_limbFrom 9 = .ok (.istore_n 3, 1) := by decide +kernel
theorem dX2_limbFrom_10 : decode cX2_limbFrom 10 = .ok (.aload_n 0, 1) := by decide +kernel
theorem dX2_limbFrom_11 : decode cX2_limbFrom 11 = .ok (.iload_n 2, 1) := by decide +kernel
theorem dX2_limbFrom_12 : decode cX2_limbFrom 12 = .ok (.invokevirtual 23, 3) := by decide +kernel
theorem dX2_limbFrom_15 : decode cX2_limbFrom 15 = .ok (.iload_n 3, 1) := by decide +kernel
theorem dX2_limbFrom_16 : decode cX2_limbFrom 16 = .ok (.iushr, 1) := by decide +kernel
theorem dX2_limbFrom_17 : decode cX2_limbFrom 17 = .ok (.aload_n 0, 1) := by decide +kernel
theorem dX2_limbFrom_18 : decode cX2_limbFrom 18 = .ok (.iload_n 2, 1) := by decide +kernel
theorem dX2_limbFrom_19 : decode cX2_limbFrom 19 = .ok (.iconst 1, 1) := by decide +kernel
theorem dX2_limbFrom_20 : decode cX2_limbFrom 20 = .ok (.iadd, 1) := by decide +kernel
theorem dX2_limbFrom_21 : decode cX2_limbFrom 21 = .ok (.invokevirtual 23, 3) := by decide +kernel
theorem dX2_limbFrom_24 : decode cX2_limbFrom 24 = .ok (.bipush 30, 2) := by decide +kernel
theorem dX2_limbFrom_26 : decode cX2_limbFrom 26 = .ok (.iload_n 3, 1) := by decide +kernel
theorem dX2_limbFrom_27 : decode cX2_limbFrom 27 = .ok (.isub, 1) := by decide +kernel
theorem dX2_limbFrom_28 : decode cX2_limbFrom 28 = .ok (.ishl, 1) := by decide +kernel
theorem dX2_limbFrom_29 : decode cX2_limbFrom 29 = .ok (.ior, 1) := by decide +kernel
theorem dX2_limbFrom_30 : decode cX2_limbFrom 30 = .ok (.ldc 32, 2) := by decide +kernel
theorem dX2_limbFrom_32 : decode cX2_limbFrom 32 = .ok (.iand, 1) := by decide +kernel
theorem dX2_limbFrom_33 : decode cX2_limbFrom 33 = .ok (.ireturn, 1) := by decide +kernel
set_option maxRecDepth 20000 in
theorem ggX2_anyBitBelow_X2_limb : GoodIn wsX2_anyBitBelow wsX2_limb := goodIn_r _ [7, 1, 2, 8, 9] (by decide +kernel) (by decide +kernel)
set_option maxRecDepth 20000 in
theorem gX2_anyBitBelow_X2_limb : GoodIn wsX2_anyBitBelow (wsV RX2 23 RX2 yX2_limb wsX2_limb) := goodIn_app (goodIn_of _ (by decide +kernel)) ggX2_anyBitBelow_X2_limb
theorem dX2_anyBitBelow_0 : decode cX2_anyBitBelow 0 = .ok (.iload_n 1, 1) := by decide +kernel
theorem dX2_anyBitBelow_1 : decode cX2_anyBitBelow 1 = .ok (.bipush 30, 2) := by decide +kernel
theorem dX2_anyBitBelow_3 : decode cX2_anyBitBelow 3 = .ok (.idiv, 1) := by decide +kernel
theorem dX2_anyBitBelow_4 : decode cX2_anyBitBelow 4 = .ok (.istore_n 2, 1) := by decide +kernel
theorem dX2_anyBitBelow_5 : decode cX2_anyBitBelow 5 = .ok (.iconst 0, 1) := by decide +kernel
theorem dX2_anyBitBelow_6 : decode cX2_anyBitBelow 6 = .ok (.istore_n 3, 1) := by decide +kernel
theorem dX2_anyBitBelow_7 : decode cX2_anyBitBelow 7 = .ok (.iload_n 3, 1) := by decide +kernel
theorem dX2_anyBitBelow_8 : decode cX2_anyBitBelow 8 = .ok (.iload_n 2, 1) := by decide +kernel
theorem dX2_anyBitBelow_9 : decode cX2_anyBitBelow 9 = .ok (.if_icmp .ge 28, 3) := by decide +kernel
theorem dX2_anyBitBelow_12 : decode cX2_anyBitBelow 12 = .ok (.iload_n 3, 1) := by decide +kernel
theorem dX2_anyBitBelow_13 : decode cX2_anyBitBelow 13 = .ok (.aload_n 0, 1) := by decide +kernel
theorem dX2_anyBitBelow_14 : decode cX2_anyBitBelow 14 = .ok (.getfield 15, 3) := by decide +kernel
theorem dX2_anyBitBelow_17 : decode cX2_anyBitBelow 17 = .ok (.if_icmp .ge 20, 3) := by decide +kernel
theorem dX2_anyBitBelow_20 : decode cX2_anyBitBelow 20 = .ok (.aload_n 0, 1) := by decide +kernel
theorem dX2_anyBitBelow_21 : decode cX2_anyBitBelow 21 = .ok (.getfield 9, 3) := by decide +kernel
theorem dX2_anyBitBelow_24 : decode cX2_anyBitBelow 24 = .ok (.iload_n 3, 1) := by decide +kernel
theorem dX2_anyBitBelow_25 : decode cX2_anyBitBelow 25 = .ok (.iaload, 1) := by decide +kernel
theorem dX2_anyBitBelow_26 : decode cX2_anyBitBelow 26 = .ok (.ifCond .eq 5, 3) := by decide +kernel
theorem dX2_anyBitBelow_29 : decode cX2_anyBitBelow 29 = .ok (.iconst 1, 1) := by decide +kernel
theorem dX2_anyBitBelow_30 : decode cX2_anyBitBelow 30 = .ok (.ireturn, 1) := by decide +kernel
theorem dX2_anyBitBelow_31 : decode cX2_anyBitBelow 31 = .ok (.iinc 3 1, 3) := by decide +kernel
theorem dX2_anyBitBelow_34 : decode cX2_anyBitBelow 34 = .ok (.goto (-27), 3) := by decide +kernel
theorem dX2_anyBitBelow_37 : decode cX2_anyBitBelow 37 = .ok (.aload_n 0, 1) := by decide +kernel
theorem dX2_anyBitBelow_38 : decode cX2_anyBitBelow 38 = .ok (.iload_n 2, 1) := by decide +kernel
theorem dX2_anyBitBelow_39 : decode cX2_anyBitBelow 39 = .ok (.invokevirtual 23, 3) := by decide +kernel
theorem dX2_anyBitBelow_42 : decode cX2_anyBitBelow 42 = .ok (.iconst 1, 1) := by decide +kernel
theorem dX2_anyBitBelow_43 : decode cX2_anyBitBelow 43 = .ok (.iload_n 1, 1) := by decide +kernel
theorem dX2_anyBitBelow_44 : decode cX2_anyBitBelow 44 = .ok (.bipush 30, 2) := by decide +kernel
theorem dX2_anyBitBelow_46 : decode cX2_anyBitBelow 46 = .ok (.irem, 1) := by decide +kernel
theorem dX2_anyBitBelow_47 : decode cX2_anyBitBelow 47 = .ok (.ishl, 1) := by decide +kernel
theorem dX2_anyBitBelow_48 : decode cX2_anyBitBelow 48 = .ok (.iconst 1, 1) := by decide +kernel
theorem dX2_anyBitBelow_49 : decode cX2_anyBitBelow 49 = .ok (.isub, 1) := by decide +kernel
theorem dX2_anyBitBelow_50 : decode cX2_anyBitBelow 50 = .ok (.iand, 1) := by decide +kernel
theorem dX2_anyBitBelow_51 : decode cX2_anyBitBelow 51 = .ok (.ifCond .eq 7, 3) := by decide +kernel
theorem dX2_anyBitBelow_54 : decode cX2_anyBitBelow 54 = .ok (.iconst 1, 1) := by decide +kernel
theorem dX2_anyBitBelow_55 : decode cX2_anyBitBelow 55 = .ok (.goto 4, 3) := by decide +kernel
theorem dX2_anyBitBelow_58 : decode cX2_anyBitBelow 58 = .ok (.iconst 0, 1) := by decide +kernel
theorem dX2_anyBitBelow_59 : decode cX2_anyBitBelow 59 = .ok (.ireturn, 1) := by decide +kernel
set_option maxRecDepth 20000 in
theorem ggX2_lowestLong_X2_limb : GoodIn wsX2_lowestLong wsX2_limb := goodIn_r _ [5, 6, 7, 8, 9] (by decide +kernel) (by decide +kernel)
set_option maxRecDepth 20000 in
theorem gX2_lowestLong_X2_limb : GoodIn wsX2_lowestLong (wsV RX2 23 RX2 yX2_limb wsX2_limb) := goodIn_app (goodIn_of _ (by decide +kernel)) ggX2_lowestLong_X2_limb
theorem dX2_lowestLong_0 : decode cX2_lowestLong 0 = .ok (.aload_n 0, 1) := by decide +kernel
theorem dX2_lowestLong_1 : decode cX2_lowestLong 1 = .ok (.iconst 0, 1) := by decide +kernel
theorem dX2_lowestLong_2 : decode cX2_lowestLong 2 = .ok (.invokevirtual 23, 3) := by decide +kernel
theorem dX2_lowestLong_5 : decode cX2_lowestLong 5 = .ok (.i2l, 1) := by decide +kernel
theorem dX2_lowestLong_6 : decode cX2_lowestLong 6 = .ok (.aload_n 0, 1) := by decide +kernel
theorem dX2_lowestLong_7 : decode cX2_lowestLong 7 = .ok (.iconst 1, 1) := by decide +kernel
theorem dX2_lowestLong_8 : decode cX2_lowestLong 8 = .ok (.invokevirtual 23, 3) := by decide +kernel
theorem dX2_lowestLong_11 : decode cX2_lowestLong 11 = .ok (.i2l, 1) := by decide +kernel
theorem dX2_lowestLong_12 : decode cX2_lowestLong 12 = .ok (.bipush 30, 2) := by decide +kernel
theorem dX2_lowestLong_14 : decode cX2_lowestLong 14 = .ok (.lshl, 1) := by decide +kernel
theorem dX2_lowestLong_15 : decode cX2_lowestLong 15 = .ok (.lor, 1) := by decide +kernel
theorem dX2_lowestLong_16 : decode cX2_lowestLong 16 = .ok (.aload_n 0, 1) := by decide +kernel
theorem dX2_lowestLong_17 : decode cX2_lowestLong 17 = .ok (.iconst 2, 1) := by decide +kernel
theorem dX2_lowestLong_18 : decode cX2_lowestLong 18 = .ok (.invokevirtual 23, 3) := by decide +kernel
theorem dX2_lowestLong_21 : decode cX2_lowestLong 21 = .ok (.i2l, 1) := by decide +kernel
theorem dX2_lowestLong_22 : decode cX2_lowestLong 22 = .ok (.bipush 60, 2) := by decide +kernel
theorem dX2_lowestLong_24 : decode cX2_lowestLong 24 = .ok (.lshl, 1) := by decide +kernel
theorem dX2_lowestLong_25 : decode cX2_lowestLong 25 = .ok (.lor, 1) := by decide +kernel
theorem dX2_lowestLong_26 : decode cX2_lowestLong 26 = .ok (.lreturn, 1) := by decide +kernel
theorem dX2_order_0 : decode cX2_order 0 = .ok (.aload_n 0, 1) := by decide +kernel
theorem dX2_order_1 : decode cX2_order 1 = .ok (.getfield 15, 3) := by decide +kernel
theorem dX2_order_4 : decode cX2_order 4 = .ok (.aload_n 1, 1) := by decide +kernel
theorem dX2_order_5 : decode cX2_order 5 = .ok (.getfield 15, 3) := by decide +kernel
theorem dX2_order_8 : decode cX2_order 8 = .ok (.if_icmp .eq 20, 3) := by decide +kernel
theorem dX2_order_11 : decode cX2_order 11 = .ok (.aload_n 0, 1) := by decide +kernel
theorem dX2_order_12 : decode cX2_order 12 = .ok (.getfield 15, 3) := by decide +kernel
theorem dX2_order_15 : decode cX2_order 15 = .ok (.aload_n 1, 1) := by decide +kernel
theorem dX2_order_16 : decode cX2_order 16 = .ok (.getfield 15, 3) := by decide +kernel
theorem dX2_order_19 : decode cX2_order 19 = .ok (.if_icmp .ge 7, 3) := by decide +kernel
theorem dX2_order_22 : decode cX2_order 22 = .ok (.iconst (-1), 1) := by decide +kernel
theorem dX2_order_23 : decode cX2_order 23 = .ok (.goto 4, 3) := by decide +kernel
theorem dX2_order_26 : decode cX2_order 26 = .ok (.iconst 1, 1) := by decide +kernel
theorem dX2_order_27 : decode cX2_order 27 = .ok (.ireturn, 1) := by decide +kernel
theorem dX2_order_28 : decode cX2_order 28 = .ok (.aload_n 0, 1) := by decide +kernel
theorem dX2_order_29 : decode cX2_order 29 = .ok (.getfield 15, 3) := by decide +kernel
theorem dX2_order_32 : decode cX2_order 32 = .ok (.iconst 1, 1) := by decide +kernel
theorem dX2_order_33 : decode cX2_order 33 = .ok (.isub, 1) := by decide +kernel
theorem dX2_order_34 : decode cX2_order 34 = .ok (.istore_n 2, 1) := by decide +kernel
theorem dX2_order_35 : decode cX2_order 35 = .ok (.iload_n 2, 1) := by decide +kernel
theorem dX2_order_36 : decode cX2_order 36 = .ok (.ifCond .lt 45, 3) := by decide +kernel
theorem dX2_order_39 : decode cX2_order 39 = .ok (.aload_n 0, 1) := by decide +kernel
theorem dX2_order_40 : decode cX2_order 40 = .ok (.getfield 9, 3) := by decide +kernel
theorem dX2_order_43 : decode cX2_order 43 = .ok (.iload_n 2, 1) := by decide +kernel
theorem dX2_order_44 : decode cX2_order 44 = .ok (.iaload, 1) := by decide +kernel
theorem dX2_order_45 : decode cX2_order 45 = .ok (.aload_n 1, 1) := by decide +kernel
theorem dX2_order_46 : decode cX2_order 46 = .ok (.getfield 9, 3) := by decide +kernel
theorem dX2_order_49 : decode cX2_order 49 = .ok (.iload_n 2, 1) := by decide +kernel
theorem dX2_order_50 : decode cX2_order 50 = .ok (.iaload, 1) := by decide +kernel
theorem dX2_order_51 : decode cX2_order 51 = .ok (.if_icmp .eq 24, 3) := by decide +kernel
theorem dX2_order_54 : decode cX2_order 54 = .ok (.aload_n 0, 1) := by decide +kernel
theorem dX2_order_55 : decode cX2_order 55 = .ok (.getfield 9, 3) := by decide +kernel
theorem dX2_order_58 : decode cX2_order 58 = .ok (.iload_n 2, 1) := by decide +kernel
theorem dX2_order_59 : decode cX2_order 59 = .ok (.iaload, 1) := by decide +kernel
theorem dX2_order_60 : decode cX2_order 60 = .ok (.aload_n 1, 1) := by decide +kernel
theorem dX2_order_61 : decode cX2_order 61 = .ok (.getfield 9, 3) := by decide +kernel
theorem dX2_order_64 : decode cX2_order 64 = .ok (.iload_n 2, 1) := by decide +kernel
theorem dX2_order_65 : decode cX2_order 65 = .ok (.iaload, 1) := by decide +kernel
theorem dX2_order_66 : decode cX2_order 66 = .ok (.if_icmp .ge 7, 3) := by decide +kernel
theorem dX2_order_69 : decode cX2_order 69 = .ok (.iconst (-1), 1) := by decide +kernel
theorem dX2_order_70 : decode cX2_order 70 = .ok (.goto 4, 3) := by decide +kernel
theorem dX2_order_73 : decode cX2_order 73 = .ok (.iconst 1, 1) := by decide +kernel
theorem dX2_order_74 : decode cX2_order 74 = .ok (.ireturn, 1) := by decide +kernel
theorem dX2_order_75 : decode cX2_order 75 = .ok (.iinc 2 (-1), 3) := by decide +kernel
theorem dX2_order_78 : decode cX2_order 78 = .ok (.goto (-43), 3) := by decide +kernel
theorem dX2_order_81 : decode cX2_order 81 = .ok (.iconst 0, 1) := by decide +kernel
theorem dX2_order_82 : decode cX2_order 82 = .ok (.ireturn, 1) := by decide +kernel
theorem dX2_take_0 : decode cX2_take 0 = .ok (.aload_n 1, 1) := by decide +kernel
theorem dX2_take_1 : decode cX2_take 1 = .ok (.getfield 9, 3) := by decide +kernel
theorem dX2_take_4 : decode cX2_take 4 = .ok (.iconst 0, 1) := by decide +kernel
theorem dX2_take_5 : decode cX2_take 5 = .ok (.aload_n 0, 1) := by decide +kernel
theorem dX2_take_6 : decode cX2_take 6 = .ok (.getfield 9, 3) := by decide +kernel
theorem dX2_take_9 : decode cX2_take 9 = .ok (.iconst 0, 1) := by decide +kernel
theorem dX2_take_10 : decode cX2_take 10 = .ok (.aload_n 1, 1) := by decide +kernel
theorem dX2_take_11 : decode cX2_take 11 = .ok (.getfield 15, 3) := by decide +kernel
theorem dX2_take_14 : decode cX2_take 14 = .ok (.invokestatic 33, 3) := by decide +kernel
theorem dX2_take_17 : decode cX2_take 17 = .ok (.aload_n 0, 1) := by decide +kernel
theorem dX2_take_18 : decode cX2_take 18 = .ok (.aload_n 1, 1) := by decide +kernel
theorem dX2_take_19 : decode cX2_take 19 = .ok (.getfield 15, 3) := by decide +kernel
theorem dX2_take_22 : decode cX2_take 22 = .ok (.putfield 15, 3) := by decide +kernel
theorem dX2_take_25 : decode cX2_take 25 = .ok (.return_, 1) := by decide +kernel
set_option maxRecDepth 20000 in
theorem ggX2_takeUnsigned_X2_trim : GoodIn wsX2_takeUnsigned wsX2_trim := goodIn_r _ [7, 8, 9, 10, 11, 1, 12, 13, 14, 15, 16, 17] (by decide +kernel) (by decide +kernel)
set_option maxRecDepth 20000 in
theorem gX2_takeUnsigned_X2_trim : GoodIn wsX2_takeUnsigned (wsV RX2 39 RX2 yX2_trim wsX2_trim) := goodIn_app (goodIn_of _ (by decide +kernel)) ggX2_takeUnsigned_X2_trim
theorem dX2_takeUnsigned_0 : decode cX2_takeUnsigned 0 = .ok (.aload_n 0, 1) := by decide +kernel
theorem dX2_takeUnsigned_1 : decode cX2_takeUnsigned 1 = .ok (.getfield 9, 3) := by decide +kernel
theorem dX2_takeUnsigned_4 : decode cX2_takeUnsigned 4 = .ok (.iconst 0, 1) := by decide +kernel
theorem dX2_takeUnsigned_5 : decode cX2_takeUnsigned 5 = .ok (.lload_n 1, 1) := by decide +kernel
theorem dX2_takeUnsigned_6 : decode cX2_takeUnsigned 6 = .ok (.l2i, 1) := by decide +kernel
theorem dX2_takeUnsigned_7 : decode cX2_takeUnsigned 7 = .ok (.ldc 32, 2) := by decide +kernel
theorem dX2_takeUnsigned_9 : decode cX2_takeUnsigned 9 = .ok (.iand, 1) := by decide +kernel
theorem dX2_takeUnsigned_10 : decode cX2_takeUnsigned 10 = .ok (.iastore, 1) := by decide +kernel
theorem dX2_takeUnsigned_11 : decode cX2_takeUnsigned 11 = .ok (.aload_n 0, 1) := by decide +kernel
theorem dX2_takeUnsigned_12 : decode cX2_takeUnsigned 12 = .ok (.getfield 9, 3) := by decide +kernel
theorem dX2_takeUnsigned_15 : decode cX2_takeUnsigned 15 = .ok (.iconst 1, 1) := by decide +kernel
theorem dX2_takeUnsigned_16 : decode cX2_takeUnsigned 16 = .ok (.lload_n 1, 1) := by decide +kernel
theorem dX2_takeUnsigned_17 : decode cX2_takeUnsigned 17 = .ok (.bipush 30, 2) := by decide +kernel
theorem dX2_takeUnsigned_19 : decode cX2_takeUnsigned 19 = .ok (.lushr, 1) := by decide +kernel
theorem dX2_takeUnsigned_20 : decode cX2_takeUnsigned 20 = .ok (.l2i, 1) := by decide +kernel
theorem dX2_takeUnsigned_21 : decode cX2_takeUnsigned 21 = .ok (.ldc 32, 2) := by decide +kernel
theorem dX2_takeUnsigned_23 : decode cX2_takeUnsigned 23 = .ok (.iand, 1) := by decide +kernel
theorem dX2_takeUnsigned_24 : decode cX2_takeUnsigned 24 = .ok (.iastore, 1) := by decide +kernel
theorem dX2_takeUnsigned_25 : decode cX2_takeUnsigned 25 = .ok (.aload_n 0, 1) := by decide +kernel
theorem dX2_takeUnsigned_26 : decode cX2_takeUnsigned 26 = .ok (.getfield 9, 3) := by decide +kernel
theorem dX2_takeUnsigned_29 : decode cX2_takeUnsigned 29 = .ok (.iconst 2, 1) := by decide +kernel
theorem dX2_takeUnsigned_30 : decode cX2_takeUnsigned 30 = .ok (.lload_n 1, 1) := by decide +kernel
theorem dX2_takeUnsigned_31 : decode cX2_takeUnsigned 31 = .ok (.bipush 60, 2) := by decide +kernel
theorem dX2_takeUnsigned_33 : decode cX2_takeUnsigned 33 = .ok (.lushr, 1) := by decide +kernel
theorem dX2_takeUnsigned_34 : decode cX2_takeUnsigned 34 = .ok (.l2i, 1) := by decide +kernel
theorem dX2_takeUnsigned_35 : decode cX2_takeUnsigned 35 = .ok (.iastore, 1) := by decide +kernel
theorem dX2_takeUnsigned_36 : decode cX2_takeUnsigned 36 = .ok (.aload_n 0, 1) := by decide +kernel
theorem dX2_takeUnsigned_37 : decode cX2_takeUnsigned 37 = .ok (.iconst 3, 1) := by decide +kernel
theorem dX2_takeUnsigned_38 : decode cX2_takeUnsigned 38 = .ok (.invokevirtual 39, 3) := by decide +kernel
theorem dX2_takeUnsigned_41 : decode cX2_takeUnsigned 41 = .ok (.return_, 1) := by decide +kernel
theorem dX2_trim_0 : decode cX2_trim 0 = .ok (.iload_n 1, 1) := by decide +kernel
theorem dX2_trim_1 : decode cX2_trim 1 = .ok (.sipush 140, 3) := by decide +kernel
theorem dX2_trim_4 : decode cX2_trim 4 = .ok (.invokestatic 43, 3) := by decide +kernel
theorem dX2_trim_7 : decode cX2_trim 7 = .ok (.istore_n 2, 1) := by decide +kernel
theorem dX2_trim_8 : decode cX2_trim 8 = .ok (.iload_n 2, 1) := by decide +kernel
theorem dX2_trim_9 : decode cX2_trim 9 = .ok (.ifCond .le 20, 3) := by decide +kernel
theorem dX2_trim_12 : decode cX2_trim 12 = .ok (.aload_n 0, 1) := by decide +kernel
theorem dX2_trim_13 : decode cX2_trim 13 = .ok (.getfield 9, 3) := by decide +kernel
theorem dX2_trim_16 : decode cX2_trim 16 = .ok (.iload_n 2, 1) := by decide +kernel
theorem dX2_trim_17 : decode cX2_trim 17 = .ok (.iconst 1, 1) := by decide +kernel
theorem dX2_trim_18 : decode cX2_trim 18 = .ok (.isub, 1) := by decide +kernel
theorem dX2_trim_19 : decode cX2_trim 19 = .ok (.iaload, 1) := by decide +kernel
theorem dX2_trim_20 : decode cX2_trim 20 = .ok (.ifCond .ne 9, 3) := by decide +kernel
theorem dX2_trim_23 : decode cX2_trim 23 = .ok (.iinc 2 (-1), 3) := by decide +kernel
theorem dX2_trim_26 : decode cX2_trim 26 = .ok (.goto (-18), 3) := by decide +kernel
theorem dX2_trim_29 : decode cX2_trim 29 = .ok (.aload_n 0, 1) := by decide +kernel
theorem dX2_trim_30 : decode cX2_trim 30 = .ok (.iload_n 2, 1) := by decide +kernel
theorem dX2_trim_31 : decode cX2_trim 31 = .ok (.iconst 0, 1) := by decide +kernel
theorem dX2_trim_32 : decode cX2_trim 32 = .ok (.invokestatic 49, 3) := by decide +kernel
theorem dX2_trim_35 : decode cX2_trim 35 = .ok (.putfield 15, 3) := by decide +kernel
theorem dX2_trim_38 : decode cX2_trim 38 = .ok (.return_, 1) := by decide +kernel
set_option maxRecDepth 20000 in
theorem ggX2_takeSum_X2_limb : GoodIn wsX2_takeSum wsX2_limb := goodIn_r _ [15, 1, 9, 20, 21] (by decide +kernel) (by decide +kernel)
set_option maxRecDepth 20000 in
theorem gX2_takeSum_X2_limb : GoodIn wsX2_takeSum (wsV RX2 23 RX2 yX2_limb wsX2_limb) := goodIn_app (goodIn_of _ (by decide +kernel)) ggX2_takeSum_X2_limb
set_option maxRecDepth 20000 in
theorem ggX2_takeSum_X2_trim : GoodIn wsX2_takeSum wsX2_trim := goodIn_r _ [19, 6, 7, 4, 8, 9, 2, 3, 5, 1, 20, 21] (by decide +kernel) (by decide +kernel)
set_option maxRecDepth 20000 in
theorem gX2_takeSum_X2_trim : GoodIn wsX2_takeSum (wsV RX2 39 RX2 yX2_trim wsX2_trim) := goodIn_app (goodIn_of _ (by decide +kernel)) ggX2_takeSum_X2_trim
theorem dX2_takeSum_0 : decode cX2_takeSum 0 = .ok (.aload_n 1, 1) := by decide +kernel
theorem dX2_takeSum_1 : decode cX2_takeSum 1 = .ok (.getfield 15, 3) := by decide +kernel
theorem dX2_takeSum_4 : decode cX2_takeSum 4 = .ok (.aload_n 2, 1) := by decide +kernel
theorem dX2_takeSum_5 : decode cX2_takeSum 5 = .ok (.getfield 15, 3) := by decide +kernel
theorem dX2_takeSum_8 : decode cX2_takeSum 8 = .ok (.invokestatic 49, 3) := by decide +kernel
theorem dX2_takeSum_11 : decode cX2_takeSum 11 = .ok (.iconst 1, 1) := by decide +kernel
theorem dX2_takeSum_12 : decode cX2_takeSum 12 = .ok (.iadd, 1) := by decide +kernel
theorem dX2_takeSum_13 : decode cX2_takeSum 13 = .ok (.sipush 140, 3) := by decide +kernel
theorem dX2_takeSum_16 : decode cX2_takeSum 16 = .ok (.invokestatic 43, 3) := by decide +kernel
theorem dX2_takeSum_19 : decode cX2_takeSum 19 = .ok (.istore_n 3, 1) := by decide +kernel
theorem dX2_takeSum_20 : decode cX2_takeSum 20 = .ok (.iconst 0, 1) := by decide +kernel
theorem dX2_takeSum_21 : decode cX2_takeSum 21 = .ok (.istore 4, 2) := by decide +kernel
theorem dX2_takeSum_23 : decode cX2_takeSum 23 = .ok (.iconst 0, 1) := by decide +kernel
theorem dX2_takeSum_24 : decode cX2_takeSum 24 = .ok (.istore 5, 2) := by decide +kernel
theorem dX2_takeSum_26 : decode cX2_takeSum 26 = .ok (.iload 5, 2) := by decide +kernel
theorem dX2_takeSum_28 : decode cX2_takeSum 28 = .ok (.iload_n 3, 1) := by decide +kernel
theorem dX2_takeSum_29 : decode cX2_takeSum 29 = .ok (.if_icmp .ge 46, 3) := by decide +kernel
theorem dX2_takeSum_32 : decode cX2_takeSum 32 = .ok (.aload_n 1, 1) := by decide +kernel
theorem dX2_takeSum_33 : decode cX2_takeSum 33 = .ok (.iload 5, 2) := by decide +kernel
theorem dX2_takeSum_35 : decode cX2_takeSum 35 = .ok (.invokevirtual 23, 3) := by decide +kernel
theorem dX2_takeSum_38 : decode cX2_takeSum 38 = .ok (.aload_n 2, 1) := by decide +kernel
theorem dX2_takeSum_39 : decode cX2_takeSum 39 = .ok (.iload 5, 2) := by decide +kernel
theorem dX2_takeSum_41 : decode cX2_takeSum 41 = .ok (.invokevirtual 23, 3) := by decide +kernel
theorem dX2_takeSum_44 : decode cX2_takeSum 44 = .ok (.iadd, 1) := by decide +kernel
theorem dX2_takeSum_45 : decode cX2_takeSum 45 = .ok (.iload 4, 2) := by decide +kernel
theorem dX2_takeSum_47 : decode cX2_takeSum 47 = .ok (.iadd, 1) := by decide +kernel
theorem dX2_takeSum_48 : decode cX2_takeSum 48 = .ok (.istore 6, 2) := by decide +kernel
theorem dX2_takeSum_50 : decode cX2_takeSum 50 = .ok (.aload_n 0, 1) := by decide +kernel
theorem dX2_takeSum_51 : decode cX2_takeSum 51 = .ok (.getfield 9, 3) := by decide +kernel
theorem dX2_takeSum_54 : decode cX2_takeSum 54 = .ok (.iload 5, 2) := by decide +kernel
theorem dX2_takeSum_56 : decode cX2_takeSum 56 = .ok (.iload 6, 2) := by decide +kernel
theorem dX2_takeSum_58 : decode cX2_takeSum 58 = .ok (.ldc 32, 2) := by decide +kernel
theorem dX2_takeSum_60 : decode cX2_takeSum 60 = .ok (.iand, 1) := by decide +kernel
theorem dX2_takeSum_61 : decode cX2_takeSum 61 = .ok (.iastore, 1) := by decide +kernel
theorem dX2_takeSum_62 : decode cX2_takeSum 62 = .ok (.iload 6, 2) := by decide +kernel
theorem dX2_takeSum_64 : decode cX2_takeSum 64 = .ok (.bipush 30, 2) := by decide +kernel
theorem dX2_takeSum_66 : decode cX2_takeSum 66 = .ok (.iushr, 1) := by decide +kernel
theorem dX2_takeSum_67 : decode cX2_takeSum 67 = .ok (.istore 4, 2) := by decide +kernel
theorem dX2_takeSum_69 : decode cX2_takeSum 69 = .ok (.iinc 5 1, 3) := by decide +kernel
theorem dX2_takeSum_72 : decode cX2_takeSum 72 = .ok (.goto (-46), 3) := by decide +kernel
theorem dX2_takeSum_75 : decode cX2_takeSum 75 = .ok (.aload_n 0, 1) := by decide +kernel
theorem dX2_takeSum_76 : decode cX2_takeSum 76 = .ok (.iload_n 3, 1) := by decide +kernel
theorem dX2_takeSum_77 : decode cX2_takeSum 77 = .ok (.invokevirtual 39, 3) := by decide +kernel
theorem dX2_takeSum_80 : decode cX2_takeSum 80 = .ok (.return_, 1) := by decide +kernel
set_option maxRecDepth 20000 in
theorem ggX2_takeDifference_X2_limb : GoodIn wsX2_takeDifference wsX2_limb := goodIn_r _ [8, 1, 2, 20, 21] (by decide +kernel) (by decide +kernel)
set_option maxRecDepth 20000 in
theorem gX2_takeDifference_X2_limb : GoodIn wsX2_takeDifference (wsV RX2 23 RX2 yX2_limb wsX2_limb) := goodIn_app (goodIn_of _ (by decide +kernel)) ggX2_takeDifference_X2_limb
set_option maxRecDepth 20000 in
theorem ggX2_takeDifference_X2_trim : GoodIn wsX2_takeDifference wsX2_trim := goodIn_r _ [12, 13, 14, 15, 16, 2, 17, 18, 19, 1, 20, 21] (by decide +kernel) (by decide +kernel)
set_option maxRecDepth 20000 in
theorem gX2_takeDifference_X2_trim : GoodIn wsX2_takeDifference (wsV RX2 39 RX2 yX2_trim wsX2_trim) := goodIn_app (goodIn_of _ (by decide +kernel)) ggX2_takeDifference_X2_trim
theorem dX2_takeDifference_0 : decode cX2_takeDifference 0 = .ok (.aload_n 1, 1) := by decide +kernel
theorem dX2_takeDifference_1 : decode cX2_takeDifference 1 = .ok (.getfield 15, 3) := by decide +kernel
theorem dX2_takeDifference_4 : decode cX2_takeDifference 4 = .ok (.istore_n 3, 1) := by decide +kernel
theorem dX2_takeDifference_5 : decode cX2_takeDifference 5 = .ok (.iconst 0, 1) := by decide +kernel
theorem dX2_takeDifference_6 : decode cX2_takeDifference 6 = .ok (.istore 4, 2) := by decide +kernel
theorem dX2_takeDifference_8 : decode cX2_takeDifference 8 = .ok (.iconst 0, 1) := by decide +kernel
theorem dX2_takeDifference_9 : decode cX2_takeDifference 9 = .ok (.istore 5, 2) := by decide +kernel
theorem dX2_takeDifference_11 : decode cX2_takeDifference 11 = .ok (.iload 5, 2) := by decide +kernel
theorem dX2_takeDifference_13 : decode cX2_takeDifference 13 = .ok (.iload_n 3, 1) := by decide +kernel
theorem dX2_takeDifference_14 : decode cX2_takeDifference 14 = .ok (.if_icmp .ge 46, 3) := by decide +kernel
theorem dX2_takeDifference_17 : decode cX2_takeDifference 17 = .ok (.aload_n 1, 1) := by decide +kernel
theorem dX2_takeDifference_18 : decode cX2_takeDifference 18 = .ok (.iload 5, 2) := by decide +kernel
theorem dX2_takeDifference_20 : decode cX2_takeDifference 20 = .ok (.invokevirtual 23, 3) := by decide +kernel
theorem dX2_takeDifference_23 : decode cX2_takeDifference 23 = .ok (.aload_n 2, 1) := by decide +kernel
theorem dX2_takeDifference_24 : decode cX2_takeDifference 24 = .ok (.iload 5, 2) := by decide +kernel
theorem dX2_takeDifference_26 : decode cX2_takeDifference 26 = .ok (.invokevirtual 23, 3) := by decide +kernel
theorem dX2_takeDifference_29 : decode cX2_takeDifference 29 = .ok (.isub, 1) := by decide +kernel
theorem dX2_takeDifference_30 : decode cX2_takeDifference 30 = .ok (.iload 4, 2) := by decide +kernel
theorem dX2_takeDifference_32 : decode cX2_takeDifference 32 = .ok (.iadd, 1) := by decide +kernel
theorem dX2_takeDifference_33 : decode cX2_takeDifference 33 = .ok (.istore 6, 2) := by decide +kernel
theorem dX2_takeDifference_35 : decode cX2_takeDifference 35 = .ok (.aload_n 0, 1) := by decide +kernel
theorem dX2_takeDifference_36 : decode cX2_takeDifference 36 = .ok (.getfield 9, 3) := by decide +kernel
theorem dX2_takeDifference_39 : decode cX2_takeDifference 39 = .ok (.iload 5, 2) := by decide +kernel
theorem dX2_takeDifference_41 : decode cX2_takeDifference 41 = .ok (.iload 6, 2) := by decide +kernel
theorem dX2_takeDifference_43 : decode cX2_takeDifference 43 = .ok (.ldc 32, 2) := by decide +kernel
theorem dX2_takeDifference_45 : decode cX2_takeDifference 45 = .ok (.iand, 1) := by decide +kernel
theorem dX2_takeDifference_46 : decode cX2_takeDifference 46 = .ok (.iastore, 1) := by decide +kernel
theorem dX2_takeDifference_47 : decode cX2_takeDifference 47 = .ok (.iload 6, 2) := by decide +kernel
theorem dX2_takeDifference_49 : decode cX2_takeDifference 49 = .ok (.bipush 30, 2) := by decide +kernel
theorem dX2_takeDifference_51 : decode cX2_takeDifference 51 = .ok (.ishr, 1) := by decide +kernel
theorem dX2_takeDifference_52 : decode cX2_takeDifference 52 = .ok (.istore 4, 2) := by decide +kernel
theorem dX2_takeDifference_54 : decode cX2_takeDifference 54 = .ok (.iinc 5 1, 3) := by decide +kernel
theorem dX2_takeDifference_57 : decode cX2_takeDifference 57 = .ok (.goto (-46), 3) := by decide +kernel
theorem dX2_takeDifference_60 : decode cX2_takeDifference 60 = .ok (.aload_n 0, 1) := by decide +kernel
theorem dX2_takeDifference_61 : decode cX2_takeDifference 61 = .ok (.iload_n 3, 1) := by decide +kernel
theorem dX2_takeDifference_62 : decode cX2_takeDifference 62 = .ok (.invokevirtual 39, 3) := by decide +kernel
theorem dX2_takeDifference_65 : decode cX2_takeDifference 65 = .ok (.return_, 1) := by decide +kernel
set_option maxRecDepth 20000 in
theorem ggX2_takeProduct_X2_addRow : GoodIn wsX2_takeProduct wsX2_addRow := goodIn_r _ [11, 1, 6, 12, 20, 21] (by decide +kernel) (by decide +kernel)
set_option maxRecDepth 20000 in
theorem gX2_takeProduct_X2_addRow : GoodIn wsX2_takeProduct (wsV RX2 52 RX2 yX2_addRow wsX2_addRow) := goodIn_app (goodIn_of _ (by decide +kernel)) ggX2_takeProduct_X2_addRow
set_option maxRecDepth 20000 in
theorem ggX2_takeProduct_X2_trim : GoodIn wsX2_takeProduct wsX2_trim := goodIn_r _ [16, 2, 3, 4, 5, 6, 17, 18, 19, 1, 20, 21] (by decide +kernel) (by decide +kernel)
set_option maxRecDepth 20000 in
theorem gX2_takeProduct_X2_trim : GoodIn wsX2_takeProduct (wsV RX2 39 RX2 yX2_trim wsX2_trim) := goodIn_app (goodIn_of _ (by decide +kernel)) ggX2_takeProduct_X2_trim
theorem dX2_takeProduct_0 : decode cX2_takeProduct 0 = .ok (.aload_n 1, 1) := by decide +kernel
theorem dX2_takeProduct_1 : decode cX2_takeProduct 1 = .ok (.getfield 15, 3) := by decide +kernel
theorem dX2_takeProduct_4 : decode cX2_takeProduct 4 = .ok (.aload_n 2, 1) := by decide +kernel
theorem dX2_takeProduct_5 : decode cX2_takeProduct 5 = .ok (.getfield 15, 3) := by decide +kernel
theorem dX2_takeProduct_8 : decode cX2_takeProduct 8 = .ok (.iadd, 1) := by decide +kernel
theorem dX2_takeProduct_9 : decode cX2_takeProduct 9 = .ok (.sipush 140, 3) := by decide +kernel
theorem dX2_takeProduct_12 : decode cX2_takeProduct 12 = .ok (.invokestatic 43, 3) := by decide +kernel
theorem dX2_takeProduct_15 : decode cX2_takeProduct 15 = .ok (.istore_n 3, 1) := by decide +kernel
theorem dX2_takeProduct_16 : decode cX2_takeProduct 16 = .ok (.iconst 0, 1) := by decide +kernel
theorem dX2_takeProduct_17 : decode cX2_takeProduct 17 = .ok (.istore 4, 2) := by decide +kernel
theorem dX2_takeProduct_19 : decode cX2_takeProduct 19 = .ok (.iload 4, 2) := by decide +kernel
theorem dX2_takeProduct_21 : decode cX2_takeProduct 21 = .ok (.iload_n 3, 1) := by decide +kernel
theorem dX2_takeProduct_22 : decode cX2_takeProduct 22 = .ok (.if_icmp .ge 17, 3) := by decide +kernel
theorem dX2_takeProduct_25 : decode cX2_takeProduct 25 = .ok (.aload_n 0, 1) := by decide +kernel
theorem dX2_takeProduct_26 : decode cX2_takeProduct 26 = .ok (.getfield 9, 3) := by decide +kernel
theorem dX2_takeProduct_29 : decode cX2_takeProduct 29 = .ok (.iload 4, 2) := by decide +kernel
theorem dX2_takeProduct_31 : decode cX2_takeProduct 31 = .ok (.iconst 0, 1) := by decide +kernel
theorem dX2_takeProduct_32 : decode cX2_takeProduct 32 = .ok (.iastore, 1) := by decide +kernel
theorem dX2_takeProduct_33 : decode cX2_takeProduct 33 = .ok (.iinc 4 1, 3) := by decide +kernel
theorem dX2_takeProduct_36 : decode cX2_takeProduct 36 = .ok (.goto (-17), 3) := by decide +kernel
theorem dX2_takeProduct_39 : decode cX2_takeProduct 39 = .ok (.iconst 0, 1) := by decide +kernel
theorem dX2_takeProduct_40 : decode cX2_takeProduct 40 = .ok (.istore 4, 2) := by decide +kernel
theorem dX2_takeProduct_42 : decode cX2_takeProduct 42 = .ok (.iload 4, 2) := by decide +kernel
theorem dX2_takeProduct_44 : decode cX2_takeProduct 44 = .ok (.aload_n 1, 1) := by decide +kernel
theorem dX2_takeProduct_45 : decode cX2_takeProduct 45 = .ok (.getfield 15, 3) := by decide +kernel
theorem dX2_takeProduct_48 : decode cX2_takeProduct 48 = .ok (.if_icmp .ge 49, 3) := by decide +kernel
theorem dX2_takeProduct_51 : decode cX2_takeProduct 51 = .ok (.iload 4, 2) := by decide +kernel
theorem dX2_takeProduct_53 : decode cX2_takeProduct 53 = .ok (.aload_n 2, 1) := by decide +kernel
theorem dX2_takeProduct_54 : decode cX2_takeProduct 54 = .ok (.getfield 15, 3) := by decide +kernel
theorem dX2_takeProduct_57 : decode cX2_takeProduct 57 = .ok (.iadd, 1) := by decide +kernel
theorem dX2_takeProduct_58 : decode cX2_takeProduct 58 = .ok (.sipush 140, 3) := by decide +kernel
theorem dX2_takeProduct_61 : decode cX2_takeProduct 61 = .ok (.if_icmp .ge 36, 3) := by decide +kernel
theorem dX2_takeProduct_64 : decode cX2_takeProduct 64 = .ok (.aload_n 0, 1) := by decide +kernel
theorem dX2_takeProduct_65 : decode cX2_takeProduct 65 = .ok (.getfield 9, 3) := by decide +kernel
theorem dX2_takeProduct_68 : decode cX2_takeProduct 68 = .ok (.iload 4, 2) := by decide +kernel
theorem dX2_takeProduct_70 : decode cX2_takeProduct 70 = .ok (.aload_n 2, 1) := by decide +kernel
theorem dX2_takeProduct_71 : decode cX2_takeProduct 71 = .ok (.getfield 15, 3) := by decide +kernel
theorem dX2_takeProduct_74 : decode cX2_takeProduct 74 = .ok (.iadd, 1) := by decide +kernel
theorem dX2_takeProduct_75 : decode cX2_takeProduct 75 = .ok (.aload_n 0, 1) := by decide +kernel
theorem dX2_takeProduct_76 : decode cX2_takeProduct 76 = .ok (.aload_n 2, 1) := by decide +kernel
theorem dX2_takeProduct_77 : decode cX2_takeProduct 77 = .ok (.aload_n 1, 1) := by decide +kernel
theorem dX2_takeProduct_78 : decode cX2_takeProduct 78 = .ok (.getfield 9, 3) := by decide +kernel
theorem dX2_takeProduct_81 : decode cX2_takeProduct 81 = .ok (.iload 4, 2) := by decide +kernel
theorem dX2_takeProduct_83 : decode cX2_takeProduct 83 = .ok (.iaload, 1) := by decide +kernel
theorem dX2_takeProduct_84 : decode cX2_takeProduct 84 = .ok (.i2l, 1) := by decide +kernel
theorem dX2_takeProduct_85 : decode cX2_takeProduct 85 = .ok (.iload 4, 2) := by decide +kernel
theorem dX2_takeProduct_87 : decode cX2_takeProduct 87 = .ok (.invokevirtual 52, 3) := by decide +kernel
theorem dX2_takeProduct_90 : decode cX2_takeProduct 90 = .ok (.iastore, 1) := by decide +kernel
theorem dX2_takeProduct_91 : decode cX2_takeProduct 91 = .ok (.iinc 4 1, 3) := by decide +kernel
theorem dX2_takeProduct_94 : decode cX2_takeProduct 94 = .ok (.goto (-52), 3) := by decide +kernel
theorem dX2_takeProduct_97 : decode cX2_takeProduct 97 = .ok (.aload_n 0, 1) := by decide +kernel
theorem dX2_takeProduct_98 : decode cX2_takeProduct 98 = .ok (.iload_n 3, 1) := by decide +kernel
theorem dX2_takeProduct_99 : decode cX2_takeProduct 99 = .ok (.invokevirtual 39, 3) := by decide +kernel
theorem dX2_takeProduct_102 : decode cX2_takeProduct 102 = .ok (.return_, 1) := by decide +kernel
theorem dX2_addRow_0 : decode cX2_addRow 0 = .ok (.lconst 0, 1) := by decide +kernel
theorem dX2_addRow_1 : decode cX2_addRow 1 = .ok (.lstore 5, 2) := by decide +kernel
theorem dX2_addRow_3 : decode cX2_addRow 3 = .ok (.iconst 0, 1) := by decide +kernel
theorem dX2_addRow_4 : decode cX2_addRow 4 = .ok (.istore 7, 2) := by decide +kernel
theorem dX2_addRow_6 : decode cX2_addRow 6 = .ok (.iload 7, 2) := by decide +kernel
theorem dX2_addRow_8 : decode cX2_addRow 8 = .ok (.aload_n 1, 1) := by decide +kernel
theorem dX2_addRow_9 : decode cX2_addRow 9 = .ok (.getfield 15, 3) := by decide +kernel
theorem dX2_addRow_12 : decode cX2_addRow 12 = .ok (.if_icmp .ge 59, 3) := by decide +kernel
theorem dX2_addRow_15 : decode cX2_addRow 15 = .ok (.lload_n 2, 1) := by decide +kernel
theorem dX2_addRow_16 : decode cX2_addRow 16 = .ok (.aload_n 1, 1) := by decide +kernel
theorem dX2_addRow_17 : decode cX2_addRow 17 = .ok (.getfield 9, 3) := by decide +kernel
theorem dX2_addRow_20 : decode cX2_addRow 20 = .ok (.iload 7, 2) := by decide +kernel
theorem dX2_addRow_22 : decode cX2_addRow 22 = .ok (.iaload, 1) := by decide +kernel
theorem dX2_addRow_23 : decode cX2_addRow 23 = .ok (.i2l, 1) := by decide +kernel
theorem dX2_addRow_24 : decode cX2_addRow 24 = .ok (.lmul, 1) := by decide +kernel
theorem dX2_addRow_25 : decode cX2_addRow 25 = .ok (.aload_n 0, 1) := by decide +kernel
theorem dX2_addRow_26 : decode cX2_addRow 26 = .ok (.getfield 9, 3) := by decide +kernel
theorem dX2_addRow_29 : decode cX2_addRow 29 = .ok (.iload 4, 2) := by decide +kernel
theorem dX2_addRow_31 : decode cX2_addRow 31 = .ok (.iload 7, 2) := by decide +kernel
theorem dX2_addRow_33 : decode cX2_addRow 33 = .ok (.iadd, 1) := by decide +kernel
theorem dX2_addRow_34 : decode cX2_addRow 34 = .ok (.iaload, 1) := by decide +kernel
theorem dX2_addRow_35 : decode cX2_addRow 35 = .ok (.i2l, 1) := by decide +kernel
theorem dX2_addRow_36 : decode cX2_addRow 36 = .ok (.ladd, 1) := by decide +kernel
theorem dX2_addRow_37 : decode cX2_addRow 37 = .ok (.lload 5, 2) := by decide +kernel
theorem dX2_addRow_39 : decode cX2_addRow 39 = .ok (.ladd, 1) := by decide +kernel
theorem dX2_addRow_40 : decode cX2_addRow 40 = .ok (.lstore 8, 2) := by decide +kernel
theorem dX2_addRow_42 : decode cX2_addRow 42 = .ok (.aload_n 0, 1) := by decide +kernel
theorem dX2_addRow_43 : decode cX2_addRow 43 = .ok (.getfield 9, 3) := by decide +kernel
theorem dX2_addRow_46 : decode cX2_addRow 46 = .ok (.iload 4, 2) := by decide +kernel
theorem dX2_addRow_48 : decode cX2_addRow 48 = .ok (.iload 7, 2) := by decide +kernel
theorem dX2_addRow_50 : decode cX2_addRow 50 = .ok (.iadd, 1) := by decide +kernel
theorem dX2_addRow_51 : decode cX2_addRow 51 = .ok (.lload 8, 2) := by decide +kernel
theorem dX2_addRow_53 : decode cX2_addRow 53 = .ok (.l2i, 1) := by decide +kernel
theorem dX2_addRow_54 : decode cX2_addRow 54 = .ok (.ldc 32, 2) := by decide +kernel
theorem dX2_addRow_56 : decode cX2_addRow 56 = .ok (.iand, 1) := by decide +kernel
theorem dX2_addRow_57 : decode cX2_addRow 57 = .ok (.iastore, 1) := by decide +kernel
theorem dX2_addRow_58 : decode cX2_addRow 58 = .ok (.lload 8, 2) := by decide +kernel
theorem dX2_addRow_60 : decode cX2_addRow 60 = .ok (.bipush 30, 2) := by decide +kernel
theorem dX2_addRow_62 : decode cX2_addRow 62 = .ok (.lushr, 1) := by decide +kernel
theorem dX2_addRow_63 : decode cX2_addRow 63 = .ok (.lstore 5, 2) := by decide +kernel
theorem dX2_addRow_65 : decode cX2_addRow 65 = .ok (.iinc 7 1, 3) := by decide +kernel
theorem dX2_addRow_68 : decode cX2_addRow 68 = .ok (.goto (-62), 3) := by decide +kernel
theorem dX2_addRow_71 : decode cX2_addRow 71 = .ok (.lload 5, 2) := by decide +kernel
theorem dX2_addRow_73 : decode cX2_addRow 73 = .ok (.l2i, 1) := by decide +kernel
theorem dX2_addRow_74 : decode cX2_addRow 74 = .ok (.ireturn, 1) := by decide +kernel
set_option maxRecDepth 20000 in
theorem ggX2_shiftUp_X2_limb : GoodIn wsX2_shiftUp wsX2_limb := goodIn_r _ [12, 1, 6, 20, 21] (by decide +kernel) (by decide +kernel)
set_option maxRecDepth 20000 in
theorem gX2_shiftUp_X2_limb : GoodIn wsX2_shiftUp (wsV RX2 23 RX2 yX2_limb wsX2_limb) := goodIn_app (goodIn_of _ (by decide +kernel)) ggX2_shiftUp_X2_limb
set_option maxRecDepth 20000 in
theorem ggX2_shiftUp_X2_trim : GoodIn wsX2_shiftUp wsX2_trim := goodIn_r _ [16, 2, 3, 4, 5, 6, 17, 18, 19, 1, 20, 21] (by decide +kernel) (by decide +kernel)
set_option maxRecDepth 20000 in
theorem gX2_shiftUp_X2_trim : GoodIn wsX2_shiftUp (wsV RX2 39 RX2 yX2_trim wsX2_trim) := goodIn_app (goodIn_of _ (by decide +kernel)) ggX2_shiftUp_X2_trim
theorem dX2_shiftUp_0 : decode cX2_shiftUp 0 = .ok (.iload_n 2, 1) := by decide +kernel
theorem dX2_shiftUp_1 : decode cX2_shiftUp 1 = .ok (.bipush 30, 2) := by decide +kernel
theorem dX2_shiftUp_3 : decode cX2_shiftUp 3 = .ok (.idiv, 1) := by decide +kernel
theorem dX2_shiftUp_4 : decode cX2_shiftUp 4 = .ok (.istore_n 3, 1) := by decide +kernel
theorem dX2_shiftUp_5 : decode cX2_shiftUp 5 = .ok (.iload_n 2, 1) := by decide +kernel
theorem dX2_shiftUp_6 : decode cX2_shiftUp 6 = .ok (.bipush 30, 2) := by decide +kernel
theorem dX2_shiftUp_8 : decode cX2_shiftUp 8 = .ok (.irem, 1) := by decide +kernel
theorem dX2_shiftUp_9 : decode cX2_shiftUp 9 = .ok (.istore 4, 2) := by decide +kernel
theorem dX2_shiftUp_11 : decode cX2_shiftUp 11 = .ok (.aload_n 1, 1) := by decide +kernel
theorem dX2_shiftUp_12 : decode cX2_shiftUp 12 = .ok (.getfield 15, 3) := by decide +kernel
theorem dX2_shiftUp_15 : decode cX2_shiftUp 15 = .ok (.iload_n 3, 1) := by decide +kernel
theorem dX2_shiftUp_16 : decode cX2_shiftUp 16 = .ok (.iadd, 1) := by decide +kernel
theorem dX2_shiftUp_17 : decode cX2_shiftUp 17 = .ok (.iconst 1, 1) := by decide +kernel
theorem dX2_shiftUp_18 : decode cX2_shiftUp 18 = .ok (.iadd, 1) := by decide +kernel
theorem dX2_shiftUp_19 : decode cX2_shiftUp 19 = .ok (.sipush 140, 3) := by decide +kernel
theorem dX2_shiftUp_22 : decode cX2_shiftUp 22 = .ok (.invokestatic 43, 3) := by decide +kernel
theorem dX2_shiftUp_25 : decode cX2_shiftUp 25 = .ok (.istore 5, 2) := by decide +kernel
theorem dX2_shiftUp_27 : decode cX2_shiftUp 27 = .ok (.iload 5, 2) := by decide +kernel
theorem dX2_shiftUp_29 : decode cX2_shiftUp 29 = .ok (.iconst 1, 1) := by decide +kernel
theorem dX2_shiftUp_30 : decode cX2_shiftUp 30 = .ok (.isub, 1) := by decide +kernel
theorem dX2_shiftUp_31 : decode cX2_shiftUp 31 = .ok (.istore 6, 2) := by decide +kernel
theorem dX2_shiftUp_33 : decode cX2_shiftUp 33 = .ok (.iload 6, 2) := by decide +kernel
theorem dX2_shiftUp_35 : decode cX2_shiftUp 35 = .ok (.ifCond .lt 49, 3) := by decide +kernel
theorem dX2_shiftUp_38 : decode cX2_shiftUp 38 = .ok (.iload 6, 2) := by decide +kernel
theorem dX2_shiftUp_40 : decode cX2_shiftUp 40 = .ok (.iload_n 3, 1) := by decide +kernel
theorem dX2_shiftUp_41 : decode cX2_shiftUp 41 = .ok (.isub, 1) := by decide +kernel
theorem dX2_shiftUp_42 : decode cX2_shiftUp 42 = .ok (.istore 7, 2) := by decide +kernel
theorem dX2_shiftUp_44 : decode cX2_shiftUp 44 = .ok (.aload_n 0, 1) := by decide +kernel
theorem dX2_shiftUp_45 : decode cX2_shiftUp 45 = .ok (.getfield 9, 3) := by decide +kernel
theorem dX2_shiftUp_48 : decode cX2_shiftUp 48 = .ok (.iload 6, 2) := by decide +kernel
theorem dX2_shiftUp_50 : decode cX2_shiftUp 50 = .ok (.aload_n 1, 1) := by decide +kernel
theorem dX2_shiftUp_51 : decode cX2_shiftUp 51 = .ok (.iload 7, 2) := by decide +kernel
theorem dX2_shiftUp_53 : decode cX2_shiftUp 53 = .ok (.invokevirtual 23, 3) := by decide +kernel
theorem dX2_shiftUp_56 : decode cX2_shiftUp 56 = .ok (.iload 4, 2) := by decide +kernel
theorem dX2_shiftUp_58 : decode cX2_shiftUp 58 = .ok (.ishl, 1) := by decide +kernel
theorem dX2_shiftUp_59 : decode cX2_shiftUp 59 = .ok (.aload_n 1, 1) := by decide +kernel
theorem dX2_shiftUp_60 : decode cX2_shiftUp 60 = .ok (.iload 7, 2) := by decide +kernel
theorem dX2_shiftUp_62 : decode cX2_shiftUp 62 = .ok (.iconst 1, 1) := by decide +kernel
theorem dX2_shiftUp_63 : decode cX2_shiftUp 63 = .ok (.isub, 1) := by decide +kernel
theorem dX2_shiftUp_64 : decode cX2_shiftUp 64 = .ok (.invokevirtual 23, 3) := by decide +kernel
theorem dX2_shiftUp_67 : decode cX2_shiftUp 67 = .ok (.bipush 30, 2) := by decide +kernel
theorem dX2_shiftUp_69 : decode cX2_shiftUp 69 = .ok (.iload 4, 2) := by decide +kernel
theorem dX2_shiftUp_71 : decode cX2_shiftUp 71 = .ok (.isub, 1) := by decide +kernel
theorem dX2_shiftUp_72 : decode cX2_shiftUp 72 = .ok (.iushr, 1) := by decide +kernel
theorem dX2_shiftUp_73 : decode cX2_shiftUp 73 = .ok (.ior, 1) := by decide +kernel
theorem dX2_shiftUp_74 : decode cX2_shiftUp 74 = .ok (.ldc 32, 2) := by decide +kernel
theorem dX2_shiftUp_76 : decode cX2_shiftUp 76 = .ok (.iand, 1) := by decide +kernel
theorem dX2_shiftUp_77 : decode cX2_shiftUp 77 = .ok (.iastore, 1) := by decide +kernel
theorem dX2_shiftUp_78 : decode cX2_shiftUp 78 = .ok (.iinc 6 (-1), 3) := by decide +kernel
theorem dX2_shiftUp_81 : decode cX2_shiftUp 81 = .ok (.goto (-48), 3) := by decide +kernel
theorem dX2_shiftUp_84 : decode cX2_shiftUp 84 = .ok (.aload_n 0, 1) := by decide +kernel
theorem dX2_shiftUp_85 : decode cX2_shiftUp 85 = .ok (.iload 5, 2) := by decide +kernel
theorem dX2_shiftUp_87 : decode cX2_shiftUp 87 = .ok (.invokevirtual 39, 3) := by decide +kernel
theorem dX2_shiftUp_90 : decode cX2_shiftUp 90 = .ok (.return_, 1) := by decide +kernel
set_option maxRecDepth 20000 in
theorem ggX2_shiftDown_X2_limbFrom : GoodIn wsX2_shiftDown wsX2_limbFrom := goodIn_r _ [11, 12, 13, 14, 15, 10, 16, 1, 6, 24, 25] (by decide +kernel) (by decide +kernel)
set_option maxRecDepth 20000 in
theorem gX2_shiftDown_X2_limbFrom : GoodIn wsX2_shiftDown (wsV RX2 56 RX2 yX2_limbFrom wsX2_limbFrom) := goodIn_app (goodIn_of _ (by decide +kernel)) ggX2_shiftDown_X2_limbFrom
set_option maxRecDepth 20000 in
theorem ggX2_shiftDown_X2_trim : GoodIn wsX2_shiftDown wsX2_trim := goodIn_r _ [20, 21, 22, 4, 23, 6, 2, 3, 5, 1, 24, 25] (by decide +kernel) (by decide +kernel)
set_option maxRecDepth 20000 in
theorem gX2_shiftDown_X2_trim : GoodIn wsX2_shiftDown (wsV RX2 39 RX2 yX2_trim wsX2_trim) := goodIn_app (goodIn_of _ (by decide +kernel)) ggX2_shiftDown_X2_trim
theorem dX2_shiftDown_0 : decode cX2_shiftDown 0 = .ok (.aload_n 1, 1) := by decide +kernel
theorem dX2_shiftDown_1 : decode cX2_shiftDown 1 = .ok (.getfield 15, 3) := by decide +kernel
theorem dX2_shiftDown_4 : decode cX2_shiftDown 4 = .ok (.iload_n 2, 1) := by decide +kernel
theorem dX2_shiftDown_5 : decode cX2_shiftDown 5 = .ok (.bipush 30, 2) := by decide +kernel
theorem dX2_shiftDown_7 : decode cX2_shiftDown 7 = .ok (.idiv, 1) := by decide +kernel
theorem dX2_shiftDown_8 : decode cX2_shiftDown 8 = .ok (.isub, 1) := by decide +kernel
theorem dX2_shiftDown_9 : decode cX2_shiftDown 9 = .ok (.iconst 0, 1) := by decide +kernel
theorem dX2_shiftDown_10 : decode cX2_shiftDown 10 = .ok (.invokestatic 49, 3) := by decide +kernel
theorem dX2_shiftDown_13 : decode cX2_shiftDown 13 = .ok (.istore_n 3, 1) := by decide +kernel
theorem dX2_shiftDown_14 : decode cX2_shiftDown 14 = .ok (.iconst 0, 1) := by decide +kernel
theorem dX2_shiftDown_15 : decode cX2_shiftDown 15 = .ok (.istore 4, 2) := by decide +kernel
theorem dX2_shiftDown_17 : decode cX2_shiftDown 17 = .ok (.iload 4, 2) := by decide +kernel
theorem dX2_shiftDown_19 : decode cX2_shiftDown 19 = .ok (.iload_n 3, 1) := by decide +kernel
theorem dX2_shiftDown_20 : decode cX2_shiftDown 20 = .ok (.if_icmp .ge 27, 3) := by decide +kernel
theorem dX2_shiftDown_23 : decode cX2_shiftDown 23 = .ok (.aload_n 0, 1) := by decide +kernel
theorem dX2_shiftDown_24 : decode cX2_shiftDown 24 = .ok (.getfield 9, 3) := by decide +kernel
theorem dX2_shiftDown_27 : decode cX2_shiftDown 27 = .ok (.iload 4, 2) := by decide +kernel
theorem dX2_shiftDown_29 : decode cX2_shiftDown 29 = .ok (.aload_n 1, 1) := by decide +kernel
theorem dX2_shiftDown_30 : decode cX2_shiftDown 30 = .ok (.iload 4, 2) := by decide +kernel
theorem dX2_shiftDown_32 : decode cX2_shiftDown 32 = .ok (.bipush 30, 2) := by decide +kernel
theorem dX2_shiftDown_34 : decode cX2_shiftDown 34 = .ok (.imul, 1) := by decide +kernel
theorem dX2_shiftDown_35 : decode cX2_shiftDown 35 = .ok (.iload_n 2, 1) := by decide +kernel
theorem dX2_shiftDown_36 : decode cX2_shiftDown 36 = .ok (.iadd, 1) := by decide +kernel
theorem dX2_shiftDown_37 : decode cX2_shiftDown 37 = .ok (.invokevirtual 56, 3) := by decide +kernel
theorem dX2_shiftDown_40 : decode cX2_shiftDown 40 = .ok (.iastore, 1) := by decide +kernel
theorem dX2_shiftDown_41 : decode cX2_shiftDown 41 = .ok (.iinc 4 1, 3) := by decide +kernel
theorem dX2_shiftDown_44 : decode cX2_shiftDown 44 = .ok (.goto (-27), 3) := by decide +kernel
theorem dX2_shiftDown_47 : decode cX2_shiftDown 47 = .ok (.aload_n 0, 1) := by decide +kernel
theorem dX2_shiftDown_48 : decode cX2_shiftDown 48 = .ok (.iload_n 3, 1) := by decide +kernel
theorem dX2_shiftDown_49 : decode cX2_shiftDown 49 = .ok (.invokevirtual 39, 3) := by decide +kernel
theorem dX2_shiftDown_52 : decode cX2_shiftDown 52 = .ok (.return_, 1) := by decide +kernel
set_option maxRecDepth 20000 in
theorem ggX2_timesPlus_X2_trim : GoodIn wsX2_timesPlus wsX2_trim := goodIn_r _ [8, 9, 10, 11, 12, 2, 13, 14, 15, 1, 16, 17] (by decide +kernel) (by decide +kernel)
set_option maxRecDepth 20000 in
theorem gX2_timesPlus_X2_trim : GoodIn wsX2_timesPlus (wsV RX2 39 RX2 yX2_trim wsX2_trim) := goodIn_app (goodIn_of _ (by decide +kernel)) ggX2_timesPlus_X2_trim
theorem dX2_timesPlus_0 : decode cX2_timesPlus 0 = .ok (.iload_n 2, 1) := by decide +kernel
theorem dX2_timesPlus_1 : decode cX2_timesPlus 1 = .ok (.i2l, 1) := by decide +kernel
theorem dX2_timesPlus_2 : decode cX2_timesPlus 2 = .ok (.lstore_n 3, 1) := by decide +kernel
theorem dX2_timesPlus_3 : decode cX2_timesPlus 3 = .ok (.iconst 0, 1) := by decide +kernel
theorem dX2_timesPlus_4 : decode cX2_timesPlus 4 = .ok (.istore 5, 2) := by decide +kernel
theorem dX2_timesPlus_6 : decode cX2_timesPlus 6 = .ok (.iload 5, 2) := by decide +kernel
theorem dX2_timesPlus_8 : decode cX2_timesPlus 8 = .ok (.aload_n 0, 1) := by decide +kernel
theorem dX2_timesPlus_9 : decode cX2_timesPlus 9 = .ok (.getfield 15, 3) := by decide +kernel
theorem dX2_timesPlus_12 : decode cX2_timesPlus 12 = .ok (.if_icmp .ge 43, 3) := by decide +kernel
theorem dX2_timesPlus_15 : decode cX2_timesPlus 15 = .ok (.iload_n 1, 1) := by decide +kernel
theorem dX2_timesPlus_16 : decode cX2_timesPlus 16 = .ok (.i2l, 1) := by decide +kernel
theorem dX2_timesPlus_17 : decode cX2_timesPlus 17 = .ok (.aload_n 0, 1) := by decide +kernel
theorem dX2_timesPlus_18 : decode cX2_timesPlus 18 = .ok (.getfield 9, 3) := by decide +kernel
theorem dX2_timesPlus_21 : decode cX2_timesPlus 21 = .ok (.iload 5, 2) := by decide +kernel
theorem dX2_timesPlus_23 : decode cX2_timesPlus 23 = .ok (.iaload, 1) := by decide +kernel
theorem dX2_timesPlus_24 : decode cX2_timesPlus 24 = .ok (.i2l, 1) := by decide +kernel
theorem dX2_timesPlus_25 : decode cX2_timesPlus 25 = .ok (.lmul, 1) := by decide +kernel
theorem dX2_timesPlus_26 : decode cX2_timesPlus 26 = .ok (.lload_n 3, 1) := by decide +kernel
theorem dX2_timesPlus_27 : decode cX2_timesPlus 27 = .ok (.ladd, 1) := by decide +kernel
theorem dX2_timesPlus_28 : decode cX2_timesPlus 28 = .ok (.lstore 6, 2) := by decide +kernel
theorem dX2_timesPlus_30 : decode cX2_timesPlus 30 = .ok (.aload_n 0, 1) := by decide +kernel
theorem dX2_timesPlus_31 : decode cX2_timesPlus 31 = .ok (.getfield 9, 3) := by decide +kernel
theorem dX2_timesPlus_34 : decode cX2_timesPlus 34 = .ok (.iload 5, 2) := by decide +kernel
theorem dX2_timesPlus_36 : decode cX2_timesPlus 36 = .ok (.lload 6, 2) := by decide +kernel
theorem dX2_timesPlus_38 : decode cX2_timesPlus 38 = .ok (.l2i, 1) := by decide +kernel
theorem dX2_timesPlus_39 : decode cX2_timesPlus 39 = .ok (.ldc 32, 2) := by decide +kernel
theorem dX2_timesPlus_41 : decode cX2_timesPlus 41 = .ok (.iand, 1) := by decide +kernel
theorem dX2_timesPlus_42 : decode cX2_timesPlus 42 = .ok (.iastore, 1) := by decide +kernel
theorem dX2_timesPlus_43 : decode cX2_timesPlus 43 = .ok (.lload 6, 2) := by decide +kernel
theorem dX2_timesPlus_45 : decode cX2_timesPlus 45 = .ok (.bipush 30, 2) := by decide +kernel
theorem dX2_timesPlus_47 : decode cX2_timesPlus 47 = .ok (.lushr, 1) := by decide +kernel
theorem dX2_timesPlus_48 : decode cX2_timesPlus 48 = .ok (.lstore_n 3, 1) := by decide +kernel
theorem dX2_timesPlus_49 : decode cX2_timesPlus 49 = .ok (.iinc 5 1, 3) := by decide +kernel
theorem dX2_timesPlus_52 : decode cX2_timesPlus 52 = .ok (.goto (-46), 3) := by decide +kernel
theorem dX2_timesPlus_55 : decode cX2_timesPlus 55 = .ok (.aload_n 0, 1) := by decide +kernel
theorem dX2_timesPlus_56 : decode cX2_timesPlus 56 = .ok (.getfield 15, 3) := by decide +kernel
theorem dX2_timesPlus_59 : decode cX2_timesPlus 59 = .ok (.sipush 140, 3) := by decide +kernel
theorem dX2_timesPlus_62 : decode cX2_timesPlus 62 = .ok (.if_icmp .ge 24, 3) := by decide +kernel
theorem dX2_timesPlus_65 : decode cX2_timesPlus 65 = .ok (.aload_n 0, 1) := by decide +kernel
theorem dX2_timesPlus_66 : decode cX2_timesPlus 66 = .ok (.getfield 9, 3) := by decide +kernel
theorem dX2_timesPlus_69 : decode cX2_timesPlus 69 = .ok (.aload_n 0, 1) := by decide +kernel
theorem dX2_timesPlus_70 : decode cX2_timesPlus 70 = .ok (.getfield 15, 3) := by decide +kernel
theorem dX2_timesPlus_73 : decode cX2_timesPlus 73 = .ok (.lload_n 3, 1) := by decide +kernel
theorem dX2_timesPlus_74 : decode cX2_timesPlus 74 = .ok (.l2i, 1) := by decide +kernel
