theorem dX2_timesPlus_75 : decode cX2_timesPlus 75 = .ok (.iastore, 1) := by decide +kernel
theorem dX2_timesPlus_76 : decode cX2_timesPlus 76 = .ok (.aload_n 0, 1) := by decide +kernel
theorem dX2_timesPlus_77 : decode cX2_timesPlus 77 = .ok (.aload_n 0, 1) := by decide +kernel
theorem dX2_timesPlus_78 : decode cX2_timesPlus 78 = .ok (.getfield 15, 3) := by decide +kernel
theorem dX2_timesPlus_81 : decode cX2_timesPlus 81 = .ok (.iconst 1, 1) := by decide +kernel
theorem dX2_timesPlus_82 : decode cX2_timesPlus 82 = .ok (.iadd, 1) := by decide +kernel
theorem dX2_timesPlus_83 : decode cX2_timesPlus 83 = .ok (.invokevirtual 39, 3) := by decide +kernel
theorem dX2_timesPlus_86 : decode cX2_timesPlus 86 = .ok (.return_, 1) := by decide +kernel
set_option maxRecDepth 20000 in
theorem ggX2_cutBy_X2_trim : GoodIn wsX2_cutBy wsX2_trim := goodIn_r _ [7, 8, 9, 10, 11, 2, 12, 13, 14, 1, 15, 16] (by decide +kernel) (by decide +kernel)
set_option maxRecDepth 20000 in
theorem gX2_cutBy_X2_trim : GoodIn wsX2_cutBy (wsV RX2 39 RX2 yX2_trim wsX2_trim) := goodIn_app (goodIn_of _ (by decide +kernel)) ggX2_cutBy_X2_trim
theorem dX2_cutBy_0 : decode cX2_cutBy 0 = .ok (.iload_n 1, 1) := by decide +kernel
theorem dX2_cutBy_1 : decode cX2_cutBy 1 = .ok (.iconst 1, 1) := by decide +kernel
theorem dX2_cutBy_2 : decode cX2_cutBy 2 = .ok (.if_icmp .ge 5, 3) := by decide +kernel
theorem dX2_cutBy_5 : decode cX2_cutBy 5 = .ok (.iconst 0, 1) := by decide +kernel
theorem dX2_cutBy_6 : decode cX2_cutBy 6 = .ok (.ireturn, 1) := by decide +kernel
theorem dX2_cutBy_7 : decode cX2_cutBy 7 = .ok (.lconst 0, 1) := by decide +kernel
theorem dX2_cutBy_8 : decode cX2_cutBy 8 = .ok (.lstore_n 2, 1) := by decide +kernel
theorem dX2_cutBy_9 : decode cX2_cutBy 9 = .ok (.aload_n 0, 1) := by decide +kernel
theorem dX2_cutBy_10 : decode cX2_cutBy 10 = .ok (.getfield 15, 3) := by decide +kernel
theorem dX2_cutBy_13 : decode cX2_cutBy 13 = .ok (.iconst 1, 1) := by decide +kernel
theorem dX2_cutBy_14 : decode cX2_cutBy 14 = .ok (.isub, 1) := by decide +kernel
theorem dX2_cutBy_15 : decode cX2_cutBy 15 = .ok (.istore 4, 2) := by decide +kernel
theorem dX2_cutBy_17 : decode cX2_cutBy 17 = .ok (.iload 4, 2) := by decide +kernel
theorem dX2_cutBy_19 : decode cX2_cutBy 19 = .ok (.ifCond .lt 43, 3) := by decide +kernel
theorem dX2_cutBy_22 : decode cX2_cutBy 22 = .ok (.lload_n 2, 1) := by decide +kernel
theorem dX2_cutBy_23 : decode cX2_cutBy 23 = .ok (.bipush 30, 2) := by decide +kernel
theorem dX2_cutBy_25 : decode cX2_cutBy 25 = .ok (.lshl, 1) := by decide +kernel
theorem dX2_cutBy_26 : decode cX2_cutBy 26 = .ok (.aload_n 0, 1) := by decide +kernel
theorem dX2_cutBy_27 : decode cX2_cutBy 27 = .ok (.getfield 9, 3) := by decide +kernel
theorem dX2_cutBy_30 : decode cX2_cutBy 30 = .ok (.iload 4, 2) := by decide +kernel
theorem dX2_cutBy_32 : decode cX2_cutBy 32 = .ok (.iaload, 1) := by decide +kernel
theorem dX2_cutBy_33 : decode cX2_cutBy 33 = .ok (.i2l, 1) := by decide +kernel
theorem dX2_cutBy_34 : decode cX2_cutBy 34 = .ok (.lor, 1) := by decide +kernel
theorem dX2_cutBy_35 : decode cX2_cutBy 35 = .ok (.lstore 5, 2) := by decide +kernel
theorem dX2_cutBy_37 : decode cX2_cutBy 37 = .ok (.aload_n 0, 1) := by decide +kernel
theorem dX2_cutBy_38 : decode cX2_cutBy 38 = .ok (.getfield 9, 3) := by decide +kernel
theorem dX2_cutBy_41 : decode cX2_cutBy 41 = .ok (.iload 4, 2) := by decide +kernel
theorem dX2_cutBy_43 : decode cX2_cutBy 43 = .ok (.lload 5, 2) := by decide +kernel
theorem dX2_cutBy_45 : decode cX2_cutBy 45 = .ok (.iload_n 1, 1) := by decide +kernel
theorem dX2_cutBy_46 : decode cX2_cutBy 46 = .ok (.i2l, 1) := by decide +kernel
theorem dX2_cutBy_47 : decode cX2_cutBy 47 = .ok (.ldiv, 1) := by decide +kernel
theorem dX2_cutBy_48 : decode cX2_cutBy 48 = .ok (.l2i, 1) := by decide +kernel
theorem dX2_cutBy_49 : decode cX2_cutBy 49 = .ok (.iastore, 1) := by decide +kernel
theorem dX2_cutBy_50 : decode cX2_cutBy 50 = .ok (.lload 5, 2) := by decide +kernel
theorem dX2_cutBy_52 : decode cX2_cutBy 52 = .ok (.iload_n 1, 1) := by decide +kernel
theorem dX2_cutBy_53 : decode cX2_cutBy 53 = .ok (.i2l, 1) := by decide +kernel
theorem dX2_cutBy_54 : decode cX2_cutBy 54 = .ok (.lrem, 1) := by decide +kernel
theorem dX2_cutBy_55 : decode cX2_cutBy 55 = .ok (.lstore_n 2, 1) := by decide +kernel
theorem dX2_cutBy_56 : decode cX2_cutBy 56 = .ok (.iinc 4 (-1), 3) := by decide +kernel
theorem dX2_cutBy_59 : decode cX2_cutBy 59 = .ok (.goto (-42), 3) := by decide +kernel
theorem dX2_cutBy_62 : decode cX2_cutBy 62 = .ok (.aload_n 0, 1) := by decide +kernel
theorem dX2_cutBy_63 : decode cX2_cutBy 63 = .ok (.aload_n 0, 1) := by decide +kernel
theorem dX2_cutBy_64 : decode cX2_cutBy 64 = .ok (.getfield 15, 3) := by decide +kernel
theorem dX2_cutBy_67 : decode cX2_cutBy 67 = .ok (.invokevirtual 39, 3) := by decide +kernel
theorem dX2_cutBy_70 : decode cX2_cutBy 70 = .ok (.lload_n 2, 1) := by decide +kernel
theorem dX2_cutBy_71 : decode cX2_cutBy 71 = .ok (.l2i, 1) := by decide +kernel
theorem dX2_cutBy_72 : decode cX2_cutBy 72 = .ok (.ireturn, 1) := by decide +kernel
theorem dX2_padTo_0 : decode cX2_padTo 0 = .ok (.aload_n 0, 1) := by decide +kernel
theorem dX2_padTo_1 : decode cX2_padTo 1 = .ok (.getfield 15, 3) := by decide +kernel
theorem dX2_padTo_4 : decode cX2_padTo 4 = .ok (.istore_n 2, 1) := by decide +kernel
theorem dX2_padTo_5 : decode cX2_padTo 5 = .ok (.iload_n 2, 1) := by decide +kernel
theorem dX2_padTo_6 : decode cX2_padTo 6 = .ok (.iload_n 1, 1) := by decide +kernel
theorem dX2_padTo_7 : decode cX2_padTo 7 = .ok (.if_icmp .ge 23, 3) := by decide +kernel
theorem dX2_padTo_10 : decode cX2_padTo 10 = .ok (.iload_n 2, 1) := by decide +kernel
theorem dX2_padTo_11 : decode cX2_padTo 11 = .ok (.sipush 140, 3) := by decide +kernel
theorem dX2_padTo_14 : decode cX2_padTo 14 = .ok (.if_icmp .ge 16, 3) := by decide +kernel
theorem dX2_padTo_17 : decode cX2_padTo 17 = .ok (.aload_n 0, 1) := by decide +kernel
theorem dX2_padTo_18 : decode cX2_padTo 18 = .ok (.getfield 9, 3) := by decide +kernel
theorem dX2_padTo_21 : decode cX2_padTo 21 = .ok (.iload_n 2, 1) := by decide +kernel
theorem dX2_padTo_22 : decode cX2_padTo 22 = .ok (.iconst 0, 1) := by decide +kernel
theorem dX2_padTo_23 : decode cX2_padTo 23 = .ok (.iastore, 1) := by decide +kernel
theorem dX2_padTo_24 : decode cX2_padTo 24 = .ok (.iinc 2 1, 3) := by decide +kernel
theorem dX2_padTo_27 : decode cX2_padTo 27 = .ok (.goto (-22), 3) := by decide +kernel
theorem dX2_padTo_30 : decode cX2_padTo 30 = .ok (.return_, 1) := by decide +kernel
theorem dX3_init_0 : decode cX3_init 0 = .ok (.aload_n 0, 1) := by decide +kernel
theorem dX3_init_1 : decode cX3_init 1 = .ok (.invokespecial 3, 3) := by decide +kernel
theorem dX3_init_4 : decode cX3_init 4 = .ok (.aload_n 0, 1) := by decide +kernel
theorem dX3_init_5 : decode cX3_init 5 = .ok (.sipush 4097, 3) := by decide +kernel
theorem dX3_init_8 : decode cX3_init 8 = .ok (.newarray .char, 2) := by decide +kernel
theorem dX3_init_10 : decode cX3_init 10 = .ok (.putfield 9, 3) := by decide +kernel
theorem dX3_init_13 : decode cX3_init 13 = .ok (.return_, 1) := by decide +kernel
theorem dX3_append_0 : decode cX3_append 0 = .ok (.aload_n 0, 1) := by decide +kernel
theorem dX3_append_1 : decode cX3_append 1 = .ok (.getfield 15, 3) := by decide +kernel
theorem dX3_append_4 : decode cX3_append 4 = .ok (.sipush 4097, 3) := by decide +kernel
theorem dX3_append_7 : decode cX3_append 7 = .ok (.if_icmp .ge 23, 3) := by decide +kernel
theorem dX3_append_10 : decode cX3_append 10 = .ok (.aload_n 0, 1) := by decide +kernel
theorem dX3_append_11 : decode cX3_append 11 = .ok (.getfield 9, 3) := by decide +kernel
theorem dX3_append_14 : decode cX3_append 14 = .ok (.aload_n 0, 1) := by decide +kernel
theorem dX3_append_15 : decode cX3_append 15 = .ok (.getfield 15, 3) := by decide +kernel
theorem dX3_append_18 : decode cX3_append 18 = .ok (.iload_n 1, 1) := by decide +kernel
theorem dX3_append_19 : decode cX3_append 19 = .ok (.castore, 1) := by decide +kernel
theorem dX3_append_20 : decode cX3_append 20 = .ok (.aload_n 0, 1) := by decide +kernel
theorem dX3_append_21 : decode cX3_append 21 = .ok (.dup, 1) := by decide +kernel
theorem dX3_append_22 : decode cX3_append 22 = .ok (.getfield 15, 3) := by decide +kernel
theorem dX3_append_25 : decode cX3_append 25 = .ok (.iconst 1, 1) := by decide +kernel
theorem dX3_append_26 : decode cX3_append 26 = .ok (.iadd, 1) := by decide +kernel
theorem dX3_append_27 : decode cX3_append 27 = .ok (.putfield 15, 3) := by decide +kernel
theorem dX3_append_30 : decode cX3_append 30 = .ok (.return_, 1) := by decide +kernel
set_option maxRecDepth 20000 in
theorem ggX3_spell_X3_appendDigitsBackwards : GoodIn wsX3_spell wsX3_appendDigitsBackwards := goodIn_r _ [8, 9, 10, 11, 12, 13, 14, 15, 16, 17, 7, 18, 1, 19, 20, 21, 22, 23, 24, 25, 26, 27, 28, 29, 30, 31, 32, 33, 34, 35, 36, 37, 38, 39, 40, 41, 42, 43, 44, 45, 54, 55, 50, 51] (by decide +kernel) (by decide +kernel)
set_option maxRecDepth 20000 in
theorem gX3_spell_X3_appendDigitsBackwards : GoodIn wsX3_spell (wsV RX3 25 RX3 yX3_appendDigitsBackwards wsX3_appendDigitsBackwards) := goodIn_app (goodIn_of _ (by decide +kernel)) ggX3_spell_X3_appendDigitsBackwards
set_option maxRecDepth 20000 in
theorem ggX3_spell_X3_append : GoodIn wsX3_spell wsX3_append := goodIn_r _ [18, 1, 19, 50, 51] (by decide +kernel) (by decide +kernel)
set_option maxRecDepth 20000 in
theorem gX3_spell_X3_append : GoodIn wsX3_spell (wsV RX3 33 RX3 yX3_append wsX3_append) := goodIn_app (goodIn_of _ (by decide +kernel)) ggX3_spell_X3_append
set_option maxRecDepth 20000 in
theorem ggX3_spell_X3_reverse : GoodIn wsX3_spell wsX3_reverse := goodIn_r _ [49, 1, 19, 50, 51] (by decide +kernel) (by decide +kernel)
set_option maxRecDepth 20000 in
theorem gX3_spell_X3_reverse : GoodIn wsX3_spell (wsV RX3 37 RX3 yX3_reverse wsX3_reverse) := goodIn_app (goodIn_of _ (by decide +kernel)) ggX3_spell_X3_reverse
theorem dX3_spell_0 : decode cX3_spell 0 = .ok (.aload_n 0, 1) := by decide +kernel
theorem dX3_spell_1 : decode cX3_spell 1 = .ok (.iconst 0, 1) := by decide +kernel
theorem dX3_spell_2 : decode cX3_spell 2 = .ok (.putfield 15, 3) := by decide +kernel
theorem dX3_spell_5 : decode cX3_spell 5 = .ok (.aload_n 0, 1) := by decide +kernel
theorem dX3_spell_6 : decode cX3_spell 6 = .ok (.aload_n 1, 1) := by decide +kernel
theorem dX3_spell_7 : decode cX3_spell 7 = .ok (.getfield 19, 3) := by decide +kernel
theorem dX3_spell_10 : decode cX3_spell 10 = .ok (.iload_n 2, 1) := by decide +kernel
theorem dX3_spell_11 : decode cX3_spell 11 = .ok (.invokevirtual 25, 3) := by decide +kernel
theorem dX3_spell_14 : decode cX3_spell 14 = .ok (.aload_n 1, 1) := by decide +kernel
theorem dX3_spell_15 : decode cX3_spell 15 = .ok (.getfield 29, 3) := by decide +kernel
theorem dX3_spell_18 : decode cX3_spell 18 = .ok (.ifCond .eq 9, 3) := by decide +kernel
theorem dX3_spell_21 : decode cX3_spell 21 = .ok (.aload_n 0, 1) := by decide +kernel
theorem dX3_spell_22 : decode cX3_spell 22 = .ok (.bipush 45, 2) := by decide +kernel
theorem dX3_spell_24 : decode cX3_spell 24 = .ok (.invokevirtual 33, 3) := by decide +kernel
theorem dX3_spell_27 : decode cX3_spell 27 = .ok (.aload_n 0, 1) := by decide +kernel
theorem dX3_spell_28 : decode cX3_spell 28 = .ok (.invokevirtual 37, 3) := by decide +kernel
theorem dX3_spell_31 : decode cX3_spell 31 = .ok (.return_, 1) := by decide +kernel
set_option maxRecDepth 20000 in
theorem ggX3_appendDigitsBackwards_X2_isZero : GoodIn wsX3_appendDigitsBackwards wsX2_isZero := goodIn_r _ [5, 6, 40, 41] (by decide +kernel) (by decide +kernel)
set_option maxRecDepth 20000 in
theorem gX3_appendDigitsBackwards_X2_isZero : GoodIn wsX3_appendDigitsBackwards (wsV RX3 40 RX2 yX2_isZero wsX2_isZero) := goodIn_app (goodIn_of _ (by decide +kernel)) ggX3_appendDigitsBackwards_X2_isZero
set_option maxRecDepth 20000 in
theorem ggX3_appendDigitsBackwards_X3_append : GoodIn wsX3_appendDigitsBackwards wsX3_append := goodIn_r _ [11, 12, 13, 42, 43] (by decide +kernel) (by decide +kernel)
set_option maxRecDepth 20000 in
theorem gX3_appendDigitsBackwards_X3_append : GoodIn wsX3_appendDigitsBackwards (wsV RX3 33 RX3 yX3_append wsX3_append) := goodIn_app (goodIn_of _ (by decide +kernel)) ggX3_appendDigitsBackwards_X3_append
set_option maxRecDepth 20000 in
theorem ggX3_appendDigitsBackwards_X3_digitsInLimb : GoodIn wsX3_appendDigitsBackwards wsX3_digitsInLimb := goodIn_r _ [16, 17] (by decide +kernel) (by decide +kernel)
set_option maxRecDepth 20000 in
theorem gX3_appendDigitsBackwards_X3_digitsInLimb : GoodIn wsX3_appendDigitsBackwards (va_wsS RX3 46 yX3_digitsInLimb wsX3_digitsInLimb) := goodIn_app (goodIn_of _ (by decide +kernel)) ggX3_appendDigitsBackwards_X3_digitsInLimb
set_option maxRecDepth 20000 in
theorem ggX3_appendDigitsBackwards_X3_powerOf : GoodIn wsX3_appendDigitsBackwards wsX3_powerOf := goodIn_r _ [20] (by decide +kernel) (by decide +kernel)
set_option maxRecDepth 20000 in
theorem gX3_appendDigitsBackwards_X3_powerOf : GoodIn wsX3_appendDigitsBackwards (va_wsS RX3 50 yX3_powerOf wsX3_powerOf) := goodIn_app (goodIn_of _ (by decide +kernel)) ggX3_appendDigitsBackwards_X3_powerOf
set_option maxRecDepth 20000 in
theorem ggX3_appendDigitsBackwards_X2_cutBy : GoodIn wsX3_appendDigitsBackwards wsX2_cutBy := goodIn_r _ [24, 6, 25, 26, 27, 28, 4, 29, 30, 31, 32, 33, 34, 35, 36, 40, 41] (by decide +kernel) (by decide +kernel)
set_option maxRecDepth 20000 in
theorem gX3_appendDigitsBackwards_X2_cutBy : GoodIn wsX3_appendDigitsBackwards (wsV RX3 54 RX2 yX2_cutBy wsX2_cutBy) := goodIn_app (goodIn_of _ (by decide +kernel)) ggX3_appendDigitsBackwards_X2_cutBy
set_option maxRecDepth 20000 in
theorem ggX3_appendDigitsBackwards_X3_letterOf : GoodIn wsX3_appendDigitsBackwards wsX3_letterOf := goodIn_r _ [39] (by decide +kernel) (by decide +kernel)
set_option maxRecDepth 20000 in
theorem gX3_appendDigitsBackwards_X3_letterOf : GoodIn wsX3_appendDigitsBackwards (va_wsS RX3 57 yX3_letterOf wsX3_letterOf) := goodIn_app (goodIn_of _ (by decide +kernel)) ggX3_appendDigitsBackwards_X3_letterOf
theorem dX3_appendDigitsBackwards_0 : decode cX3_appendDigitsBackwards 0 = .ok (.aload_n 1, 1) := by decide +kernel
theorem dX3_appendDigitsBackwards_1 : decode cX3_appendDigitsBackwards 1 = .ok (.invokevirtual 40, 3) := by decide +kernel
theorem dX3_appendDigitsBackwards_4 : decode cX3_appendDigitsBackwards 4 = .ok (.ifCond .eq 9, 3) := by decide +kernel
theorem dX3_appendDigitsBackwards_7 : decode cX3_appendDigitsBackwards 7 = .ok (.aload_n 0, 1) := by decide +kernel
theorem dX3_appendDigitsBackwards_8 : decode cX3_appendDigitsBackwards 8 = .ok (.bipush 48, 2) := by decide +kernel
theorem dX3_appendDigitsBackwards_10 : decode cX3_appendDigitsBackwards 10 = .ok (.invokevirtual 33, 3) := by decide +kernel
theorem dX3_appendDigitsBackwards_13 : decode cX3_appendDigitsBackwards 13 = .ok (.iload_n 2, 1) := by decide +kernel
theorem dX3_appendDigitsBackwards_14 : decode cX3_appendDigitsBackwards 14 = .ok (.iconst 2, 1) := by decide +kernel
theorem dX3_appendDigitsBackwards_15 : decode cX3_appendDigitsBackwards 15 = .ok (.if_icmp .ge 4, 3) := by decide +kernel
theorem dX3_appendDigitsBackwards_18 : decode cX3_appendDigitsBackwards 18 = .ok (.return_, 1) := by decide +kernel
theorem dX3_appendDigitsBackwards_19 : decode cX3_appendDigitsBackwards 19 = .ok (.iload_n 2, 1) := by decide +kernel
theorem dX3_appendDigitsBackwards_20 : decode cX3_appendDigitsBackwards 20 = .ok (.invokestatic 46, 3) := by decide +kernel
theorem dX3_appendDigitsBackwards_23 : decode cX3_appendDigitsBackwards 23 = .ok (.istore_n 3, 1) := by decide +kernel
theorem dX3_appendDigitsBackwards_24 : decode cX3_appendDigitsBackwards 24 = .ok (.iload_n 2, 1) := by decide +kernel
theorem dX3_appendDigitsBackwards_25 : decode cX3_appendDigitsBackwards 25 = .ok (.iload_n 3, 1) := by decide +kernel
theorem dX3_appendDigitsBackwards_26 : decode cX3_appendDigitsBackwards 26 = .ok (.invokestatic 50, 3) := by decide +kernel
theorem dX3_appendDigitsBackwards_29 : decode cX3_appendDigitsBackwards 29 = .ok (.istore 4, 2) := by decide +kernel
theorem dX3_appendDigitsBackwards_31 : decode cX3_appendDigitsBackwards 31 = .ok (.iconst 0, 1) := by decide +kernel
theorem dX3_appendDigitsBackwards_32 : decode cX3_appendDigitsBackwards 32 = .ok (.istore 5, 2) := by decide +kernel
theorem dX3_appendDigitsBackwards_34 : decode cX3_appendDigitsBackwards 34 = .ok (.iload 5, 2) := by decide +kernel
theorem dX3_appendDigitsBackwards_36 : decode cX3_appendDigitsBackwards 36 = .ok (.sipush 4096, 3) := by decide +kernel
theorem dX3_appendDigitsBackwards_39 : decode cX3_appendDigitsBackwards 39 = .ok (.if_icmp .ge 68, 3) := by decide +kernel
theorem dX3_appendDigitsBackwards_42 : decode cX3_appendDigitsBackwards 42 = .ok (.aload_n 1, 1) := by decide +kernel
theorem dX3_appendDigitsBackwards_43 : decode cX3_appendDigitsBackwards 43 = .ok (.invokevirtual 40, 3) := by decide +kernel
theorem dX3_appendDigitsBackwards_46 : decode cX3_appendDigitsBackwards 46 = .ok (.ifCond .ne 61, 3) := by decide +kernel
theorem dX3_appendDigitsBackwards_49 : decode cX3_appendDigitsBackwards 49 = .ok (.aload_n 1, 1) := by decide +kernel
theorem dX3_appendDigitsBackwards_50 : decode cX3_appendDigitsBackwards 50 = .ok (.iload 4, 2) := by decide +kernel
theorem dX3_appendDigitsBackwards_52 : decode cX3_appendDigitsBackwards 52 = .ok (.invokevirtual 54, 3) := by decide +kernel
theorem dX3_appendDigitsBackwards_55 : decode cX3_appendDigitsBackwards 55 = .ok (.istore 6, 2) := by decide +kernel
theorem dX3_appendDigitsBackwards_57 : decode cX3_appendDigitsBackwards 57 = .ok (.iconst 0, 1) := by decide +kernel
theorem dX3_appendDigitsBackwards_58 : decode cX3_appendDigitsBackwards 58 = .ok (.istore 7, 2) := by decide +kernel
theorem dX3_appendDigitsBackwards_60 : decode cX3_appendDigitsBackwards 60 = .ok (.iload 7, 2) := by decide +kernel
theorem dX3_appendDigitsBackwards_62 : decode cX3_appendDigitsBackwards 62 = .ok (.iload_n 3, 1) := by decide +kernel
theorem dX3_appendDigitsBackwards_63 : decode cX3_appendDigitsBackwards 63 = .ok (.if_icmp .ge 38, 3) := by decide +kernel
theorem dX3_appendDigitsBackwards_66 : decode cX3_appendDigitsBackwards 66 = .ok (.iload 6, 2) := by decide +kernel
theorem dX3_appendDigitsBackwards_68 : decode cX3_appendDigitsBackwards 68 = .ok (.ifCond .gt 10, 3) := by decide +kernel
theorem dX3_appendDigitsBackwards_71 : decode cX3_appendDigitsBackwards 71 = .ok (.aload_n 1, 1) := by decide +kernel
theorem dX3_appendDigitsBackwards_72 : decode cX3_appendDigitsBackwards 72 = .ok (.invokevirtual 40, 3) := by decide +kernel
theorem dX3_appendDigitsBackwards_75 : decode cX3_appendDigitsBackwards 75 = .ok (.ifCond .ne 26, 3) := by decide +kernel
theorem dX3_appendDigitsBackwards_78 : decode cX3_appendDigitsBackwards 78 = .ok (.aload_n 0, 1) := by decide +kernel
theorem dX3_appendDigitsBackwards_79 : decode cX3_appendDigitsBackwards 79 = .ok (.iload 6, 2) := by decide +kernel
theorem dX3_appendDigitsBackwards_81 : decode cX3_appendDigitsBackwards 81 = .ok (.iload_n 2, 1) := by decide +kernel
theorem dX3_appendDigitsBackwards_82 : decode cX3_appendDigitsBackwards 82 = .ok (.irem, 1) := by decide +kernel
theorem dX3_appendDigitsBackwards_83 : decode cX3_appendDigitsBackwards 83 = .ok (.invokestatic 57, 3) := by decide +kernel
theorem dX3_appendDigitsBackwards_86 : decode cX3_appendDigitsBackwards 86 = .ok (.invokevirtual 33, 3) := by decide +kernel
theorem dX3_appendDigitsBackwards_89 : decode cX3_appendDigitsBackwards 89 = .ok (.iload 6, 2) := by decide +kernel
theorem dX3_appendDigitsBackwards_91 : decode cX3_appendDigitsBackwards 91 = .ok (.iload_n 2, 1) := by decide +kernel
theorem dX3_appendDigitsBackwards_92 : decode cX3_appendDigitsBackwards 92 = .ok (.idiv, 1) := by decide +kernel
theorem dX3_appendDigitsBackwards_93 : decode cX3_appendDigitsBackwards 93 = .ok (.istore 6, 2) := by decide +kernel
theorem dX3_appendDigitsBackwards_95 : decode cX3_appendDigitsBackwards 95 = .ok (.iinc 7 1, 3) := by decide +kernel
theorem dX3_appendDigitsBackwards_98 : decode cX3_appendDigitsBackwards 98 = .ok (.goto (-38), 3) := by decide +kernel
theorem dX3_appendDigitsBackwards_101 : decode cX3_appendDigitsBackwards 101 = .ok (.iinc 5 1, 3) := by decide +kernel
theorem dX3_appendDigitsBackwards_104 : decode cX3_appendDigitsBackwards 104 = .ok (.goto (-70), 3) := by decide +kernel
theorem dX3_appendDigitsBackwards_107 : decode cX3_appendDigitsBackwards 107 = .ok (.return_, 1) := by decide +kernel
theorem dX3_reverse_0 : decode cX3_reverse 0 = .ok (.iconst 0, 1) := by decide +kernel
theorem dX3_reverse_1 : decode cX3_reverse 1 = .ok (.istore_n 1, 1) := by decide +kernel
theorem dX3_reverse_2 : decode cX3_reverse 2 = .ok (.aload_n 0, 1) := by decide +kernel
theorem dX3_reverse_3 : decode cX3_reverse 3 = .ok (.getfield 15, 3) := by decide +kernel
theorem dX3_reverse_6 : decode cX3_reverse 6 = .ok (.iconst 1, 1) := by decide +kernel
theorem dX3_reverse_7 : decode cX3_reverse 7 = .ok (.isub, 1) := by decide +kernel
theorem dX3_reverse_8 : decode cX3_reverse 8 = .ok (.istore_n 2, 1) := by decide +kernel
theorem dX3_reverse_9 : decode cX3_reverse 9 = .ok (.iload_n 1, 1) := by decide +kernel
theorem dX3_reverse_10 : decode cX3_reverse 10 = .ok (.iload_n 2, 1) := by decide +kernel
theorem dX3_reverse_11 : decode cX3_reverse 11 = .ok (.if_icmp .ge 38, 3) := by decide +kernel
theorem dX3_reverse_14 : decode cX3_reverse 14 = .ok (.aload_n 0, 1) := by decide +kernel
theorem dX3_reverse_15 : decode cX3_reverse 15 = .ok (.getfield 9, 3) := by decide +kernel
theorem dX3_reverse_18 : decode cX3_reverse 18 = .ok (.iload_n 1, 1) := by decide +kernel
theorem dX3_reverse_19 : decode cX3_reverse 19 = .ok (.caload, 1) := by decide +kernel
theorem dX3_reverse_20 : decode cX3_reverse 20 = .ok (.istore_n 3, 1) := by decide +kernel
theorem dX3_reverse_21 : decode cX3_reverse 21 = .ok (.aload_n 0, 1) := by decide +kernel
theorem dX3_reverse_22 : decode cX3_reverse 22 = .ok (.getfield 9, 3) := by decide +kernel
theorem dX3_reverse_25 : decode cX3_reverse 25 = .ok (.iload_n 1, 1) := by decide +kernel
theorem dX3_reverse_26 : decode cX3_reverse 26 = .ok (.aload_n 0, 1) := by decide +kernel
theorem dX3_reverse_27 : decode cX3_reverse 27 = .ok (.getfield 9, 3) := by decide +kernel
theorem dX3_reverse_30 : decode cX3_reverse 30 = .ok (.iload_n 2, 1) := by decide +kernel
theorem dX3_reverse_31 : decode cX3_reverse 31 = .ok (.caload, 1) := by decide +kernel
theorem dX3_reverse_32 : decode cX3_reverse 32 = .ok (.castore, 1) := by decide +kernel
theorem dX3_reverse_33 : decode cX3_reverse 33 = .ok (.aload_n 0, 1) := by decide +kernel
theorem dX3_reverse_34 : decode cX3_reverse 34 = .ok (.getfield 9, 3) := by decide +kernel
theorem dX3_reverse_37 : decode cX3_reverse 37 = .ok (.iload_n 2, 1) := by decide +kernel
theorem dX3_reverse_38 : decode cX3_reverse 38 = .ok (.iload_n 3, 1) := by decide +kernel
theorem dX3_reverse_39 : decode cX3_reverse 39 = .ok (.castore, 1) := by decide +kernel
theorem dX3_reverse_40 : decode cX3_reverse 40 = .ok (.iinc 1 1, 3) := by decide +kernel
theorem dX3_reverse_43 : decode cX3_reverse 43 = .ok (.iinc 2 (-1), 3) := by decide +kernel
theorem dX3_reverse_46 : decode cX3_reverse 46 = .ok (.goto (-37), 3) := by decide +kernel
theorem dX3_reverse_49 : decode cX3_reverse 49 = .ok (.return_, 1) := by decide +kernel
theorem dX3_firstDigit_0 : decode cX3_firstDigit 0 = .ok (.aload_n 0, 1) := by decide +kernel
theorem dX3_firstDigit_1 : decode cX3_firstDigit 1 = .ok (.getfield 15, 3) := by decide +kernel
theorem dX3_firstDigit_4 : decode cX3_firstDigit 4 = .ok (.ifCond .le 18, 3) := by decide +kernel
theorem dX3_firstDigit_7 : decode cX3_firstDigit 7 = .ok (.aload_n 0, 1) := by decide +kernel
theorem dX3_firstDigit_8 : decode cX3_firstDigit 8 = .ok (.getfield 9, 3) := by decide +kernel
theorem dX3_firstDigit_11 : decode cX3_firstDigit 11 = .ok (.iconst 0, 1) := by decide +kernel
theorem dX3_firstDigit_12 : decode cX3_firstDigit 12 = .ok (.caload, 1) := by decide +kernel
theorem dX3_firstDigit_13 : decode cX3_firstDigit 13 = .ok (.bipush 45, 2) := by decide +kernel
theorem dX3_firstDigit_15 : decode cX3_firstDigit 15 = .ok (.if_icmp .ne 7, 3) := by decide +kernel
theorem dX3_firstDigit_18 : decode cX3_firstDigit 18 = .ok (.iconst 1, 1) := by decide +kernel
theorem dX3_firstDigit_19 : decode cX3_firstDigit 19 = .ok (.goto 4, 3) := by decide +kernel
theorem dX3_firstDigit_22 : decode cX3_firstDigit 22 = .ok (.iconst 0, 1) := by decide +kernel
theorem dX3_firstDigit_23 : decode cX3_firstDigit 23 = .ok (.ireturn, 1) := by decide +kernel
set_option maxRecDepth 20000 in
theorem ggX3_tellsNumber_X3_firstDigit : GoodIn wsX3_tellsNumber wsX3_firstDigit := goodIn_r _ [7, 1, 2, 11, 12] (by decide +kernel) (by decide +kernel)
set_option maxRecDepth 20000 in
theorem gX3_tellsNumber_X3_firstDigit : GoodIn wsX3_tellsNumber (wsV RX3 61 RX3 yX3_firstDigit wsX3_firstDigit) := goodIn_app (goodIn_of _ (by decide +kernel)) ggX3_tellsNumber_X3_firstDigit
set_option maxRecDepth 20000 in
theorem ggX3_tellsNumber_X3_digitOf : GoodIn wsX3_tellsNumber wsX3_digitOf := goodIn_r _ [10] (by decide +kernel) (by decide +kernel)
set_option maxRecDepth 20000 in
theorem gX3_tellsNumber_X3_digitOf : GoodIn wsX3_tellsNumber (va_wsS RX3 65 yX3_digitOf wsX3_digitOf) := goodIn_app (goodIn_of _ (by decide +kernel)) ggX3_tellsNumber_X3_digitOf
theorem dX3_tellsNumber_0 : decode cX3_tellsNumber 0 = .ok (.aload_n 0, 1) := by decide +kernel
theorem dX3_tellsNumber_1 : decode cX3_tellsNumber 1 = .ok (.invokevirtual 61, 3) := by decide +kernel
theorem dX3_tellsNumber_4 : decode cX3_tellsNumber 4 = .ok (.istore_n 2, 1) := by decide +kernel
theorem dX3_tellsNumber_5 : decode cX3_tellsNumber 5 = .ok (.iload_n 2, 1) := by decide +kernel
theorem dX3_tellsNumber_6 : decode cX3_tellsNumber 6 = .ok (.istore_n 3, 1) := by decide +kernel
theorem dX3_tellsNumber_7 : decode cX3_tellsNumber 7 = .ok (.iload_n 3, 1) := by decide +kernel
theorem dX3_tellsNumber_8 : decode cX3_tellsNumber 8 = .ok (.aload_n 0, 1) := by decide +kernel
theorem dX3_tellsNumber_9 : decode cX3_tellsNumber 9 = .ok (.getfield 15, 3) := by decide +kernel
theorem dX3_tellsNumber_12 : decode cX3_tellsNumber 12 = .ok (.if_icmp .ge 33, 3) := by decide +kernel
theorem dX3_tellsNumber_15 : decode cX3_tellsNumber 15 = .ok (.aload_n 0, 1) := by decide +kernel
theorem dX3_tellsNumber_16 : decode cX3_tellsNumber 16 = .ok (.getfield 9, 3) := by decide +kernel
theorem dX3_tellsNumber_19 : decode cX3_tellsNumber 19 = .ok (.iload_n 3, 1) := by decide +kernel
theorem dX3_tellsNumber_20 : decode cX3_tellsNumber 20 = .ok (.caload, 1) := by decide +kernel
theorem dX3_tellsNumber_21 : decode cX3_tellsNumber 21 = .ok (.invokestatic 65, 3) := by decide +kernel
theorem dX3_tellsNumber_24 : decode cX3_tellsNumber 24 = .ok (.istore 4, 2) := by decide +kernel
theorem dX3_tellsNumber_26 : decode cX3_tellsNumber 26 = .ok (.iload 4, 2) := by decide +kernel
theorem dX3_tellsNumber_28 : decode cX3_tellsNumber 28 = .ok (.ifCond .lt 9, 3) := by decide +kernel
theorem dX3_tellsNumber_31 : decode cX3_tellsNumber 31 = .ok (.iload 4, 2) := by decide +kernel
theorem dX3_tellsNumber_33 : decode cX3_tellsNumber 33 = .ok (.iload_n 1, 1) := by decide +kernel
theorem dX3_tellsNumber_34 : decode cX3_tellsNumber 34 = .ok (.if_icmp .lt 5, 3) := by decide +kernel
theorem dX3_tellsNumber_37 : decode cX3_tellsNumber 37 = .ok (.iconst 0, 1) := by decide +kernel
theorem dX3_tellsNumber_38 : decode cX3_tellsNumber 38 = .ok (.ireturn, 1) := by decide +kernel
theorem dX3_tellsNumber_39 : decode cX3_tellsNumber 39 = .ok (.iinc 3 1, 3) := by decide +kernel
theorem dX3_tellsNumber_42 : decode cX3_tellsNumber 42 = .ok (.goto (-35), 3) := by decide +kernel
theorem dX3_tellsNumber_45 : decode cX3_tellsNumber 45 = .ok (.aload_n 0, 1) := by decide +kernel
theorem dX3_tellsNumber_46 : decode cX3_tellsNumber 46 = .ok (.getfield 15, 3) := by decide +kernel
theorem dX3_tellsNumber_49 : decode cX3_tellsNumber 49 = .ok (.iload_n 2, 1) := by decide +kernel
theorem dX3_tellsNumber_50 : decode cX3_tellsNumber 50 = .ok (.if_icmp .le 7, 3) := by decide +kernel
theorem dX3_tellsNumber_53 : decode cX3_tellsNumber 53 = .ok (.iconst 1, 1) := by decide +kernel
theorem dX3_tellsNumber_54 : decode cX3_tellsNumber 54 = .ok (.goto 4, 3) := by decide +kernel
theorem dX3_tellsNumber_57 : decode cX3_tellsNumber 57 = .ok (.iconst 0, 1) := by decide +kernel
theorem dX3_tellsNumber_58 : decode cX3_tellsNumber 58 = .ok (.ireturn, 1) := by decide +kernel
set_option maxRecDepth 20000 in
theorem ggX3_tell_X4_takeLong : GoodIn wsX3_tell wsX4_takeLong := goodIn_r _ [14, 15, 16, 17, 18, 19, 20, 21, 22, 23, 24, 25, 26, 27, 28, 8, 3, 9, 29, 2, 4, 30, 82, 83, 84, 85] (by decide +kernel) (by decide +kernel)
set_option maxRecDepth 20000 in
theorem gX3_tell_X4_takeLong : GoodIn wsX3_tell (wsV RX3 69 RX4 yX4_takeLong wsX4_takeLong) := goodIn_app (goodIn_of _ (by decide +kernel)) ggX3_tell_X4_takeLong
set_option maxRecDepth 20000 in
theorem ggX3_tell_X3_digitsInLimb : GoodIn wsX3_tell wsX3_digitsInLimb := goodIn_r _ [34, 35] (by decide +kernel) (by decide +kernel)
set_option maxRecDepth 20000 in
theorem gX3_tell_X3_digitsInLimb : GoodIn wsX3_tell (va_wsS RX3 46 yX3_digitsInLimb wsX3_digitsInLimb) := goodIn_app (goodIn_of _ (by decide +kernel)) ggX3_tell_X3_digitsInLimb
set_option maxRecDepth 20000 in
theorem ggX3_tell_X3_firstDigit : GoodIn wsX3_tell wsX3_firstDigit := goodIn_r _ [39, 5, 40, 80, 81] (by decide +kernel) (by decide +kernel)
set_option maxRecDepth 20000 in
theorem gX3_tell_X3_firstDigit : GoodIn wsX3_tell (wsV RX3 61 RX3 yX3_firstDigit wsX3_firstDigit) := goodIn_app (goodIn_of _ (by decide +kernel)) ggX3_tell_X3_firstDigit
set_option maxRecDepth 20000 in
theorem ggX3_tell_X2_bitLength : GoodIn wsX3_tell wsX2_bitLength := goodIn_r _ [44, 30, 45, 46, 47, 20, 48, 49, 50, 51, 52, 22, 53, 54, 55, 56, 57, 84, 85] (by decide +kernel) (by decide +kernel)
set_option maxRecDepth 20000 in
theorem gX3_tell_X2_bitLength : GoodIn wsX3_tell (wsV RX3 78 RX2 yX2_bitLength wsX2_bitLength) := goodIn_app (goodIn_of _ (by decide +kernel)) ggX3_tell_X2_bitLength
set_option maxRecDepth 20000 in
theorem ggX3_tell_X3_powerOf : GoodIn wsX3_tell wsX3_powerOf := goodIn_r _ [60] (by decide +kernel) (by decide +kernel)
set_option maxRecDepth 20000 in
theorem gX3_tell_X3_powerOf : GoodIn wsX3_tell (va_wsS RX3 50 yX3_powerOf wsX3_powerOf) := goodIn_app (goodIn_of _ (by decide +kernel)) ggX3_tell_X3_powerOf
set_option maxRecDepth 20000 in
theorem ggX3_tell_X3_pieceBetween : GoodIn wsX3_tell wsX3_pieceBetween := goodIn_r _ [64, 40, 65, 66, 33, 67, 80, 81] (by decide +kernel) (by decide +kernel)
set_option maxRecDepth 20000 in
theorem gX3_tell_X3_pieceBetween : GoodIn wsX3_tell (wsV RX3 84 RX3 yX3_pieceBetween wsX3_pieceBetween) := goodIn_app (goodIn_of _ (by decide +kernel)) ggX3_tell_X3_pieceBetween
set_option maxRecDepth 20000 in
theorem ggX3_tell_X2_timesPlus : GoodIn wsX3_tell wsX2_timesPlus := goodIn_r _ [71, 30, 22, 23, 24, 25, 26, 20, 27, 28, 8, 3, 9, 29, 2, 4, 84, 85] (by decide +kernel) (by decide +kernel)
set_option maxRecDepth 20000 in
theorem gX3_tell_X2_timesPlus : GoodIn wsX3_tell (wsV RX3 88 RX2 yX2_timesPlus wsX2_timesPlus) := goodIn_app (goodIn_of _ (by decide +kernel)) ggX3_tell_X2_timesPlus
set_option maxRecDepth 20000 in
theorem ggX3_tell_X4_takeSign : GoodIn wsX3_tell wsX4_takeSign := goodIn_r _ [75, 15, 16, 76, 77, 78, 20, 79, 30, 82, 83, 84, 85] (by decide +kernel) (by decide +kernel)
set_option maxRecDepth 20000 in
theorem gX3_tell_X4_takeSign : GoodIn wsX3_tell (wsV RX3 92 RX4 yX4_takeSign wsX4_takeSign) := goodIn_app (goodIn_of _ (by decide +kernel)) ggX3_tell_X4_takeSign
theorem dX3_tell_0 : decode cX3_tell 0 = .ok (.aload_n 1, 1) := by decide +kernel
theorem dX3_tell_1 : decode cX3_tell 1 = .ok (.lconst 0, 1) := by decide +kernel
theorem dX3_tell_2 : decode cX3_tell 2 = .ok (.invokevirtual 69, 3) := by decide +kernel
theorem dX3_tell_5 : decode cX3_tell 5 = .ok (.iload_n 2, 1) := by decide +kernel
theorem dX3_tell_6 : decode cX3_tell 6 = .ok (.invokestatic 46, 3) := by decide +kernel
theorem dX3_tell_9 : decode cX3_tell 9 = .ok (.iconst 1, 1) := by decide +kernel
theorem dX3_tell_10 : decode cX3_tell 10 = .ok (.invokestatic 73, 3) := by decide +kernel
theorem dX3_tell_13 : decode cX3_tell 13 = .ok (.istore_n 3, 1) := by decide +kernel
theorem dX3_tell_14 : decode cX3_tell 14 = .ok (.aload_n 0, 1) := by decide +kernel
theorem dX3_tell_15 : decode cX3_tell 15 = .ok (.invokevirtual 61, 3) := by decide +kernel
theorem dX3_tell_18 : decode cX3_tell 18 = .ok (.istore 4, 2) := by decide +kernel
theorem dX3_tell_20 : decode cX3_tell 20 = .ok (.iload 4, 2) := by decide +kernel
theorem dX3_tell_22 : decode cX3_tell 22 = .ok (.istore 5, 2) := by decide +kernel
theorem dX3_tell_24 : decode cX3_tell 24 = .ok (.iload 5, 2) := by decide +kernel
theorem dX3_tell_26 : decode cX3_tell 26 = .ok (.aload_n 0, 1) := by decide +kernel
theorem dX3_tell_27 : decode cX3_tell 27 = .ok (.getfield 15, 3) := by decide +kernel
theorem dX3_tell_30 : decode cX3_tell 30 = .ok (.if_icmp .ge 63, 3) := by decide +kernel
theorem dX3_tell_33 : decode cX3_tell 33 = .ok (.aload_n 1, 1) := by decide +kernel
theorem dX3_tell_34 : decode cX3_tell 34 = .ok (.getfield 19, 3) := by decide +kernel
theorem dX3_tell_37 : decode cX3_tell 37 = .ok (.invokevirtual 78, 3) := by decide +kernel
theorem dX3_tell_40 : decode cX3_tell 40 = .ok (.sipush 4096, 3) := by decide +kernel
theorem dX3_tell_43 : decode cX3_tell 43 = .ok (.if_icmp .gt 50, 3) := by decide +kernel
theorem dX3_tell_46 : decode cX3_tell 46 = .ok (.iload 5, 2) := by decide +kernel
theorem dX3_tell_48 : decode cX3_tell 48 = .ok (.iload_n 3, 1) := by decide +kernel
theorem dX3_tell_49 : decode cX3_tell 49 = .ok (.iadd, 1) := by decide +kernel
theorem dX3_tell_50 : decode cX3_tell 50 = .ok (.aload_n 0, 1) := by decide +kernel
theorem dX3_tell_51 : decode cX3_tell 51 = .ok (.getfield 15, 3) := by decide +kernel
theorem dX3_tell_54 : decode cX3_tell 54 = .ok (.invokestatic 81, 3) := by decide +kernel
theorem dX3_tell_57 : decode cX3_tell 57 = .ok (.istore 6, 2) := by decide +kernel
theorem dX3_tell_59 : decode cX3_tell 59 = .ok (.aload_n 1, 1) := by decide +kernel
theorem dX3_tell_60 : decode cX3_tell 60 = .ok (.getfield 19, 3) := by decide +kernel
theorem dX3_tell_63 : decode cX3_tell 63 = .ok (.iload_n 2, 1) := by decide +kernel
theorem dX3_tell_64 : decode cX3_tell 64 = .ok (.iload 6, 2) := by decide +kernel
theorem dX3_tell_66 : decode cX3_tell 66 = .ok (.iload 5, 2) := by decide +kernel
theorem dX3_tell_68 : decode cX3_tell 68 = .ok (.isub, 1) := by decide +kernel
theorem dX3_tell_69 : decode cX3_tell 69 = .ok (.invokestatic 50, 3) := by decide +kernel
theorem dX3_tell_72 : decode cX3_tell 72 = .ok (.aload_n 0, 1) := by decide +kernel
theorem dX3_tell_73 : decode cX3_tell 73 = .ok (.iload 5, 2) := by decide +kernel
theorem dX3_tell_75 : decode cX3_tell 75 = .ok (.iload 6, 2) := by decide +kernel
theorem dX3_tell_77 : decode cX3_tell 77 = .ok (.iload_n 2, 1) := by decide +kernel
theorem dX3_tell_78 : decode cX3_tell 78 = .ok (.invokevirtual 84, 3) := by decide +kernel
theorem dX3_tell_81 : decode cX3_tell 81 = .ok (.invokevirtual 88, 3) := by decide +kernel
theorem dX3_tell_84 : decode cX3_tell 84 = .ok (.iload 5, 2) := by decide +kernel
theorem dX3_tell_86 : decode cX3_tell 86 = .ok (.iload_n 3, 1) := by decide +kernel
theorem dX3_tell_87 : decode cX3_tell 87 = .ok (.iadd, 1) := by decide +kernel
theorem dX3_tell_88 : decode cX3_tell 88 = .ok (.istore 5, 2) := by decide +kernel
theorem dX3_tell_90 : decode cX3_tell 90 = .ok (.goto (-66), 3) := by decide +kernel
theorem dX3_tell_93 : decode cX3_tell 93 = .ok (.aload_n 1, 1) := by decide +kernel
theorem dX3_tell_94 : decode cX3_tell 94 = .ok (.iload 4, 2) := by decide +kernel
theorem dX3_tell_96 : decode cX3_tell 96 = .ok (.iconst 1, 1) := by decide +kernel
theorem dX3_tell_97 : decode cX3_tell 97 = .ok (.if_icmp .ne 7, 3) := by decide +kernel
theorem dX3_tell_100 : decode cX3_tell 100 = .ok (.iconst 1, 1) := by decide +kernel
theorem dX3_tell_101 : decode cX3_tell 101 = .ok (.goto 4, 3) := by decide +kernel
theorem dX3_tell_104 : decode cX3_tell 104 = .ok (.iconst 0, 1) := by decide +kernel
theorem dX3_tell_105 : decode cX3_tell 105 = .ok (.invokevirtual 92, 3) := by decide +kernel
theorem dX3_tell_108 : decode cX3_tell 108 = .ok (.return_, 1) := by decide +kernel
set_option maxRecDepth 20000 in
theorem ggX3_pieceBetween_X3_digitOf : GoodIn wsX3_pieceBetween wsX3_digitOf := goodIn_r _ [5] (by decide +kernel) (by decide +kernel)
set_option maxRecDepth 20000 in
theorem gX3_pieceBetween_X3_digitOf : GoodIn wsX3_pieceBetween (va_wsS RX3 65 yX3_digitOf wsX3_digitOf) := goodIn_app (goodIn_of _ (by decide +kernel)) ggX3_pieceBetween_X3_digitOf
theorem dX3_pieceBetween_0 : decode cX3_pieceBetween 0 = .ok (.iconst 0, 1) := by decide +kernel
theorem dX3_pieceBetween_1 : decode cX3_pieceBetween 1 = .ok (.istore 4, 2) := by decide +kernel
theorem dX3_pieceBetween_3 : decode cX3_pieceBetween 3 = .ok (.iload_n 1, 1) := by decide +kernel
theorem dX3_pieceBetween_4 : decode cX3_pieceBetween 4 = .ok (.istore 5, 2) := by decide +kernel
theorem dX3_pieceBetween_6 : decode cX3_pieceBetween 6 = .ok (.iload 5, 2) := by decide +kernel
theorem dX3_pieceBetween_8 : decode cX3_pieceBetween 8 = .ok (.iload_n 2, 1) := by decide +kernel
theorem dX3_pieceBetween_9 : decode cX3_pieceBetween 9 = .ok (.if_icmp .ge 26, 3) := by decide +kernel
theorem dX3_pieceBetween_12 : decode cX3_pieceBetween 12 = .ok (.iload 4, 2) := by decide +kernel
theorem dX3_pieceBetween_14 : decode cX3_pieceBetween 14 = .ok (.iload_n 3, 1) := by decide +kernel
theorem dX3_pieceBetween_15 : decode cX3_pieceBetween 15 = .ok (.imul, 1) := by decide +kernel
theorem dX3_pieceBetween_16 : decode cX3_pieceBetween 16 = .ok (.aload_n 0, 1) := by decide +kernel
theorem dX3_pieceBetween_17 : decode cX3_pieceBetween 17 = .ok (.getfield 9, 3) := by decide +kernel
theorem dX3_pieceBetween_20 : decode cX3_pieceBetween 20 = .ok (.iload 5, 2) := by decide +kernel
theorem dX3_pieceBetween_22 : decode cX3_pieceBetween 22 = .ok (.caload, 1) := by decide +kernel
theorem dX3_pieceBetween_23 : decode cX3_pieceBetween 23 = .ok (.invokestatic 65, 3) := by decide +kernel
theorem dX3_pieceBetween_26 : decode cX3_pieceBetween 26 = .ok (.iadd, 1) := by decide +kernel
theorem dX3_pieceBetween_27 : decode cX3_pieceBetween 27 = .ok (.istore 4, 2) := by decide +kernel
theorem dX3_pieceBetween_29 : decode cX3_pieceBetween 29 = .ok (.iinc 5 1, 3) := by decide +kernel
theorem dX3_pieceBetween_32 : decode cX3_pieceBetween 32 = .ok (.goto (-26), 3) := by decide +kernel
theorem dX3_pieceBetween_35 : decode cX3_pieceBetween 35 = .ok (.iload 4, 2) := by decide +kernel
theorem dX3_pieceBetween_37 : decode cX3_pieceBetween 37 = .ok (.ireturn, 1) := by decide +kernel
theorem dX3_digitsInLimb_0 : decode cX3_digitsInLimb 0 = .ok (.iconst 0, 1) := by decide +kernel
theorem dX3_digitsInLimb_1 : decode cX3_digitsInLimb 1 = .ok (.istore_n 1, 1) := by decide +kernel
theorem dX3_digitsInLimb_2 : decode cX3_digitsInLimb 2 = .ok (.iload_n 0, 1) := by decide +kernel
theorem dX3_digitsInLimb_3 : decode cX3_digitsInLimb 3 = .ok (.i2l, 1) := by decide +kernel
theorem dX3_digitsInLimb_4 : decode cX3_digitsInLimb 4 = .ok (.lstore_n 2, 1) := by decide +kernel
theorem dX3_digitsInLimb_5 : decode cX3_digitsInLimb 5 = .ok (.iconst 0, 1) := by decide +kernel
theorem dX3_digitsInLimb_6 : decode cX3_digitsInLimb 6 = .ok (.istore 4, 2) := by decide +kernel
theorem dX3_digitsInLimb_8 : decode cX3_digitsInLimb 8 = .ok (.iload 4, 2) := by decide +kernel
theorem dX3_digitsInLimb_10 : decode cX3_digitsInLimb 10 = .ok (.bipush 30, 2) := by decide +kernel
theorem dX3_digitsInLimb_12 : decode cX3_digitsInLimb 12 = .ok (.if_icmp .ge 25, 3) := by decide +kernel
theorem dX3_digitsInLimb_15 : decode cX3_digitsInLimb 15 = .ok (.lload_n 2, 1) := by decide +kernel
theorem dX3_digitsInLimb_16 : decode cX3_digitsInLimb 16 = .ok (.ldc2_w 96, 3) := by decide +kernel
theorem dX3_digitsInLimb_19 : decode cX3_digitsInLimb 19 = .ok (.lcmp, 1) := by decide +kernel
theorem dX3_digitsInLimb_20 : decode cX3_digitsInLimb 20 = .ok (.ifCond .gt 17, 3) := by decide +kernel
theorem dX3_digitsInLimb_23 : decode cX3_digitsInLimb 23 = .ok (.lload_n 2, 1) := by decide +kernel
theorem dX3_digitsInLimb_24 : decode cX3_digitsInLimb 24 = .ok (.iload_n 0, 1) := by decide +kernel
theorem dX3_digitsInLimb_25 : decode cX3_digitsInLimb 25 = .ok (.i2l, 1) := by decide +kernel
theorem dX3_digitsInLimb_26 : decode cX3_digitsInLimb 26 = .ok (.lmul, 1) := by decide +kernel
theorem dX3_digitsInLimb_27 : decode cX3_digitsInLimb 27 = .ok (.lstore_n 2, 1) := by decide +kernel
theorem dX3_digitsInLimb_28 : decode cX3_digitsInLimb 28 = .ok (.iinc 1 1, 3) := by decide +kernel
theorem dX3_digitsInLimb_31 : decode cX3_digitsInLimb 31 = .ok (.iinc 4 1, 3) := by decide +kernel
theorem dX3_digitsInLimb_34 : decode cX3_digitsInLimb 34 = .ok (.goto (-26), 3) := by decide +kernel
theorem dX3_digitsInLimb_37 : decode cX3_digitsInLimb 37 = .ok (.iload_n 1, 1) := by decide +kernel
theorem dX3_digitsInLimb_38 : decode cX3_digitsInLimb 38 = .ok (.ireturn, 1) := by decide +kernel
theorem dX3_powerOf_0 : decode cX3_powerOf 0 = .ok (.iconst 1, 1) := by decide +kernel
theorem dX3_powerOf_1 : decode cX3_powerOf 1 = .ok (.istore_n 2, 1) := by decide +kernel
theorem dX3_powerOf_2 : decode cX3_powerOf 2 = .ok (.iconst 0, 1) := by decide +kernel
theorem dX3_powerOf_3 : decode cX3_powerOf 3 = .ok (.istore_n 3, 1) := by decide +kernel
theorem dX3_powerOf_4 : decode cX3_powerOf 4 = .ok (.iload_n 3, 1) := by decide +kernel
theorem dX3_powerOf_5 : decode cX3_powerOf 5 = .ok (.iload_n 1, 1) := by decide +kernel
theorem dX3_powerOf_6 : decode cX3_powerOf 6 = .ok (.if_icmp .ge 13, 3) := by decide +kernel
theorem dX3_powerOf_9 : decode cX3_powerOf 9 = .ok (.iload_n 2, 1) := by decide +kernel
theorem dX3_powerOf_10 : decode cX3_powerOf 10 = .ok (.iload_n 0, 1) := by decide +kernel
theorem dX3_powerOf_11 : decode cX3_powerOf 11 = .ok (.imul, 1) := by decide +kernel
theorem dX3_powerOf_12 : decode cX3_powerOf 12 = .ok (.istore_n 2, 1) := by decide +kernel
theorem dX3_powerOf_13 : decode cX3_powerOf 13 = .ok (.iinc 3 1, 3) := by decide +kernel
theorem dX3_powerOf_16 : decode cX3_powerOf 16 = .ok (.goto (-12), 3) := by decide +kernel
theorem dX3_powerOf_19 : decode cX3_powerOf 19 = .ok (.iload_n 2, 1) := by decide +kernel
theorem dX3_powerOf_20 : decode cX3_powerOf 20 = .ok (.ireturn, 1) := by decide +kernel
theorem dX3_letterOf_0 : decode cX3_letterOf 0 = .ok (.iload_n 0, 1) := by decide +kernel
theorem dX3_letterOf_1 : decode cX3_letterOf 1 = .ok (.bipush 10, 2) := by decide +kernel
theorem dX3_letterOf_3 : decode cX3_letterOf 3 = .ok (.if_icmp .ge 10, 3) := by decide +kernel
theorem dX3_letterOf_6 : decode cX3_letterOf 6 = .ok (.bipush 48, 2) := by decide +kernel
theorem dX3_letterOf_8 : decode cX3_letterOf 8 = .ok (.iload_n 0, 1) := by decide +kernel
theorem dX3_letterOf_9 : decode cX3_letterOf 9 = .ok (.iadd, 1) := by decide +kernel
theorem dX3_letterOf_10 : decode cX3_letterOf 10 = .ok (.goto 10, 3) := by decide +kernel
theorem dX3_letterOf_13 : decode cX3_letterOf 13 = .ok (.bipush 97, 2) := by decide +kernel
theorem dX3_letterOf_15 : decode cX3_letterOf 15 = .ok (.iload_n 0, 1) := by decide +kernel
theorem dX3_letterOf_16 : decode cX3_letterOf 16 = .ok (.iadd, 1) := by decide +kernel
theorem dX3_letterOf_17 : decode cX3_letterOf 17 = .ok (.bipush 10, 2) := by decide +kernel
theorem dX3_letterOf_19 : decode cX3_letterOf 19 = .ok (.isub, 1) := by decide +kernel
theorem dX3_letterOf_20 : decode cX3_letterOf 20 = .ok (.i2c, 1) := by decide +kernel
theorem dX3_letterOf_21 : decode cX3_letterOf 21 = .ok (.ireturn, 1) := by decide +kernel
theorem dX3_digitOf_0 : decode cX3_digitOf 0 = .ok (.iload_n 0, 1) := by decide +kernel
theorem dX3_digitOf_1 : decode cX3_digitOf 1 = .ok (.bipush 48, 2) := by decide +kernel
theorem dX3_digitOf_3 : decode cX3_digitOf 3 = .ok (.if_icmp .lt 14, 3) := by decide +kernel
theorem dX3_digitOf_6 : decode cX3_digitOf 6 = .ok (.iload_n 0, 1) := by decide +kernel
theorem dX3_digitOf_7 : decode cX3_digitOf 7 = .ok (.bipush 57, 2) := by decide +kernel
theorem dX3_digitOf_9 : decode cX3_digitOf 9 = .ok (.if_icmp .gt 8, 3) := by decide +kernel
theorem dX3_digitOf_12 : decode cX3_digitOf 12 = .ok (.iload_n 0, 1) := by decide +kernel
theorem dX3_digitOf_13 : decode cX3_digitOf 13 = .ok (.bipush 48, 2) := by decide +kernel
theorem dX3_digitOf_15 : decode cX3_digitOf 15 = .ok (.isub, 1) := by decide +kernel
theorem dX3_digitOf_16 : decode cX3_digitOf 16 = .ok (.ireturn, 1) := by decide +kernel
theorem dX3_digitOf_17 : decode cX3_digitOf 17 = .ok (.iload_n 0, 1) := by decide +kernel
theorem dX3_digitOf_18 : decode cX3_digitOf 18 = .ok (.bipush 97, 2) := by decide +kernel
theorem dX3_digitOf_20 : decode cX3_digitOf 20 = .ok (.if_icmp .lt 17, 3) := by decide +kernel
theorem dX3_digitOf_23 : decode cX3_digitOf 23 = .ok (.iload_n 0, 1) := by decide +kernel
theorem dX3_digitOf_24 : decode cX3_digitOf 24 = .ok (.bipush 102, 2) := by decide +kernel
theorem dX3_digitOf_26 : decode cX3_digitOf 26 = .ok (.if_icmp .gt 11, 3) := by decide +kernel
theorem dX3_digitOf_29 : decode cX3_digitOf 29 = .ok (.iload_n 0, 1) := by decide +kernel
theorem dX3_digitOf_30 : decode cX3_digitOf 30 = .ok (.bipush 97, 2) := by decide +kernel
theorem dX3_digitOf_32 : decode cX3_digitOf 32 = .ok (.isub, 1) := by decide +kernel
theorem dX3_digitOf_33 : decode cX3_digitOf 33 = .ok (.bipush 10, 2) := by decide +kernel
theorem dX3_digitOf_35 : decode cX3_digitOf 35 = .ok (.iadd, 1) := by decide +kernel
theorem dX3_digitOf_36 : decode cX3_digitOf 36 = .ok (.ireturn, 1) := by decide +kernel
theorem dX3_digitOf_37 : decode cX3_digitOf 37 = .ok (.iload_n 0, 1) := by decide +kernel
theorem dX3_digitOf_38 : decode cX3_digitOf 38 = .ok (.bipush 65, 2) := by decide +kernel
theorem dX3_digitOf_40 : decode cX3_digitOf 40 = .ok (.if_icmp .lt 17, 3) := by decide +kernel
theorem dX3_digitOf_43 : decode cX3_digitOf 43 = .ok (.iload_n 0, 1) := by decide +kernel
theorem dX3_digitOf_44 : decode cX3_digitOf 44 = .ok (.bipush 70, 2) := by decide +kernel
theorem dX3_digitOf_46 : decode cX3_digitOf 46 = .ok (.if_icmp .gt 11, 3) := by decide +kernel
theorem dX3_digitOf_49 : decode cX3_digitOf 49 = .ok (.iload_n 0, 1) := by decide +kernel
theorem dX3_digitOf_50 : decode cX3_digitOf 50 = .ok (.bipush 65, 2) := by decide +kernel
theorem dX3_digitOf_52 : decode cX3_digitOf 52 = .ok (.isub, 1) := by decide +kernel
theorem dX3_digitOf_53 : decode cX3_digitOf 53 = .ok (.bipush 10, 2) := by decide +kernel
theorem dX3_digitOf_55 : decode cX3_digitOf 55 = .ok (.iadd, 1) := by decide +kernel
theorem dX3_digitOf_56 : decode cX3_digitOf 56 = .ok (.ireturn, 1) := by decide +kernel
theorem dX3_digitOf_57 : decode cX3_digitOf 57 = .ok (.iconst (-1), 1) := by decide +kernel
theorem dX3_digitOf_58 : decode cX3_digitOf 58 = .ok (.ireturn, 1) := by decide +kernel
set_option maxRecDepth 20000 in
theorem ggX4_init_X2_init : GoodIn wsX4_init wsX2_init := goodIn_r _ [9, 10, 2, 3, 11, 12, 13, 14] (by decide +kernel) (by decide +kernel)
set_option maxRecDepth 20000 in
theorem gX4_init_X2_init_n11 : GoodIn wsX4_init (wsX2_init) := ggX4_init_X2_init
theorem dX4_init_0 : decode cX4_init 0 = .ok (.aload_n 0, 1) := by decide +kernel
theorem dX4_init_1 : decode cX4_init 1 = .ok (.invokespecial 3, 3) := by decide +kernel
theorem dX4_init_4 : decode cX4_init 4 = .ok (.aload_n 0, 1) := by decide +kernel
theorem dX4_init_5 : decode cX4_init 5 = .ok (.new 9, 3) := by decide +kernel
theorem dX4_init_8 : decode cX4_init 8 = .ok (.dup, 1) := by decide +kernel
theorem dX4_init_9 : decode cX4_init 9 = .ok (.invokespecial 11, 3) := by decide +kernel
theorem dX4_init_12 : decode cX4_init 12 = .ok (.putfield 12, 3) := by decide +kernel
theorem dX4_init_15 : decode cX4_init 15 = .ok (.return_, 1) := by decide +kernel
set_option maxRecDepth 20000 in
theorem ggX4_take_X2_take : GoodIn wsX4_take wsX2_take := goodIn_r _ [7, 8, 9, 10, 11, 12, 13, 16, 17] (by decide +kernel) (by decide +kernel)
set_option maxRecDepth 20000 in
theorem gX4_take_X2_take : GoodIn wsX4_take (wsV RX4 18 RX2 yX2_take wsX2_take) := goodIn_app (goodIn_of _ (by decide +kernel)) ggX4_take_X2_take
theorem dX4_take_0 : decode cX4_take 0 = .ok (.aload_n 0, 1) := by decide +kernel
theorem dX4_take_1 : decode cX4_take 1 = .ok (.getfield 12, 3) := by decide +kernel
theorem dX4_take_4 : decode cX4_take 4 = .ok (.aload_n 1, 1) := by decide +kernel
theorem dX4_take_5 : decode cX4_take 5 = .ok (.getfield 12, 3) := by decide +kernel
theorem dX4_take_8 : decode cX4_take 8 = .ok (.invokevirtual 18, 3) := by decide +kernel
theorem dX4_take_11 : decode cX4_take 11 = .ok (.aload_n 0, 1) := by decide +kernel
theorem dX4_take_12 : decode cX4_take 12 = .ok (.aload_n 1, 1) := by decide +kernel
theorem dX4_take_13 : decode cX4_take 13 = .ok (.getfield 22, 3) := by decide +kernel
theorem dX4_take_16 : decode cX4_take 16 = .ok (.putfield 22, 3) := by decide +kernel
theorem dX4_take_19 : decode cX4_take 19 = .ok (.return_, 1) := by decide +kernel
set_option maxRecDepth 20000 in
theorem ggX4_takeLong_X2_takeUnsigned : GoodIn wsX4_takeLong wsX2_takeUnsigned := goodIn_r _ [7, 8, 9, 10, 11, 12, 6, 13, 14, 15, 16, 17, 18, 19, 20, 21, 24, 25] (by decide +kernel) (by decide +kernel)
set_option maxRecDepth 20000 in
theorem gX4_takeLong_X2_takeUnsigned : GoodIn wsX4_takeLong (wsV RX4 26 RX2 yX2_takeUnsigned wsX2_takeUnsigned) := goodIn_app (goodIn_of _ (by decide +kernel)) ggX4_takeLong_X2_takeUnsigned
theorem dX4_takeLong_0 : decode cX4_takeLong 0 = .ok (.aload_n 0, 1) := by decide +kernel
theorem dX4_takeLong_1 : decode cX4_takeLong 1 = .ok (.getfield 12, 3) := by decide +kernel
theorem dX4_takeLong_4 : decode cX4_takeLong 4 = .ok (.lload_n 1, 1) := by decide +kernel
theorem dX4_takeLong_5 : decode cX4_takeLong 5 = .ok (.lconst 0, 1) := by decide +kernel
theorem dX4_takeLong_6 : decode cX4_takeLong 6 = .ok (.lcmp, 1) := by decide +kernel
theorem dX4_takeLong_7 : decode cX4_takeLong 7 = .ok (.ifCond .ge 8, 3) := by decide +kernel
theorem dX4_takeLong_10 : decode cX4_takeLong 10 = .ok (.lload_n 1, 1) := by decide +kernel
theorem dX4_takeLong_11 : decode cX4_takeLong 11 = .ok (.lneg, 1) := by decide +kernel
theorem dX4_takeLong_12 : decode cX4_takeLong 12 = .ok (.goto 4, 3) := by decide +kernel
theorem dX4_takeLong_15 : decode cX4_takeLong 15 = .ok (.lload_n 1, 1) := by decide +kernel
theorem dX4_takeLong_16 : decode cX4_takeLong 16 = .ok (.invokevirtual 26, 3) := by decide +kernel
theorem dX4_takeLong_19 : decode cX4_takeLong 19 = .ok (.aload_n 0, 1) := by decide +kernel
theorem dX4_takeLong_20 : decode cX4_takeLong 20 = .ok (.lload_n 1, 1) := by decide +kernel
theorem dX4_takeLong_21 : decode cX4_takeLong 21 = .ok (.lconst 0, 1) := by decide +kernel
theorem dX4_takeLong_22 : decode cX4_takeLong 22 = .ok (.lcmp, 1) := by decide +kernel
theorem dX4_takeLong_23 : decode cX4_takeLong 23 = .ok (.ifCond .ge 7, 3) := by decide +kernel
theorem dX4_takeLong_26 : decode cX4_takeLong 26 = .ok (.iconst 1, 1) := by decide +kernel
theorem dX4_takeLong_27 : decode cX4_takeLong 27 = .ok (.goto 4, 3) := by decide +kernel
theorem dX4_takeLong_30 : decode cX4_takeLong 30 = .ok (.iconst 0, 1) := by decide +kernel
theorem dX4_takeLong_31 : decode cX4_takeLong 31 = .ok (.putfield 22, 3) := by decide +kernel
theorem dX4_takeLong_34 : decode cX4_takeLong 34 = .ok (.return_, 1) := by decide +kernel
set_option maxRecDepth 20000 in
theorem ggX4_takeSign_X2_isZero : GoodIn wsX4_takeSign wsX2_isZero := goodIn_r _ [7, 8, 11, 12] (by decide +kernel) (by decide +kernel)
set_option maxRecDepth 20000 in
theorem gX4_takeSign_X2_isZero : GoodIn wsX4_takeSign (wsV RX4 30 RX2 yX2_isZero wsX2_isZero) := goodIn_app (goodIn_of _ (by decide +kernel)) ggX4_takeSign_X2_isZero
theorem dX4_takeSign_0 : decode cX4_takeSign 0 = .ok (.aload_n 0, 1) := by decide +kernel
theorem dX4_takeSign_1 : decode cX4_takeSign 1 = .ok (.iload_n 1, 1) := by decide +kernel
theorem dX4_takeSign_2 : decode cX4_takeSign 2 = .ok (.ifCond .eq 17, 3) := by decide +kernel
theorem dX4_takeSign_5 : decode cX4_takeSign 5 = .ok (.aload_n 0, 1) := by decide +kernel
theorem dX4_takeSign_6 : decode cX4_takeSign 6 = .ok (.getfield 12, 3) := by decide +kernel
theorem dX4_takeSign_9 : decode cX4_takeSign 9 = .ok (.invokevirtual 30, 3) := by decide +kernel
theorem dX4_takeSign_12 : decode cX4_takeSign 12 = .ok (.ifCond .ne 7, 3) := by decide +kernel
theorem dX4_takeSign_15 : decode cX4_takeSign 15 = .ok (.iconst 1, 1) := by decide +kernel
theorem dX4_takeSign_16 : decode cX4_takeSign 16 = .ok (.goto 4, 3) := by decide +kernel
theorem dX4_takeSign_19 : decode cX4_takeSign 19 = .ok (.iconst 0, 1) := by decide +kernel
theorem dX4_takeSign_20 : decode cX4_takeSign 20 = .ok (.putfield 22, 3) := by decide +kernel
theorem dX4_takeSign_23 : decode cX4_takeSign 23 = .ok (.return_, 1) := by decide +kernel
set_option maxRecDepth 20000 in
theorem ggX4_takeSum_X2_takeSum : GoodIn wsX4_takeSum wsX2_takeSum := goodIn_r _ [7, 8, 9, 10, 11, 12, 13, 14, 15, 16, 17, 18, 19, 20, 6, 21, 22, 23, 24, 25, 45, 46] (by decide +kernel) (by decide +kernel)
set_option maxRecDepth 20000 in
theorem gX4_takeSum_X2_takeSum : GoodIn wsX4_takeSum (wsV RX4 34 RX2 yX2_takeSum wsX2_takeSum) := goodIn_app (goodIn_of _ (by decide +kernel)) ggX4_takeSum_X2_takeSum
set_option maxRecDepth 20000 in
theorem ggX4_takeSum_X4_takeSign : GoodIn wsX4_takeSum wsX4_takeSign := goodIn_r _ [30, 2, 1, 31, 32, 33, 6, 34, 8, 43, 44, 45, 46] (by decide +kernel) (by decide +kernel)
set_option maxRecDepth 20000 in
theorem gX4_takeSum_X4_takeSign : GoodIn wsX4_takeSum (wsV RX4 38 RX4 yX4_takeSign wsX4_takeSign) := goodIn_app (goodIn_of _ (by decide +kernel)) ggX4_takeSum_X4_takeSign
set_option maxRecDepth 20000 in
theorem ggX4_takeSum_X2_order : GoodIn wsX4_takeSum wsX2_order := goodIn_r _ [38, 8, 16, 45, 46] (by decide +kernel) (by decide +kernel)
set_option maxRecDepth 20000 in
theorem gX4_takeSum_X2_order : GoodIn wsX4_takeSum (wsV RX4 42 RX2 yX2_order wsX2_order) := goodIn_app (goodIn_of _ (by decide +kernel)) ggX4_takeSum_X2_order
set_option maxRecDepth 20000 in
theorem ggX4_takeSum_X2_takeDifference : GoodIn wsX4_takeSum wsX2_takeDifference := goodIn_r _ [42, 8, 16, 17, 18, 19, 20, 6, 21, 22, 23, 24, 25, 13, 14, 11, 15, 9, 10, 12, 45, 46] (by decide +kernel) (by decide +kernel)
set_option maxRecDepth 20000 in
theorem gX4_takeSum_X2_takeDifference : GoodIn wsX4_takeSum (wsV RX4 46 RX2 yX2_takeDifference wsX2_takeDifference) := goodIn_app (goodIn_of _ (by decide +kernel)) ggX4_takeSum_X2_takeDifference
theorem dX4_takeSum_0 : decode cX4_takeSum 0 = .ok (.aload_n 1, 1) := by decide +kernel
theorem dX4_takeSum_1 : decode cX4_takeSum 1 = .ok (.getfield 22, 3) := by decide +kernel
theorem dX4_takeSum_4 : decode cX4_takeSum 4 = .ok (.iload_n 3, 1) := by decide +kernel
theorem dX4_takeSum_5 : decode cX4_takeSum 5 = .ok (.if_icmp .ne 26, 3) := by decide +kernel
theorem dX4_takeSum_8 : decode cX4_takeSum 8 = .ok (.aload_n 0, 1) := by decide +kernel
theorem dX4_takeSum_9 : decode cX4_takeSum 9 = .ok (.getfield 12, 3) := by decide +kernel
theorem dX4_takeSum_12 : decode cX4_takeSum 12 = .ok (.aload_n 1, 1) := by decide +kernel
theorem dX4_takeSum_13 : decode cX4_takeSum 13 = .ok (.getfield 12, 3) := by decide +kernel
theorem dX4_takeSum_16 : decode cX4_takeSum 16 = .ok (.aload_n 2, 1) := by decide +kernel
theorem dX4_takeSum_17 : decode cX4_takeSum 17 = .ok (.getfield 12, 3) := by decide +kernel
theorem dX4_takeSum_20 : decode cX4_takeSum 20 = .ok (.invokevirtual 34, 3) := by decide +kernel
theorem dX4_takeSum_23 : decode cX4_takeSum 23 = .ok (.aload_n 0, 1) := by decide +kernel
theorem dX4_takeSum_24 : decode cX4_takeSum 24 = .ok (.iload_n 3, 1) := by decide +kernel
theorem dX4_takeSum_25 : decode cX4_takeSum 25 = .ok (.invokevirtual 38, 3) := by decide +kernel
theorem dX4_takeSum_28 : decode cX4_takeSum 28 = .ok (.goto 63, 3) := by decide +kernel
theorem dX4_takeSum_31 : decode cX4_takeSum 31 = .ok (.aload_n 1, 1) := by decide +kernel
theorem dX4_takeSum_32 : decode cX4_takeSum 32 = .ok (.getfield 12, 3) := by decide +kernel
theorem dX4_takeSum_35 : decode cX4_takeSum 35 = .ok (.aload_n 2, 1) := by decide +kernel
theorem dX4_takeSum_36 : decode cX4_takeSum 36 = .ok (.getfield 12, 3) := by decide +kernel
theorem dX4_takeSum_39 : decode cX4_takeSum 39 = .ok (.invokevirtual 42, 3) := by decide +kernel
theorem dX4_takeSum_42 : decode cX4_takeSum 42 = .ok (.ifCond .lt 29, 3) := by decide +kernel
theorem dX4_takeSum_45 : decode cX4_takeSum 45 = .ok (.aload_n 0, 1) := by decide +kernel
theorem dX4_takeSum_46 : decode cX4_takeSum 46 = .ok (.getfield 12, 3) := by decide +kernel
theorem dX4_takeSum_49 : decode cX4_takeSum 49 = .ok (.aload_n 1, 1) := by decide +kernel
theorem dX4_takeSum_50 : decode cX4_takeSum 50 = .ok (.getfield 12, 3) := by decide +kernel
theorem dX4_takeSum_53 : decode cX4_takeSum 53 = .ok (.aload_n 2, 1) := by decide +kernel
theorem dX4_takeSum_54 : decode cX4_takeSum 54 = .ok (.getfield 12, 3) := by decide +kernel
theorem dX4_takeSum_57 : decode cX4_takeSum 57 = .ok (.invokevirtual 46, 3) := by decide +kernel
theorem dX4_takeSum_60 : decode cX4_takeSum 60 = .ok (.aload_n 0, 1) := by decide +kernel
theorem dX4_takeSum_61 : decode cX4_takeSum 61 = .ok (.aload_n 1, 1) := by decide +kernel
theorem dX4_takeSum_62 : decode cX4_takeSum 62 = .ok (.getfield 22, 3) := by decide +kernel
theorem dX4_takeSum_65 : decode cX4_takeSum 65 = .ok (.invokevirtual 38, 3) := by decide +kernel
theorem dX4_takeSum_68 : decode cX4_takeSum 68 = .ok (.goto 23, 3) := by decide +kernel
theorem dX4_takeSum_71 : decode cX4_takeSum 71 = .ok (.aload_n 0, 1) := by decide +kernel
theorem dX4_takeSum_72 : decode cX4_takeSum 72 = .ok (.getfield 12, 3) := by decide +kernel
theorem dX4_takeSum_75 : decode cX4_takeSum 75 = .ok (.aload_n 2, 1) := by decide +kernel
theorem dX4_takeSum_76 : decode cX4_takeSum 76 = .ok (.getfield 12, 3) := by decide +kernel
theorem dX4_takeSum_79 : decode cX4_takeSum 79 = .ok (.aload_n 1, 1) := by decide +kernel
theorem dX4_takeSum_80 : decode cX4_takeSum 80 = .ok (.getfield 12, 3) := by decide +kernel
theorem dX4_takeSum_83 : decode cX4_takeSum 83 = .ok (.invokevirtual 46, 3) := by decide +kernel
theorem dX4_takeSum_86 : decode cX4_takeSum 86 = .ok (.aload_n 0, 1) := by decide +kernel
theorem dX4_takeSum_87 : decode cX4_takeSum 87 = .ok (.iload_n 3, 1) := by decide +kernel
theorem dX4_takeSum_88 : decode cX4_takeSum 88 = .ok (.invokevirtual 38, 3) := by decide +kernel
theorem dX4_takeSum_91 : decode cX4_takeSum 91 = .ok (.return_, 1) := by decide +kernel
set_option maxRecDepth 20000 in
theorem ggX4_takeProduct_X2_bitLength : GoodIn wsX4_takeProduct wsX2_bitLength := goodIn_r _ [7, 8, 9, 10, 11, 6, 12, 13, 14, 15, 16, 17, 18, 19, 20, 21, 22, 54, 55] (by decide +kernel) (by decide +kernel)
set_option maxRecDepth 20000 in
theorem gX4_takeProduct_X2_bitLength : GoodIn wsX4_takeProduct (wsV RX4 49 RX2 yX2_bitLength wsX2_bitLength) := goodIn_app (goodIn_of _ (by decide +kernel)) ggX4_takeProduct_X2_bitLength
set_option maxRecDepth 20000 in
theorem ggX4_takeProduct_X2_takeProduct : GoodIn wsX4_takeProduct wsX2_takeProduct := goodIn_r _ [26, 8, 27, 28, 29, 30, 17, 31, 32, 33, 6, 34, 35, 36, 37, 38, 39, 40, 41, 42, 54, 55] (by decide +kernel) (by decide +kernel)
set_option maxRecDepth 20000 in
theorem gX4_takeProduct_X2_takeProduct : GoodIn wsX4_takeProduct (wsV RX4 53 RX2 yX2_takeProduct wsX2_takeProduct) := goodIn_app (goodIn_of _ (by decide +kernel)) ggX4_takeProduct_X2_takeProduct
set_option maxRecDepth 20000 in
theorem ggX4_takeProduct_X4_takeSign : GoodIn wsX4_takeProduct wsX4_takeSign := goodIn_r _ [47, 1, 2, 48, 49, 50, 6, 51, 8, 52, 53, 54, 55] (by decide +kernel) (by decide +kernel)
set_option maxRecDepth 20000 in
theorem gX4_takeProduct_X4_takeSign : GoodIn wsX4_takeProduct (wsV RX4 38 RX4 yX4_takeSign wsX4_takeSign) := goodIn_app (goodIn_of _ (by decide +kernel)) ggX4_takeProduct_X4_takeSign
theorem dX4_takeProduct_0 : decode cX4_takeProduct 0 = .ok (.aload_n 1, 1) := by decide +kernel
theorem dX4_takeProduct_1 : decode cX4_takeProduct 1 = .ok (.getfield 12, 3) := by decide +kernel
theorem dX4_takeProduct_4 : decode cX4_takeProduct 4 = .ok (.invokevirtual 49, 3) := by decide +kernel
theorem dX4_takeProduct_7 : decode cX4_takeProduct 7 = .ok (.aload_n 2, 1) := by decide +kernel
theorem dX4_takeProduct_8 : decode cX4_takeProduct 8 = .ok (.getfield 12, 3) := by decide +kernel
theorem dX4_takeProduct_11 : decode cX4_takeProduct 11 = .ok (.invokevirtual 49, 3) := by decide +kernel
theorem dX4_takeProduct_14 : decode cX4_takeProduct 14 = .ok (.iadd, 1) := by decide +kernel
theorem dX4_takeProduct_15 : decode cX4_takeProduct 15 = .ok (.sipush 4097, 3) := by decide +kernel
theorem dX4_takeProduct_18 : decode cX4_takeProduct 18 = .ok (.if_icmp .le 5, 3) := by decide +kernel
theorem dX4_takeProduct_21 : decode cX4_takeProduct 21 = .ok (.iconst 0, 1) := by decide +kernel
theorem dX4_takeProduct_22 : decode cX4_takeProduct 22 = .ok (.ireturn, 1) := by decide +kernel
theorem dX4_takeProduct_23 : decode cX4_takeProduct 23 = .ok (.aload_n 0, 1) := by decide +kernel
theorem dX4_takeProduct_24 : decode cX4_takeProduct 24 = .ok (.getfield 12, 3) := by decide +kernel
theorem dX4_takeProduct_27 : decode cX4_takeProduct 27 = .ok (.aload_n 1, 1) := by decide +kernel
theorem dX4_takeProduct_28 : decode cX4_takeProduct 28 = .ok (.getfield 12, 3) := by decide +kernel
theorem dX4_takeProduct_31 : decode cX4_takeProduct 31 = .ok (.aload_n 2, 1) := by decide +kernel
theorem dX4_takeProduct_32 : decode cX4_takeProduct 32 = .ok (.getfield 12, 3) := by decide +kernel
theorem dX4_takeProduct_35 : decode cX4_takeProduct 35 = .ok (.invokevirtual 53, 3) := by decide +kernel
theorem dX4_takeProduct_38 : decode cX4_takeProduct 38 = .ok (.aload_n 0, 1) := by decide +kernel
theorem dX4_takeProduct_39 : decode cX4_takeProduct 39 = .ok (.aload_n 1, 1) := by decide +kernel
theorem dX4_takeProduct_40 : decode cX4_takeProduct 40 = .ok (.getfield 22, 3) := by decide +kernel
theorem dX4_takeProduct_43 : decode cX4_takeProduct 43 = .ok (.aload_n 2, 1) := by decide +kernel
theorem dX4_takeProduct_44 : decode cX4_takeProduct 44 = .ok (.getfield 22, 3) := by decide +kernel
theorem dX4_takeProduct_47 : decode cX4_takeProduct 47 = .ok (.if_icmp .eq 7, 3) := by decide +kernel
theorem dX4_takeProduct_50 : decode cX4_takeProduct 50 = .ok (.iconst 1, 1) := by decide +kernel
theorem dX4_takeProduct_51 : decode cX4_takeProduct 51 = .ok (.goto 4, 3) := by decide +kernel
theorem dX4_takeProduct_54 : decode cX4_takeProduct 54 = .ok (.iconst 0, 1) := by decide +kernel
theorem dX4_takeProduct_55 : decode cX4_takeProduct 55 = .ok (.invokevirtual 38, 3) := by decide +kernel
theorem dX4_takeProduct_58 : decode cX4_takeProduct 58 = .ok (.iconst 1, 1) := by decide +kernel
theorem dX4_takeProduct_59 : decode cX4_takeProduct 59 = .ok (.ireturn, 1) := by decide +kernel
set_option maxRecDepth 20000 in
theorem ggX4_direction_X2_isZero : GoodIn wsX4_direction wsX2_isZero := goodIn_r _ [7, 8, 11, 12] (by decide +kernel) (by decide +kernel)
set_option maxRecDepth 20000 in
theorem gX4_direction_X2_isZero : GoodIn wsX4_direction (wsV RX4 30 RX2 yX2_isZero wsX2_isZero) := goodIn_app (goodIn_of _ (by decide +kernel)) ggX4_direction_X2_isZero
theorem dX4_direction_0 : decode cX4_direction 0 = .ok (.aload_n 0, 1) := by decide +kernel
theorem dX4_direction_1 : decode cX4_direction 1 = .ok (.getfield 12, 3) := by decide +kernel
theorem dX4_direction_4 : decode cX4_direction 4 = .ok (.invokevirtual 30, 3) := by decide +kernel
theorem dX4_direction_7 : decode cX4_direction 7 = .ok (.ifCond .eq 5, 3) := by decide +kernel
theorem dX4_direction_10 : decode cX4_direction 10 = .ok (.iconst 0, 1) := by decide +kernel
theorem dX4_direction_11 : decode cX4_direction 11 = .ok (.ireturn, 1) := by decide +kernel
theorem dX4_direction_12 : decode cX4_direction 12 = .ok (.aload_n 0, 1) := by decide +kernel
theorem dX4_direction_13 : decode cX4_direction 13 = .ok (.getfield 22, 3) := by decide +kernel
theorem dX4_direction_16 : decode cX4_direction 16 = .ok (.ifCond .eq 7, 3) := by decide +kernel
theorem dX4_direction_19 : decode cX4_direction 19 = .ok (.iconst (-1), 1) := by decide +kernel
theorem dX4_direction_20 : decode cX4_direction 20 = .ok (.goto 4, 3) := by decide +kernel
theorem dX4_direction_23 : decode cX4_direction 23 = .ok (.iconst 1, 1) := by decide +kernel
theorem dX4_direction_24 : decode cX4_direction 24 = .ok (.ireturn, 1) := by decide +kernel
set_option maxRecDepth 20000 in
theorem ggX4_order_X2_order : GoodIn wsX4_order wsX2_order := goodIn_r _ [7, 8, 9, 12, 13] (by decide +kernel) (by decide +kernel)
set_option maxRecDepth 20000 in
theorem gX4_order_X2_order : GoodIn wsX4_order (wsV RX4 42 RX2 yX2_order wsX2_order) := goodIn_app (goodIn_of _ (by decide +kernel)) ggX4_order_X2_order
theorem dX4_order_0 : decode cX4_order 0 = .ok (.aload_n 0, 1) := by decide +kernel
theorem dX4_order_1 : decode cX4_order 1 = .ok (.getfield 22, 3) := by decide +kernel
theorem dX4_order_4 : decode cX4_order 4 = .ok (.aload_n 1, 1) := by decide +kernel
theorem dX4_order_5 : decode cX4_order 5 = .ok (.getfield 22, 3) := by decide +kernel
theorem dX4_order_8 : decode cX4_order 8 = .ok (.if_icmp .eq 16, 3) := by decide +kernel
theorem dX4_order_11 : decode cX4_order 11 = .ok (.aload_n 0, 1) := by decide +kernel
theorem dX4_order_12 : decode cX4_order 12 = .ok (.getfield 22, 3) := by decide +kernel
theorem dX4_order_15 : decode cX4_order 15 = .ok (.ifCond .eq 7, 3) := by decide +kernel
theorem dX4_order_18 : decode cX4_order 18 = .ok (.iconst (-1), 1) := by decide +kernel
theorem dX4_order_19 : decode cX4_order 19 = .ok (.goto 4, 3) := by decide +kernel
theorem dX4_order_22 : decode cX4_order 22 = .ok (.iconst 1, 1) := by decide +kernel
theorem dX4_order_23 : decode cX4_order 23 = .ok (.ireturn, 1) := by decide +kernel
theorem dX4_order_24 : decode cX4_order 24 = .ok (.aload_n 0, 1) := by decide +kernel
theorem dX4_order_25 : decode cX4_order 25 = .ok (.getfield 22, 3) := by decide +kernel
theorem dX4_order_28 : decode cX4_order 28 = .ok (.ifCond .eq 17, 3) := by decide +kernel
theorem dX4_order_31 : decode cX4_order 31 = .ok (.aload_n 1, 1) := by decide +kernel
theorem dX4_order_32 : decode cX4_order 32 = .ok (.getfield 12, 3) := by decide +kernel
theorem dX4_order_35 : decode cX4_order 35 = .ok (.aload_n 0, 1) := by decide +kernel
theorem dX4_order_36 : decode cX4_order 36 = .ok (.getfield 12, 3) := by decide +kernel
theorem dX4_order_39 : decode cX4_order 39 = .ok (.invokevirtual 42, 3) := by decide +kernel
theorem dX4_order_42 : decode cX4_order 42 = .ok (.goto 14, 3) := by decide +kernel
theorem dX4_order_45 : decode cX4_order 45 = .ok (.aload_n 0, 1) := by decide +kernel
theorem dX4_order_46 : decode cX4_order 46 = .ok (.getfield 12, 3) := by decide +kernel
theorem dX4_order_49 : decode cX4_order 49 = .ok (.aload_n 1, 1) := by decide +kernel
theorem dX4_order_50 : decode cX4_order 50 = .ok (.getfield 12, 3) := by decide +kernel
theorem dX4_order_53 : decode cX4_order 53 = .ok (.invokevirtual 42, 3) := by decide +kernel
theorem dX4_order_56 : decode cX4_order 56 = .ok (.ireturn, 1) := by decide +kernel
set_option maxRecDepth 20000 in
theorem ggX4_isLong_X2_bitLength : GoodIn wsX4_isLong wsX2_bitLength := goodIn_r _ [7, 8, 9, 10, 11, 6, 12, 13, 14, 15, 16, 17, 18, 19, 20, 21, 22, 29, 30] (by decide +kernel) (by decide +kernel)
set_option maxRecDepth 20000 in
theorem gX4_isLong_X2_bitLength : GoodIn wsX4_isLong (wsV RX4 49 RX2 yX2_bitLength wsX2_bitLength) := goodIn_app (goodIn_of _ (by decide +kernel)) ggX4_isLong_X2_bitLength
set_option maxRecDepth 20000 in
theorem ggX4_isLong_X2_anyBitBelow : GoodIn wsX4_isLong wsX2_anyBitBelow := goodIn_r _ [26, 8, 17, 13, 14, 15, 6, 16, 29, 30] (by decide +kernel) (by decide +kernel)
set_option maxRecDepth 20000 in
theorem gX4_isLong_X2_anyBitBelow : GoodIn wsX4_isLong (wsV RX4 56 RX2 yX2_anyBitBelow wsX2_anyBitBelow) := goodIn_app (goodIn_of _ (by decide +kernel)) ggX4_isLong_X2_anyBitBelow
theorem dX4_isLong_0 : decode cX4_isLong 0 = .ok (.aload_n 0, 1) := by decide +kernel
theorem dX4_isLong_1 : decode cX4_isLong 1 = .ok (.getfield 12, 3) := by decide +kernel
theorem dX4_isLong_4 : decode cX4_isLong 4 = .ok (.invokevirtual 49, 3) := by decide +kernel
theorem dX4_isLong_7 : decode cX4_isLong 7 = .ok (.istore_n 1, 1) := by decide +kernel
theorem dX4_isLong_8 : decode cX4_isLong 8 = .ok (.aload_n 0, 1) := by decide +kernel
theorem dX4_isLong_9 : decode cX4_isLong 9 = .ok (.getfield 22, 3) := by decide +kernel
theorem dX4_isLong_12 : decode cX4_isLong 12 = .ok (.ifCond .eq 25, 3) := by decide +kernel
theorem dX4_isLong_15 : decode cX4_isLong 15 = .ok (.iload_n 1, 1) := by decide +kernel
theorem dX4_isLong_16 : decode cX4_isLong 16 = .ok (.bipush 64, 2) := by decide +kernel
theorem dX4_isLong_18 : decode cX4_isLong 18 = .ok (.if_icmp .ne 19, 3) := by decide +kernel
theorem dX4_isLong_21 : decode cX4_isLong 21 = .ok (.aload_n 0, 1) := by decide +kernel
theorem dX4_isLong_22 : decode cX4_isLong 22 = .ok (.getfield 12, 3) := by decide +kernel
theorem dX4_isLong_25 : decode cX4_isLong 25 = .ok (.bipush 63, 2) := by decide +kernel
theorem dX4_isLong_27 : decode cX4_isLong 27 = .ok (.invokevirtual 56, 3) := by decide +kernel
theorem dX4_isLong_30 : decode cX4_isLong 30 = .ok (.ifCond .ne 7, 3) := by decide +kernel
theorem dX4_isLong_33 : decode cX4_isLong 33 = .ok (.iconst 1, 1) := by decide +kernel
theorem dX4_isLong_34 : decode cX4_isLong 34 = .ok (.goto 4, 3) := by decide +kernel
theorem dX4_isLong_37 : decode cX4_isLong 37 = .ok (.iconst 0, 1) := by decide +kernel
theorem dX4_isLong_38 : decode cX4_isLong 38 = .ok (.istore_n 2, 1) := by decide +kernel
theorem dX4_isLong_39 : decode cX4_isLong 39 = .ok (.iload_n 1, 1) := by decide +kernel
theorem dX4_isLong_40 : decode cX4_isLong 40 = .ok (.bipush 64, 2) := by decide +kernel
theorem dX4_isLong_42 : decode cX4_isLong 42 = .ok (.if_icmp .lt 7, 3) := by decide +kernel
theorem dX4_isLong_45 : decode cX4_isLong 45 = .ok (.iload_n 2, 1) := by decide +kernel
theorem dX4_isLong_46 : decode cX4_isLong 46 = .ok (.ifCond .eq 7, 3) := by decide +kernel
theorem dX4_isLong_49 : decode cX4_isLong 49 = .ok (.iconst 1, 1) := by decide +kernel
theorem dX4_isLong_50 : decode cX4_isLong 50 = .ok (.goto 4, 3) := by decide +kernel
theorem dX4_isLong_53 : decode cX4_isLong 53 = .ok (.iconst 0, 1) := by decide +kernel
theorem dX4_isLong_54 : decode cX4_isLong 54 = .ok (.ireturn, 1) := by decide +kernel
set_option maxRecDepth 20000 in
theorem ggX4_asLong_X2_lowestLong : GoodIn wsX4_asLong wsX2_lowestLong := goodIn_r _ [7, 8, 9, 10, 6, 11, 12, 13, 16, 17] (by decide +kernel) (by decide +kernel)
set_option maxRecDepth 20000 in
theorem gX4_asLong_X2_lowestLong : GoodIn wsX4_asLong (wsV RX4 60 RX2 yX2_lowestLong wsX2_lowestLong) := goodIn_app (goodIn_of _ (by decide +kernel)) ggX4_asLong_X2_lowestLong
theorem dX4_asLong_0 : decode cX4_asLong 0 = .ok (.aload_n 0, 1) := by decide +kernel
theorem dX4_asLong_1 : decode cX4_asLong 1 = .ok (.getfield 22, 3) := by decide +kernel
theorem dX4_asLong_4 : decode cX4_asLong 4 = .ok (.ifCond .eq 14, 3) := by decide +kernel
theorem dX4_asLong_7 : decode cX4_asLong 7 = .ok (.aload_n 0, 1) := by decide +kernel
theorem dX4_asLong_8 : decode cX4_asLong 8 = .ok (.getfield 12, 3) := by decide +kernel
theorem dX4_asLong_11 : decode cX4_asLong 11 = .ok (.invokevirtual 60, 3) := by decide +kernel
theorem dX4_asLong_14 : decode cX4_asLong 14 = .ok (.lneg, 1) := by decide +kernel
theorem dX4_asLong_15 : decode cX4_asLong 15 = .ok (.goto 10, 3) := by decide +kernel
theorem dX4_asLong_18 : decode cX4_asLong 18 = .ok (.aload_n 0, 1) := by decide +kernel
theorem dX4_asLong_19 : decode cX4_asLong 19 = .ok (.getfield 12, 3) := by decide +kernel
theorem dX4_asLong_22 : decode cX4_asLong 22 = .ok (.invokevirtual 60, 3) := by decide +kernel
theorem dX4_asLong_25 : decode cX4_asLong 25 = .ok (.lreturn, 1) := by decide +kernel
set_option maxRecDepth 20000 in
theorem ggX5_init_X4_init : GoodIn wsX5_init wsX4_init := goodIn_r _ [23, 24, 2, 3, 25, 26, 27, 28, 29, 30, 31, 32, 33, 71, 72, 58, 59] (by decide +kernel) (by decide +kernel)
set_option maxRecDepth 20000 in
theorem gX5_init_X4_init_n15 : GoodIn wsX5_init (wsX4_init) := ggX5_init_X4_init
set_option maxRecDepth 20000 in
theorem ggX5_init_X1_init : GoodIn wsX5_init wsX1_init := goodIn_r _ [35, 36, 2, 3, 37, 26, 27, 38, 39, 40, 29, 30, 31, 32, 33, 71, 72, 60, 61, 62] (by decide +kernel) (by decide +kernel)
set_option maxRecDepth 20000 in
theorem gX5_init_X1_init_n25 : GoodIn wsX5_init (wsX1_init) := ggX5_init_X1_init
set_option maxRecDepth 20000 in
theorem ggX5_init_X0_init : GoodIn wsX5_init wsX0_init := goodIn_r _ [42, 43, 2, 3, 44, 26, 27, 45, 46, 29, 30, 31, 32, 33, 71, 72, 63, 64, 65, 66, 67, 68] (by decide +kernel) (by decide +kernel)
set_option maxRecDepth 20000 in
theorem gX5_init_X0_init_n32 : GoodIn wsX5_init (wsX0_init) := ggX5_init_X0_init
set_option maxRecDepth 20000 in
theorem ggX5_init_X3_init : GoodIn wsX5_init wsX3_init := goodIn_r _ [48, 49, 2, 3, 50, 51, 69, 70] (by decide +kernel) (by decide +kernel)
set_option maxRecDepth 20000 in
theorem gX5_init_X3_init_n39 : GoodIn wsX5_init (wsX3_init) := ggX5_init_X3_init
theorem dX5_init_0 : decode cX5_init 0 = .ok (.aload_n 0, 1) := by decide +kernel
theorem dX5_init_1 : decode cX5_init 1 = .ok (.invokespecial 3, 3) := by decide +kernel
theorem dX5_init_4 : decode cX5_init 4 = .ok (.aload_n 0, 1) := by decide +kernel
theorem dX5_init_5 : decode cX5_init 5 = .ok (.bipush 8, 2) := by decide +kernel
theorem dX5_init_7 : decode cX5_init 7 = .ok (.anewarray 9, 3) := by decide +kernel
theorem dX5_init_10 : decode cX5_init 10 = .ok (.putfield 11, 3) := by decide +kernel
theorem dX5_init_13 : decode cX5_init 13 = .ok (.iconst 0, 1) := by decide +kernel
theorem dX5_init_14 : decode cX5_init 14 = .ok (.istore_n 1, 1) := by decide +kernel
theorem dX5_init_15 : decode cX5_init 15 = .ok (.iload_n 1, 1) := by decide +kernel
theorem dX5_init_16 : decode cX5_init 16 = .ok (.bipush 8, 2) := by decide +kernel
theorem dX5_init_18 : decode cX5_init 18 = .ok (.if_icmp .ge 22, 3) := by decide +kernel
theorem dX5_init_21 : decode cX5_init 21 = .ok (.aload_n 0, 1) := by decide +kernel
theorem dX5_init_22 : decode cX5_init 22 = .ok (.getfield 11, 3) := by decide +kernel
theorem dX5_init_25 : decode cX5_init 25 = .ok (.iload_n 1, 1) := by decide +kernel
theorem dX5_init_26 : decode cX5_init 26 = .ok (.new 9, 3) := by decide +kernel
theorem dX5_init_29 : decode cX5_init 29 = .ok (.dup, 1) := by decide +kernel
theorem dX5_init_30 : decode cX5_init 30 = .ok (.invokespecial 15, 3) := by decide +kernel
theorem dX5_init_33 : decode cX5_init 33 = .ok (.aastore, 1) := by decide +kernel
theorem dX5_init_34 : decode cX5_init 34 = .ok (.iinc 1 1, 3) := by decide +kernel
theorem dX5_init_37 : decode cX5_init 37 = .ok (.goto (-22), 3) := by decide +kernel
theorem dX5_init_40 : decode cX5_init 40 = .ok (.aload_n 0, 1) := by decide +kernel
theorem dX5_init_41 : decode cX5_init 41 = .ok (.new 9, 3) := by decide +kernel
theorem dX5_init_44 : decode cX5_init 44 = .ok (.dup, 1) := by decide +kernel
theorem dX5_init_45 : decode cX5_init 45 = .ok (.invokespecial 15, 3) := by decide +kernel
theorem dX5_init_48 : decode cX5_init 48 = .ok (.putfield 16, 3) := by decide +kernel
theorem dX5_init_51 : decode cX5_init 51 = .ok (.aload_n 0, 1) := by decide +kernel
theorem dX5_init_52 : decode cX5_init 52 = .ok (.new 9, 3) := by decide +kernel
theorem dX5_init_55 : decode cX5_init 55 = .ok (.dup, 1) := by decide +kernel
theorem dX5_init_56 : decode cX5_init 56 = .ok (.invokespecial 15, 3) := by decide +kernel
theorem dX5_init_59 : decode cX5_init 59 = .ok (.putfield 20, 3) := by decide +kernel
theorem dX5_init_62 : decode cX5_init 62 = .ok (.aload_n 0, 1) := by decide +kernel
theorem dX5_init_63 : decode cX5_init 63 = .ok (.new 23, 3) := by decide +kernel
theorem dX5_init_66 : decode cX5_init 66 = .ok (.dup, 1) := by decide +kernel
theorem dX5_init_67 : decode cX5_init 67 = .ok (.invokespecial 25, 3) := by decide +kernel
theorem dX5_init_70 : decode cX5_init 70 = .ok (.putfield 26, 3) := by decide +kernel
theorem dX5_init_73 : decode cX5_init 73 = .ok (.aload_n 0, 1) := by decide +kernel
theorem dX5_init_74 : decode cX5_init 74 = .ok (.new 30, 3) := by decide +kernel
theorem dX5_init_77 : decode cX5_init 77 = .ok (.dup, 1) := by decide +kernel
theorem dX5_init_78 : decode cX5_init 78 = .ok (.invokespecial 32, 3) := by decide +kernel
theorem dX5_init_81 : decode cX5_init 81 = .ok (.putfield 33, 3) := by decide +kernel
theorem dX5_init_84 : decode cX5_init 84 = .ok (.aload_n 0, 1) := by decide +kernel
theorem dX5_init_85 : decode cX5_init 85 = .ok (.new 37, 3) := by decide +kernel
theorem dX5_init_88 : decode cX5_init 88 = .ok (.dup, 1) := by decide +kernel
theorem dX5_init_89 : decode cX5_init 89 = .ok (.invokespecial 39, 3) := by decide +kernel
theorem dX5_init_92 : decode cX5_init 92 = .ok (.putfield 40, 3) := by decide +kernel
theorem dX5_init_95 : decode cX5_init 95 = .ok (.return_, 1) := by decide +kernel
set_option maxRecDepth 20000 in
theorem ggX5_load_X5_isRegister : GoodIn wsX5_load wsX5_isRegister := goodIn_r _ [5] (by decide +kernel) (by decide +kernel)
set_option maxRecDepth 20000 in
theorem gX5_load_X5_isRegister : GoodIn wsX5_load (va_wsS RX5 44 yX5_isRegister wsX5_isRegister) := goodIn_app (goodIn_of _ (by decide +kernel)) ggX5_load_X5_isRegister
set_option maxRecDepth 20000 in
theorem ggX5_load_X4_takeLong : GoodIn wsX5_load wsX4_takeLong := goodIn_r _ [10, 11, 12, 13, 14, 15, 16, 17, 18, 19, 20, 21, 22, 23, 24, 25, 26, 27, 28, 29, 30, 31, 38, 39, 40, 41] (by decide +kernel) (by decide +kernel)
set_option maxRecDepth 20000 in
theorem gX5_load_X4_takeLong : GoodIn wsX5_load (wsV RX5 48 RX4 yX4_takeLong wsX4_takeLong) := goodIn_app (goodIn_of _ (by decide +kernel)) ggX5_load_X4_takeLong
theorem dX5_load_0 : decode cX5_load 0 = .ok (.iload_n 1, 1) := by decide +kernel
theorem dX5_load_1 : decode cX5_load 1 = .ok (.invokestatic 44, 3) := by decide +kernel
theorem dX5_load_4 : decode cX5_load 4 = .ok (.ifCond .ne 5, 3) := by decide +kernel
theorem dX5_load_7 : decode cX5_load 7 = .ok (.iconst 0, 1) := by decide +kernel
theorem dX5_load_8 : decode cX5_load 8 = .ok (.ireturn, 1) := by decide +kernel
theorem dX5_load_9 : decode cX5_load 9 = .ok (.aload_n 0, 1) := by decide +kernel
theorem dX5_load_10 : decode cX5_load 10 = .ok (.getfield 11, 3) := by decide +kernel
theorem dX5_load_13 : decode cX5_load 13 = .ok (.iload_n 1, 1) := by decide +kernel
theorem dX5_load_14 : decode cX5_load 14 = .ok (.aaload, 1) := by decide +kernel
theorem dX5_load_15 : decode cX5_load 15 = .ok (.lload_n 2, 1) := by decide +kernel
theorem dX5_load_16 : decode cX5_load 16 = .ok (.invokevirtual 48, 3) := by decide +kernel
theorem dX5_load_19 : decode cX5_load 19 = .ok (.iconst 1, 1) := by decide +kernel
theorem dX5_load_20 : decode cX5_load 20 = .ok (.ireturn, 1) := by decide +kernel
set_option maxRecDepth 20000 in
theorem ggX5_reckon_X5_areRegisters : GoodIn wsX5_reckon wsX5_areRegisters := goodIn_r _ [7, 8, 9, 6, 10] (by decide +kernel) (by decide +kernel)
set_option maxRecDepth 20000 in
theorem gX5_reckon_X5_areRegisters : GoodIn wsX5_reckon (va_wsS RX5 52 yX5_areRegisters wsX5_areRegisters) := goodIn_app (goodIn_of _ (by decide +kernel)) ggX5_reckon_X5_areRegisters
set_option maxRecDepth 20000 in
theorem ggX5_reckon_X4_takeSum : GoodIn wsX5_reckon wsX4_takeSum := goodIn_r _ [15, 16, 17, 18, 19, 20, 21, 22, 23, 24, 25, 26, 27, 28, 29, 30, 31, 32, 33, 34, 35, 36, 37, 38, 39, 40, 41, 42, 43, 14, 44, 45, 46, 47, 48, 49, 50, 51, 52, 53, 54, 55, 56, 106, 107, 108, 109] (by decide +kernel) (by decide +kernel)
set_option maxRecDepth 20000 in
theorem gX5_reckon_X4_takeSum : GoodIn wsX5_reckon (wsV RX5 60 RX4 yX4_takeSum wsX4_takeSum) := goodIn_app (goodIn_of _ (by decide +kernel)) ggX5_reckon_X4_takeSum
set_option maxRecDepth 20000 in
theorem ggX5_reckon_X5_keepResult : GoodIn wsX5_reckon wsX5_keepResult := goodIn_r _ [60, 2, 61, 1, 62, 63, 64, 21, 65, 23, 66, 67, 68, 69, 33, 34, 35, 36, 31, 70, 71, 72, 73, 74, 75, 76, 77, 14, 78, 17, 16, 79, 80, 81, 82, 83, 84, 85, 86, 100, 101, 102, 103, 104, 105, 106, 107, 108, 109] (by decide +kernel) (by decide +kernel)
set_option maxRecDepth 20000 in
theorem gX5_reckon_X5_keepResult : GoodIn wsX5_reckon (wsV RX5 64 RX5 yX5_keepResult wsX5_keepResult) := goodIn_app (goodIn_of _ (by decide +kernel)) ggX5_reckon_X5_keepResult
set_option maxRecDepth 20000 in
theorem ggX5_reckon_X4_takeProduct : GoodIn wsX5_reckon wsX4_takeProduct := goodIn_r _ [90, 17, 16, 91, 63, 64, 21, 65, 23, 66, 67, 68, 69, 33, 34, 35, 36, 31, 70, 71, 72, 73, 74, 92, 93, 94, 95, 28, 29, 26, 30, 96, 97, 98, 99, 32, 37, 38, 39, 40, 24, 25, 27, 41, 42, 43, 14, 44, 45, 46, 47, 48, 106, 107, 108, 109] (by decide +kernel) (by decide +kernel)
set_option maxRecDepth 20000 in
theorem gX5_reckon_X4_takeProduct : GoodIn wsX5_reckon (wsV RX5 68 RX4 yX4_takeProduct wsX4_takeProduct) := goodIn_app (goodIn_of _ (by decide +kernel)) ggX5_reckon_X4_takeProduct
theorem dX5_reckon_0 : decode cX5_reckon 0 = .ok (.iload_n 2, 1) := by decide +kernel
theorem dX5_reckon_1 : decode cX5_reckon 1 = .ok (.iload_n 3, 1) := by decide +kernel
theorem dX5_reckon_2 : decode cX5_reckon 2 = .ok (.iload 4, 2) := by decide +kernel
theorem dX5_reckon_4 : decode cX5_reckon 4 = .ok (.invokestatic 52, 3) := by decide +kernel
theorem dX5_reckon_7 : decode cX5_reckon 7 = .ok (.ifCond .ne 5, 3) := by decide +kernel
theorem dX5_reckon_10 : decode cX5_reckon 10 = .ok (.iconst (-1), 1) := by decide +kernel
theorem dX5_reckon_11 : decode cX5_reckon 11 = .ok (.ireturn, 1) := by decide +kernel
theorem dX5_reckon_12 : decode cX5_reckon 12 = .ok (.aload_n 0, 1) := by decide +kernel
theorem dX5_reckon_13 : decode cX5_reckon 13 = .ok (.getfield 11, 3) := by decide +kernel
theorem dX5_reckon_16 : decode cX5_reckon 16 = .ok (.iload_n 3, 1) := by decide +kernel
theorem dX5_reckon_17 : decode cX5_reckon 17 = .ok (.aaload, 1) := by decide +kernel
theorem dX5_reckon_18 : decode cX5_reckon 18 = .ok (.astore 5, 2) := by decide +kernel
theorem dX5_reckon_20 : decode cX5_reckon 20 = .ok (.aload_n 0, 1) := by decide +kernel
theorem dX5_reckon_21 : decode cX5_reckon 21 = .ok (.getfield 11, 3) := by decide +kernel
theorem dX5_reckon_24 : decode cX5_reckon 24 = .ok (.iload 4, 2) := by decide +kernel
theorem dX5_reckon_26 : decode cX5_reckon 26 = .ok (.aaload, 1) := by decide +kernel
theorem dX5_reckon_27 : decode cX5_reckon 27 = .ok (.astore 6, 2) := by decide +kernel
theorem dX5_reckon_29 : decode cX5_reckon 29 = .ok (.iload_n 1, 1) := by decide +kernel
theorem dX5_reckon_30 : decode cX5_reckon 30 = .ok (.tableswitch 102 0 2 #[26, 48, 78], 26) := by decide +kernel
theorem dX5_reckon_56 : decode cX5_reckon 56 = .ok (.aload_n 0, 1) := by decide +kernel
theorem dX5_reckon_57 : decode cX5_reckon 57 = .ok (.getfield 16, 3) := by decide +kernel
theorem dX5_reckon_60 : decode cX5_reckon 60 = .ok (.aload 5, 2) := by decide +kernel
theorem dX5_reckon_62 : decode cX5_reckon 62 = .ok (.aload 6, 2) := by decide +kernel
theorem dX5_reckon_64 : decode cX5_reckon 64 = .ok (.aload 6, 2) := by decide +kernel
theorem dX5_reckon_66 : decode cX5_reckon 66 = .ok (.getfield 56, 3) := by decide +kernel
theorem dX5_reckon_69 : decode cX5_reckon 69 = .ok (.invokevirtual 60, 3) := by decide +kernel
theorem dX5_reckon_72 : decode cX5_reckon 72 = .ok (.aload_n 0, 1) := by decide +kernel
theorem dX5_reckon_73 : decode cX5_reckon 73 = .ok (.iload_n 2, 1) := by decide +kernel
theorem dX5_reckon_74 : decode cX5_reckon 74 = .ok (.invokevirtual 64, 3) := by decide +kernel
theorem dX5_reckon_77 : decode cX5_reckon 77 = .ok (.ireturn, 1) := by decide +kernel
theorem dX5_reckon_78 : decode cX5_reckon 78 = .ok (.aload_n 0, 1) := by decide +kernel
theorem dX5_reckon_79 : decode cX5_reckon 79 = .ok (.getfield 16, 3) := by decide +kernel
theorem dX5_reckon_82 : decode cX5_reckon 82 = .ok (.aload 5, 2) := by decide +kernel
theorem dX5_reckon_84 : decode cX5_reckon 84 = .ok (.aload 6, 2) := by decide +kernel
theorem dX5_reckon_86 : decode cX5_reckon 86 = .ok (.aload 6, 2) := by decide +kernel
theorem dX5_reckon_88 : decode cX5_reckon 88 = .ok (.getfield 56, 3) := by decide +kernel
theorem dX5_reckon_91 : decode cX5_reckon 91 = .ok (.ifCond .ne 7, 3) := by decide +kernel
theorem dX5_reckon_94 : decode cX5_reckon 94 = .ok (.iconst 1, 1) := by decide +kernel
theorem dX5_reckon_95 : decode cX5_reckon 95 = .ok (.goto 4, 3) := by decide +kernel
theorem dX5_reckon_98 : decode cX5_reckon 98 = .ok (.iconst 0, 1) := by decide +kernel
theorem dX5_reckon_99 : decode cX5_reckon 99 = .ok (.invokevirtual 60, 3) := by decide +kernel
theorem dX5_reckon_102 : decode cX5_reckon 102 = .ok (.aload_n 0, 1) := by decide +kernel
theorem dX5_reckon_103 : decode cX5_reckon 103 = .ok (.iload_n 2, 1) := by decide +kernel
theorem dX5_reckon_104 : decode cX5_reckon 104 = .ok (.invokevirtual 64, 3) := by decide +kernel
theorem dX5_reckon_107 : decode cX5_reckon 107 = .ok (.ireturn, 1) := by decide +kernel
theorem dX5_reckon_108 : decode cX5_reckon 108 = .ok (.aload_n 0, 1) := by decide +kernel
theorem dX5_reckon_109 : decode cX5_reckon 109 = .ok (.getfield 16, 3) := by decide +kernel
theorem dX5_reckon_112 : decode cX5_reckon 112 = .ok (.aload 5, 2) := by decide +kernel
theorem dX5_reckon_114 : decode cX5_reckon 114 = .ok (.aload 6, 2) := by decide +kernel
theorem dX5_reckon_116 : decode cX5_reckon 116 = .ok (.invokevirtual 68, 3) := by decide +kernel
theorem dX5_reckon_119 : decode cX5_reckon 119 = .ok (.ifCond .eq 11, 3) := by decide +kernel
theorem dX5_reckon_122 : decode cX5_reckon 122 = .ok (.aload_n 0, 1) := by decide +kernel
theorem dX5_reckon_123 : decode cX5_reckon 123 = .ok (.iload_n 2, 1) := by decide +kernel
theorem dX5_reckon_124 : decode cX5_reckon 124 = .ok (.invokevirtual 64, 3) := by decide +kernel
theorem dX5_reckon_127 : decode cX5_reckon 127 = .ok (.goto 4, 3) := by decide +kernel
theorem dX5_reckon_130 : decode cX5_reckon 130 = .ok (.iconst (-1), 1) := by decide +kernel
theorem dX5_reckon_131 : decode cX5_reckon 131 = .ok (.ireturn, 1) := by decide +kernel
theorem dX5_reckon_132 : decode cX5_reckon 132 = .ok (.iconst (-1), 1) := by decide +kernel
theorem dX5_reckon_133 : decode cX5_reckon 133 = .ok (.ireturn, 1) := by decide +kernel
set_option maxRecDepth 20000 in
theorem ggX5_divide_X5_isRegister : GoodIn wsX5_divide wsX5_isRegister := goodIn_r _ [11] (by decide +kernel) (by decide +kernel)
set_option maxRecDepth 20000 in
theorem gX5_divide_X5_isRegister : GoodIn wsX5_divide (va_wsS RX5 44 yX5_isRegister wsX5_isRegister) := goodIn_app (goodIn_of _ (by decide +kernel)) ggX5_divide_X5_isRegister
set_option maxRecDepth 20000 in
theorem ggX5_divide_X5_areRegisters : GoodIn wsX5_divide wsX5_areRegisters := goodIn_r _ [14, 8, 9, 10, 11] (by decide +kernel) (by decide +kernel)
set_option maxRecDepth 20000 in
theorem gX5_divide_X5_areRegisters : GoodIn wsX5_divide (va_wsS RX5 52 yX5_areRegisters wsX5_areRegisters) := goodIn_app (goodIn_of _ (by decide +kernel)) ggX5_divide_X5_areRegisters
set_option maxRecDepth 20000 in
theorem ggX5_divide_X2_isZero : GoodIn wsX5_divide wsX2_isZero := goodIn_r _ [19, 20, 149, 150] (by decide +kernel) (by decide +kernel)
set_option maxRecDepth 20000 in
theorem gX5_divide_X2_isZero : GoodIn wsX5_divide (wsV RX5 76 RX2 yX2_isZero wsX2_isZero) := goodIn_app (goodIn_of _ (by decide +kernel)) ggX5_divide_X2_isZero
set_option maxRecDepth 20000 in
theorem ggX5_divide_X5_cutQuotient : GoodIn wsX5_divide wsX5_cutQuotient := goodIn_r _ [24, 25, 4, 7, 26, 5, 6, 27, 28, 29, 30, 31, 32, 33, 34, 35, 36, 37, 38, 39, 40, 41, 42, 43, 44, 45, 16, 17, 18, 19, 20, 46, 47, 48, 49, 50, 51, 52, 53, 54, 55, 56, 57, 58, 59, 60, 61, 62, 63, 64, 65, 66, 67, 68, 69, 70, 71, 72, 73, 74, 75, 76, 77, 78, 79, 80, 81, 82, 83, 84, 85, 86, 87, 88, 89, 90, 91, 92, 93, 94, 95, 96, 97, 98, 99, 100, 101, 102, 103, 104, 105, 106, 107, 108, 109, 110, 111, 112, 113, 114, 115, 116, 117, 118, 141, 142, 143, 144, 145, 146, 147, 148, 151, 152, 153, 149, 150] (by decide +kernel) (by decide +kernel)
set_option maxRecDepth 20000 in
theorem gX5_divide_X5_cutQuotient : GoodIn wsX5_divide (wsV RX5 89 RX5 yX5_cutQuotient wsX5_cutQuotient) := goodIn_app (goodIn_of _ (by decide +kernel)) ggX5_divide_X5_cutQuotient
set_option maxRecDepth 20000 in
theorem ggX5_divide_X5_stepDown : GoodIn wsX5_divide wsX5_stepDown := goodIn_r _ [122, 7, 4, 6, 5, 123, 124, 125, 18, 126, 20, 54, 65, 66, 67, 68, 69, 64, 37, 38, 39, 70, 41, 42, 111, 112, 113, 114, 115, 116, 117, 118, 16, 17, 19, 127, 128, 129, 130, 50, 51, 52, 53, 141, 142, 143, 144, 145, 146, 147, 148, 149, 150] (by decide +kernel) (by decide +kernel)
set_option maxRecDepth 20000 in
theorem gX5_divide_X5_stepDown : GoodIn wsX5_divide (wsV RX5 93 RX5 yX5_stepDown wsX5_stepDown) := goodIn_app (goodIn_of _ (by decide +kernel)) ggX5_divide_X5_stepDown
set_option maxRecDepth 20000 in
theorem ggX5_divide_X4_take : GoodIn wsX5_divide wsX4_take := goodIn_r _ [134, 116, 117, 135, 104, 105, 18, 106, 54, 20, 107, 108, 109, 110, 147, 148, 149, 150] (by decide +kernel) (by decide +kernel)
set_option maxRecDepth 20000 in
theorem gX5_divide_X4_take : GoodIn wsX5_divide (wsV RX5 97 RX4 yX4_take wsX4_take) := goodIn_app (goodIn_of _ (by decide +kernel)) ggX5_divide_X4_take
set_option maxRecDepth 20000 in
theorem ggX5_divide_X2_bitLength : GoodIn wsX5_divide wsX2_bitLength := goodIn_r _ [139, 20, 140, 47, 48, 18, 49, 50, 51, 52, 53, 54, 55, 56, 57, 58, 59, 149, 150] (by decide +kernel) (by decide +kernel)
set_option maxRecDepth 20000 in
theorem gX5_divide_X2_bitLength : GoodIn wsX5_divide (wsV RX5 100 RX2 yX2_bitLength wsX2_bitLength) := goodIn_app (goodIn_of _ (by decide +kernel)) ggX5_divide_X2_bitLength
theorem dX5_divide_0 : decode cX5_divide 0 = .ok (.iload_n 1, 1) := by decide +kernel
theorem dX5_divide_1 : decode cX5_divide 1 = .ok (.invokestatic 44, 3) := by decide +kernel
theorem dX5_divide_4 : decode cX5_divide 4 = .ok (.ifCond .eq 18, 3) := by decide +kernel
theorem dX5_divide_7 : decode cX5_divide 7 = .ok (.iload_n 2, 1) := by decide +kernel
theorem dX5_divide_8 : decode cX5_divide 8 = .ok (.iload_n 3, 1) := by decide +kernel
theorem dX5_divide_9 : decode cX5_divide 9 = .ok (.iload 4, 2) := by decide +kernel
theorem dX5_divide_11 : decode cX5_divide 11 = .ok (.invokestatic 52, 3) := by decide +kernel
theorem dX5_divide_14 : decode cX5_divide 14 = .ok (.ifCond .eq 8, 3) := by decide +kernel
theorem dX5_divide_17 : decode cX5_divide 17 = .ok (.iload_n 1, 1) := by decide +kernel
theorem dX5_divide_18 : decode cX5_divide 18 = .ok (.iload_n 2, 1) := by decide +kernel
theorem dX5_divide_19 : decode cX5_divide 19 = .ok (.if_icmp .ne 5, 3) := by decide +kernel
theorem dX5_divide_22 : decode cX5_divide 22 = .ok (.iconst (-1), 1) := by decide +kernel
theorem dX5_divide_23 : decode cX5_divide 23 = .ok (.ireturn, 1) := by decide +kernel
theorem dX5_divide_24 : decode cX5_divide 24 = .ok (.aload_n 0, 1) := by decide +kernel
theorem dX5_divide_25 : decode cX5_divide 25 = .ok (.getfield 11, 3) := by decide +kernel
theorem dX5_divide_28 : decode cX5_divide 28 = .ok (.iload_n 3, 1) := by decide +kernel
theorem dX5_divide_29 : decode cX5_divide 29 = .ok (.aaload, 1) := by decide +kernel
theorem dX5_divide_30 : decode cX5_divide 30 = .ok (.astore 6, 2) := by decide +kernel
theorem dX5_divide_32 : decode cX5_divide 32 = .ok (.aload_n 0, 1) := by decide +kernel
theorem dX5_divide_33 : decode cX5_divide 33 = .ok (.getfield 11, 3) := by decide +kernel
theorem dX5_divide_36 : decode cX5_divide 36 = .ok (.iload 4, 2) := by decide +kernel
theorem dX5_divide_38 : decode cX5_divide 38 = .ok (.aaload, 1) := by decide +kernel
theorem dX5_divide_39 : decode cX5_divide 39 = .ok (.astore 7, 2) := by decide +kernel
theorem dX5_divide_41 : decode cX5_divide 41 = .ok (.aload 7, 2) := by decide +kernel
theorem dX5_divide_43 : decode cX5_divide 43 = .ok (.getfield 72, 3) := by decide +kernel
theorem dX5_divide_46 : decode cX5_divide 46 = .ok (.invokevirtual 76, 3) := by decide +kernel
theorem dX5_divide_49 : decode cX5_divide 49 = .ok (.ifCond .eq 13, 3) := by decide +kernel
theorem dX5_divide_52 : decode cX5_divide 52 = .ok (.new 82, 3) := by decide +kernel
theorem dX5_divide_55 : decode cX5_divide 55 = .ok (.dup, 1) := by decide +kernel
theorem dX5_divide_56 : decode cX5_divide 56 = .ok (.ldc 84, 2) := by decide +kernel
theorem dX5_divide_58 : decode cX5_divide 58 = .ok (.invokespecial 86, 3) := by decide +kernel
theorem dX5_divide_61 : decode cX5_divide 61 = .ok (.athrow, 1) := by decide +kernel
theorem dX5_divide_62 : decode cX5_divide 62 = .ok (.aload_n 0, 1) := by decide +kernel
theorem dX5_divide_63 : decode cX5_divide 63 = .ok (.aload 6, 2) := by decide +kernel
theorem dX5_divide_65 : decode cX5_divide 65 = .ok (.aload 7, 2) := by decide +kernel
theorem dX5_divide_67 : decode cX5_divide 67 = .ok (.invokevirtual 89, 3) := by decide +kernel
theorem dX5_divide_70 : decode cX5_divide 70 = .ok (.iload 5, 2) := by decide +kernel
theorem dX5_divide_72 : decode cX5_divide 72 = .ok (.ifCond .eq 35, 3) := by decide +kernel
theorem dX5_divide_75 : decode cX5_divide 75 = .ok (.aload 6, 2) := by decide +kernel
theorem dX5_divide_77 : decode cX5_divide 77 = .ok (.getfield 56, 3) := by decide +kernel
theorem dX5_divide_80 : decode cX5_divide 80 = .ok (.aload 7, 2) := by decide +kernel
theorem dX5_divide_82 : decode cX5_divide 82 = .ok (.getfield 56, 3) := by decide +kernel
theorem dX5_divide_85 : decode cX5_divide 85 = .ok (.if_icmp .eq 22, 3) := by decide +kernel
theorem dX5_divide_88 : decode cX5_divide 88 = .ok (.aload_n 0, 1) := by decide +kernel
theorem dX5_divide_89 : decode cX5_divide 89 = .ok (.getfield 20, 3) := by decide +kernel
theorem dX5_divide_92 : decode cX5_divide 92 = .ok (.getfield 72, 3) := by decide +kernel
theorem dX5_divide_95 : decode cX5_divide 95 = .ok (.invokevirtual 76, 3) := by decide +kernel
theorem dX5_divide_98 : decode cX5_divide 98 = .ok (.ifCond .ne 9, 3) := by decide +kernel
theorem dX5_divide_101 : decode cX5_divide 101 = .ok (.aload_n 0, 1) := by decide +kernel
theorem dX5_divide_102 : decode cX5_divide 102 = .ok (.aload 7, 2) := by decide +kernel
theorem dX5_divide_104 : decode cX5_divide 104 = .ok (.invokevirtual 93, 3) := by decide +kernel
theorem dX5_divide_107 : decode cX5_divide 107 = .ok (.aload_n 0, 1) := by decide +kernel
theorem dX5_divide_108 : decode cX5_divide 108 = .ok (.getfield 11, 3) := by decide +kernel
theorem dX5_divide_111 : decode cX5_divide 111 = .ok (.iload_n 1, 1) := by decide +kernel
theorem dX5_divide_112 : decode cX5_divide 112 = .ok (.aaload, 1) := by decide +kernel
theorem dX5_divide_113 : decode cX5_divide 113 = .ok (.aload_n 0, 1) := by decide +kernel
theorem dX5_divide_114 : decode cX5_divide 114 = .ok (.getfield 16, 3) := by decide +kernel
theorem dX5_divide_117 : decode cX5_divide 117 = .ok (.invokevirtual 97, 3) := by decide +kernel
theorem dX5_divide_120 : decode cX5_divide 120 = .ok (.aload_n 0, 1) := by decide +kernel
theorem dX5_divide_121 : decode cX5_divide 121 = .ok (.getfield 11, 3) := by decide +kernel
theorem dX5_divide_124 : decode cX5_divide 124 = .ok (.iload_n 2, 1) := by decide +kernel
theorem dX5_divide_125 : decode cX5_divide 125 = .ok (.aaload, 1) := by decide +kernel
theorem dX5_divide_126 : decode cX5_divide 126 = .ok (.aload_n 0, 1) := by decide +kernel
theorem dX5_divide_127 : decode cX5_divide 127 = .ok (.getfield 20, 3) := by decide +kernel
theorem dX5_divide_130 : decode cX5_divide 130 = .ok (.invokevirtual 97, 3) := by decide +kernel
theorem dX5_divide_133 : decode cX5_divide 133 = .ok (.aload_n 0, 1) := by decide +kernel
theorem dX5_divide_134 : decode cX5_divide 134 = .ok (.getfield 16, 3) := by decide +kernel
theorem dX5_divide_137 : decode cX5_divide 137 = .ok (.getfield 72, 3) := by decide +kernel
theorem dX5_divide_140 : decode cX5_divide 140 = .ok (.invokevirtual 100, 3) := by decide +kernel
theorem dX5_divide_143 : decode cX5_divide 143 = .ok (.ireturn, 1) := by decide +kernel
set_option maxRecDepth 20000 in
theorem ggX5_gcd_X5_areRegisters : GoodIn wsX5_gcd wsX5_areRegisters := goodIn_r _ [9, 10, 11, 8, 12] (by decide +kernel) (by decide +kernel)
set_option maxRecDepth 20000 in
theorem gX5_gcd_X5_areRegisters : GoodIn wsX5_gcd (va_wsS RX5 52 yX5_areRegisters wsX5_areRegisters) := goodIn_app (goodIn_of _ (by decide +kernel)) ggX5_gcd_X5_areRegisters
set_option maxRecDepth 20000 in
theorem ggX5_gcd_X0_commonDivisor : GoodIn wsX5_gcd wsX0_commonDivisor := goodIn_r _ [17, 18, 19, 20, 21, 22, 23, 24, 25, 26, 27, 28, 29, 30, 31, 32, 33, 34, 35, 36, 37, 38, 39, 40, 41, 16, 42, 43, 44, 45, 46, 47, 48, 49, 50, 51, 52, 53, 54, 55, 56, 57, 58, 59, 60, 61, 62, 63, 64, 65, 66, 67, 68, 69, 70, 71, 72, 73, 74, 75, 76, 77, 78, 79, 80, 81, 82, 83, 84, 85, 86, 87, 88, 89, 90, 91, 92, 93, 94, 95, 96, 97, 98, 99, 100, 101, 102, 103, 104, 105, 106, 107, 108, 109, 110, 111, 112, 113, 114, 115, 116, 117, 118, 119, 120, 121, 122, 123, 124, 125, 126, 127, 128, 129, 130, 131, 132, 133, 134, 135, 136, 137, 138, 139, 140, 141, 142, 143, 144, 172, 173, 174, 175, 176, 177, 178, 179, 180, 181, 182] (by decide +kernel) (by decide +kernel)
set_option maxRecDepth 20000 in
theorem gX5_gcd_X0_commonDivisor : GoodIn wsX5_gcd (wsV RX5 104 RX0 yX0_commonDivisor wsX0_commonDivisor) := goodIn_app (goodIn_of _ (by decide +kernel)) ggX5_gcd_X0_commonDivisor
set_option maxRecDepth 20000 in
theorem ggX5_gcd_X2_take : GoodIn wsX5_gcd wsX2_take := goodIn_r _ [30, 26, 25, 31, 32, 33, 34, 178, 179] (by decide +kernel) (by decide +kernel)
set_option maxRecDepth 20000 in
theorem gX5_gcd_X2_take : GoodIn wsX5_gcd (wsV RX5 108 RX2 yX2_take wsX2_take) := goodIn_app (goodIn_of _ (by decide +kernel)) ggX5_gcd_X2_take
set_option maxRecDepth 20000 in
theorem ggX5_gcd_X4_takeSign : GoodIn wsX5_gcd wsX4_takeSign := goodIn_r _ [150, 151, 152, 153, 36, 37, 23, 38, 25, 170, 171, 178, 179] (by decide +kernel) (by decide +kernel)
set_option maxRecDepth 20000 in
theorem gX5_gcd_X4_takeSign : GoodIn wsX5_gcd (wsV RX5 111 RX4 yX4_takeSign wsX4_takeSign) := goodIn_app (goodIn_of _ (by decide +kernel)) ggX5_gcd_X4_takeSign
set_option maxRecDepth 20000 in
theorem ggX5_gcd_X5_keepResult : GoodIn wsX5_gcd wsX5_keepResult := goodIn_r _ [157, 1, 2, 4, 158, 52, 53, 23, 54, 25, 55, 56, 57, 58, 59, 60, 61, 62, 26, 63, 64, 65, 66, 67, 159, 160, 161, 149, 162, 151, 152, 163, 28, 29, 30, 31, 32, 33, 34, 164, 165, 166, 167, 168, 169, 170, 171, 178, 179] (by decide +kernel) (by decide +kernel)
set_option maxRecDepth 20000 in
theorem gX5_gcd_X5_keepResult : GoodIn wsX5_gcd (wsV RX5 64 RX5 yX5_keepResult wsX5_keepResult) := goodIn_app (goodIn_of _ (by decide +kernel)) ggX5_gcd_X5_keepResult
theorem dX5_gcd_0 : decode cX5_gcd 0 = .ok (.iload_n 1, 1) := by decide +kernel
theorem dX5_gcd_1 : decode cX5_gcd 1 = .ok (.iload_n 2, 1) := by decide +kernel
theorem dX5_gcd_2 : decode cX5_gcd 2 = .ok (.iload_n 3, 1) := by decide +kernel
theorem dX5_gcd_3 : decode cX5_gcd 3 = .ok (.invokestatic 52, 3) := by decide +kernel
theorem dX5_gcd_6 : decode cX5_gcd 6 = .ok (.ifCond .ne 5, 3) := by decide +kernel
theorem dX5_gcd_9 : decode cX5_gcd 9 = .ok (.iconst (-1), 1) := by decide +kernel
theorem dX5_gcd_10 : decode cX5_gcd 10 = .ok (.ireturn, 1) := by decide +kernel
theorem dX5_gcd_11 : decode cX5_gcd 11 = .ok (.aload_n 0, 1) := by decide +kernel
theorem dX5_gcd_12 : decode cX5_gcd 12 = .ok (.getfield 16, 3) := by decide +kernel
theorem dX5_gcd_15 : decode cX5_gcd 15 = .ok (.getfield 72, 3) := by decide +kernel
theorem dX5_gcd_18 : decode cX5_gcd 18 = .ok (.aload_n 0, 1) := by decide +kernel
theorem dX5_gcd_19 : decode cX5_gcd 19 = .ok (.getfield 33, 3) := by decide +kernel
theorem dX5_gcd_22 : decode cX5_gcd 22 = .ok (.aload_n 0, 1) := by decide +kernel
theorem dX5_gcd_23 : decode cX5_gcd 23 = .ok (.getfield 11, 3) := by decide +kernel
theorem dX5_gcd_26 : decode cX5_gcd 26 = .ok (.iload_n 2, 1) := by decide +kernel
theorem dX5_gcd_27 : decode cX5_gcd 27 = .ok (.aaload, 1) := by decide +kernel
theorem dX5_gcd_28 : decode cX5_gcd 28 = .ok (.getfield 72, 3) := by decide +kernel
theorem dX5_gcd_31 : decode cX5_gcd 31 = .ok (.aload_n 0, 1) := by decide +kernel
theorem dX5_gcd_32 : decode cX5_gcd 32 = .ok (.getfield 11, 3) := by decide +kernel
theorem dX5_gcd_35 : decode cX5_gcd 35 = .ok (.iload_n 3, 1) := by decide +kernel
theorem dX5_gcd_36 : decode cX5_gcd 36 = .ok (.aaload, 1) := by decide +kernel
theorem dX5_gcd_37 : decode cX5_gcd 37 = .ok (.getfield 72, 3) := by decide +kernel
theorem dX5_gcd_40 : decode cX5_gcd 40 = .ok (.aload_n 0, 1) := by decide +kernel
theorem dX5_gcd_41 : decode cX5_gcd 41 = .ok (.getfield 26, 3) := by decide +kernel
theorem dX5_gcd_44 : decode cX5_gcd 44 = .ok (.invokevirtual 104, 3) := by decide +kernel
theorem dX5_gcd_47 : decode cX5_gcd 47 = .ok (.invokevirtual 108, 3) := by decide +kernel
theorem dX5_gcd_50 : decode cX5_gcd 50 = .ok (.aload_n 0, 1) := by decide +kernel
theorem dX5_gcd_51 : decode cX5_gcd 51 = .ok (.getfield 16, 3) := by decide +kernel
theorem dX5_gcd_54 : decode cX5_gcd 54 = .ok (.iconst 0, 1) := by decide +kernel
theorem dX5_gcd_55 : decode cX5_gcd 55 = .ok (.invokevirtual 111, 3) := by decide +kernel
theorem dX5_gcd_58 : decode cX5_gcd 58 = .ok (.aload_n 0, 1) := by decide +kernel
theorem dX5_gcd_59 : decode cX5_gcd 59 = .ok (.iload_n 1, 1) := by decide +kernel
theorem dX5_gcd_60 : decode cX5_gcd 60 = .ok (.invokevirtual 64, 3) := by decide +kernel
theorem dX5_gcd_63 : decode cX5_gcd 63 = .ok (.ireturn, 1) := by decide +kernel
set_option maxRecDepth 20000 in
theorem ggX5_root_X5_isRegister : GoodIn wsX5_root wsX5_isRegister := goodIn_r _ [9] (by decide +kernel) (by decide +kernel)
set_option maxRecDepth 20000 in
theorem gX5_root_X5_isRegister : GoodIn wsX5_root (va_wsS RX5 44 yX5_isRegister wsX5_isRegister) := goodIn_app (goodIn_of _ (by decide +kernel)) ggX5_root_X5_isRegister
set_option maxRecDepth 20000 in
theorem ggX5_root_X5_takeRoot : GoodIn wsX5_root wsX5_takeRoot := goodIn_r _ [13, 14, 5, 15, 16, 17, 18, 19, 20, 21, 22, 23, 24, 25, 26, 27, 28, 29, 30, 31, 32, 33, 34, 35, 36, 37, 38, 39, 40, 41, 42, 43, 44, 45, 46, 47, 48, 49, 50, 51, 52, 53, 54, 55, 56, 57, 58, 59, 60, 61, 62, 63, 64, 65, 66, 67, 68, 69, 70, 71, 72, 73, 74, 75, 76, 77, 78, 79, 80, 81, 82, 83, 84, 85, 86, 87, 88, 89, 90, 91, 92, 93, 94, 95, 96, 97, 98, 99, 100, 101, 102, 103, 104, 105, 106, 107, 108, 109, 110, 111, 112, 113, 114, 115, 116, 117, 118, 119, 120, 121, 122, 123, 124, 125, 126, 127, 128, 129, 130, 131, 132, 142, 143, 144, 145, 146, 147, 148, 149, 150, 151, 152, 153, 154] (by decide +kernel) (by decide +kernel)
set_option maxRecDepth 20000 in
theorem gX5_root_X5_takeRoot : GoodIn wsX5_root (wsV RX5 120 RX5 yX5_takeRoot wsX5_takeRoot) := goodIn_app (goodIn_of _ (by decide +kernel)) ggX5_root_X5_takeRoot
set_option maxRecDepth 20000 in
theorem ggX5_root_X5_keepResult : GoodIn wsX5_root wsX5_keepResult := goodIn_r _ [136, 14, 5, 3, 56, 57, 58, 28, 59, 43, 60, 61, 62, 63, 64, 65, 66, 67, 30, 68, 69, 70, 71, 72, 137, 138, 139, 21, 140, 23, 24, 141, 49, 50, 51, 52, 53, 54, 55, 142, 143, 144, 145, 146, 147, 148, 149, 153, 154] (by decide +kernel) (by decide +kernel)
set_option maxRecDepth 20000 in
theorem gX5_root_X5_keepResult : GoodIn wsX5_root (wsV RX5 64 RX5 yX5_keepResult wsX5_keepResult) := goodIn_app (goodIn_of _ (by decide +kernel)) ggX5_root_X5_keepResult
theorem dX5_root_0 : decode cX5_root 0 = .ok (.iload_n 1, 1) := by decide +kernel
theorem dX5_root_1 : decode cX5_root 1 = .ok (.invokestatic 44, 3) := by decide +kernel
theorem dX5_root_4 : decode cX5_root 4 = .ok (.ifCond .eq 10, 3) := by decide +kernel
theorem dX5_root_7 : decode cX5_root 7 = .ok (.iload_n 2, 1) := by decide +kernel
theorem dX5_root_8 : decode cX5_root 8 = .ok (.invokestatic 44, 3) := by decide +kernel
theorem dX5_root_11 : decode cX5_root 11 = .ok (.ifCond .ne 5, 3) := by decide +kernel
theorem dX5_root_14 : decode cX5_root 14 = .ok (.iconst (-1), 1) := by decide +kernel
theorem dX5_root_15 : decode cX5_root 15 = .ok (.ireturn, 1) := by decide +kernel
theorem dX5_root_16 : decode cX5_root 16 = .ok (.aload_n 0, 1) := by decide +kernel
theorem dX5_root_17 : decode cX5_root 17 = .ok (.getfield 11, 3) := by decide +kernel
theorem dX5_root_20 : decode cX5_root 20 = .ok (.iload_n 2, 1) := by decide +kernel
theorem dX5_root_21 : decode cX5_root 21 = .ok (.aaload, 1) := by decide +kernel
theorem dX5_root_22 : decode cX5_root 22 = .ok (.getfield 56, 3) := by decide +kernel
theorem dX5_root_25 : decode cX5_root 25 = .ok (.ifCond .eq 13, 3) := by decide +kernel
theorem dX5_root_28 : decode cX5_root 28 = .ok (.new 115, 3) := by decide +kernel
theorem dX5_root_31 : decode cX5_root 31 = .ok (.dup, 1) := by decide +kernel
theorem dX5_root_32 : decode cX5_root 32 = .ok (.ldc 117, 2) := by decide +kernel
theorem dX5_root_34 : decode cX5_root 34 = .ok (.invokespecial 119, 3) := by decide +kernel
theorem dX5_root_37 : decode cX5_root 37 = .ok (.athrow, 1) := by decide +kernel
theorem dX5_root_38 : decode cX5_root 38 = .ok (.aload_n 0, 1) := by decide +kernel
theorem dX5_root_39 : decode cX5_root 39 = .ok (.aload_n 0, 1) := by decide +kernel
theorem dX5_root_40 : decode cX5_root 40 = .ok (.getfield 11, 3) := by decide +kernel
theorem dX5_root_43 : decode cX5_root 43 = .ok (.iload_n 2, 1) := by decide +kernel
theorem dX5_root_44 : decode cX5_root 44 = .ok (.aaload, 1) := by decide +kernel
theorem dX5_root_45 : decode cX5_root 45 = .ok (.getfield 72, 3) := by decide +kernel
theorem dX5_root_48 : decode cX5_root 48 = .ok (.invokevirtual 120, 3) := by decide +kernel
theorem dX5_root_51 : decode cX5_root 51 = .ok (.aload_n 0, 1) := by decide +kernel
theorem dX5_root_52 : decode cX5_root 52 = .ok (.iload_n 1, 1) := by decide +kernel
theorem dX5_root_53 : decode cX5_root 53 = .ok (.invokevirtual 64, 3) := by decide +kernel
theorem dX5_root_56 : decode cX5_root 56 = .ok (.ireturn, 1) := by decide +kernel
set_option maxRecDepth 20000 in
theorem ggX5_shift_X5_isRegister : GoodIn wsX5_shift wsX5_isRegister := goodIn_r _ [8] (by decide +kernel) (by decide +kernel)
set_option maxRecDepth 20000 in
theorem gX5_shift_X5_isRegister : GoodIn wsX5_shift (va_wsS RX5 44 yX5_isRegister wsX5_isRegister) := goodIn_app (goodIn_of _ (by decide +kernel)) ggX5_shift_X5_isRegister
set_option maxRecDepth 20000 in
theorem ggX5_shift_X2_shiftDown : GoodIn wsX5_shift wsX2_shiftDown := goodIn_r _ [13, 14, 15, 16, 17, 18, 19, 20, 21, 22, 12, 23, 24, 25, 26, 27, 28, 29, 30, 31, 32, 33, 34, 35, 89, 90] (by decide +kernel) (by decide +kernel)
set_option maxRecDepth 20000 in
theorem gX5_shift_X2_shiftDown : GoodIn wsX5_shift (wsV RX5 123 RX2 yX2_shiftDown wsX2_shiftDown) := goodIn_app (goodIn_of _ (by decide +kernel)) ggX5_shift_X2_shiftDown
set_option maxRecDepth 20000 in
theorem ggX5_shift_X2_isZero : GoodIn wsX5_shift wsX2_isZero := goodIn_r _ [39, 14, 89, 90] (by decide +kernel) (by decide +kernel)
set_option maxRecDepth 20000 in
theorem gX5_shift_X2_isZero : GoodIn wsX5_shift (wsV RX5 76 RX2 yX2_isZero wsX2_isZero) := goodIn_app (goodIn_of _ (by decide +kernel)) ggX5_shift_X2_isZero
set_option maxRecDepth 20000 in
theorem ggX5_shift_X2_bitLength : GoodIn wsX5_shift wsX2_bitLength := goodIn_r _ [43, 14, 44, 45, 46, 12, 47, 25, 26, 27, 28, 19, 48, 49, 50, 51, 52, 89, 90] (by decide +kernel) (by decide +kernel)
set_option maxRecDepth 20000 in
theorem gX5_shift_X2_bitLength : GoodIn wsX5_shift (wsV RX5 100 RX2 yX2_bitLength wsX2_bitLength) := goodIn_app (goodIn_of _ (by decide +kernel)) ggX5_shift_X2_bitLength
set_option maxRecDepth 20000 in
theorem ggX5_shift_X2_shiftUp : GoodIn wsX5_shift wsX2_shiftUp := goodIn_r _ [56, 14, 33, 34, 17, 35, 19, 24, 25, 26, 27, 12, 28, 29, 30, 31, 32, 15, 16, 18, 89, 90] (by decide +kernel) (by decide +kernel)
set_option maxRecDepth 20000 in
theorem gX5_shift_X2_shiftUp : GoodIn wsX5_shift (wsV RX5 127 RX2 yX2_shiftUp wsX2_shiftUp) := goodIn_app (goodIn_of _ (by decide +kernel)) ggX5_shift_X2_shiftUp
set_option maxRecDepth 20000 in
theorem ggX5_shift_X4_takeSign : GoodIn wsX5_shift wsX4_takeSign := goodIn_r _ [61, 62, 63, 64, 37, 38, 12, 39, 14, 87, 88, 89, 90] (by decide +kernel) (by decide +kernel)
set_option maxRecDepth 20000 in
theorem gX5_shift_X4_takeSign : GoodIn wsX5_shift (wsV RX5 111 RX4 yX4_takeSign wsX4_takeSign) := goodIn_app (goodIn_of _ (by decide +kernel)) ggX5_shift_X4_takeSign
set_option maxRecDepth 20000 in
theorem ggX5_shift_X5_keepResult : GoodIn wsX5_shift wsX5_keepResult := goodIn_r _ [68, 2, 3, 1, 40, 41, 42, 12, 43, 14, 44, 45, 46, 47, 25, 26, 27, 28, 19, 48, 49, 50, 51, 52, 69, 70, 71, 60, 72, 62, 63, 73, 74, 75, 76, 77, 78, 79, 80, 81, 82, 83, 84, 85, 86, 87, 88, 89, 90] (by decide +kernel) (by decide +kernel)
set_option maxRecDepth 20000 in
theorem gX5_shift_X5_keepResult : GoodIn wsX5_shift (wsV RX5 64 RX5 yX5_keepResult wsX5_keepResult) := goodIn_app (goodIn_of _ (by decide +kernel)) ggX5_shift_X5_keepResult
theorem dX5_shift_0 : decode cX5_shift 0 = .ok (.iload_n 1, 1) := by decide +kernel
theorem dX5_shift_1 : decode cX5_shift 1 = .ok (.invokestatic 44, 3) := by decide +kernel
theorem dX5_shift_4 : decode cX5_shift 4 = .ok (.ifCond .eq 24, 3) := by decide +kernel
theorem dX5_shift_7 : decode cX5_shift 7 = .ok (.iload_n 2, 1) := by decide +kernel
theorem dX5_shift_8 : decode cX5_shift 8 = .ok (.invokestatic 44, 3) := by decide +kernel
theorem dX5_shift_11 : decode cX5_shift 11 = .ok (.ifCond .eq 17, 3) := by decide +kernel
theorem dX5_shift_14 : decode cX5_shift 14 = .ok (.iload_n 3, 1) := by decide +kernel
theorem dX5_shift_15 : decode cX5_shift 15 = .ok (.sipush (-4096), 3) := by decide +kernel
theorem dX5_shift_18 : decode cX5_shift 18 = .ok (.if_icmp .lt 10, 3) := by decide +kernel
theorem dX5_shift_21 : decode cX5_shift 21 = .ok (.iload_n 3, 1) := by decide +kernel
theorem dX5_shift_22 : decode cX5_shift 22 = .ok (.sipush 4096, 3) := by decide +kernel
theorem dX5_shift_25 : decode cX5_shift 25 = .ok (.if_icmp .le 5, 3) := by decide +kernel
theorem dX5_shift_28 : decode cX5_shift 28 = .ok (.iconst (-1), 1) := by decide +kernel
theorem dX5_shift_29 : decode cX5_shift 29 = .ok (.ireturn, 1) := by decide +kernel
theorem dX5_shift_30 : decode cX5_shift 30 = .ok (.aload_n 0, 1) := by decide +kernel
theorem dX5_shift_31 : decode cX5_shift 31 = .ok (.getfield 11, 3) := by decide +kernel
theorem dX5_shift_34 : decode cX5_shift 34 = .ok (.iload_n 2, 1) := by decide +kernel
theorem dX5_shift_35 : decode cX5_shift 35 = .ok (.aaload, 1) := by decide +kernel
theorem dX5_shift_36 : decode cX5_shift 36 = .ok (.astore 4, 2) := by decide +kernel
theorem dX5_shift_38 : decode cX5_shift 38 = .ok (.iload_n 3, 1) := by decide +kernel
theorem dX5_shift_39 : decode cX5_shift 39 = .ok (.ifCond .gt 23, 3) := by decide +kernel
theorem dX5_shift_42 : decode cX5_shift 42 = .ok (.aload_n 0, 1) := by decide +kernel
theorem dX5_shift_43 : decode cX5_shift 43 = .ok (.getfield 16, 3) := by decide +kernel
theorem dX5_shift_46 : decode cX5_shift 46 = .ok (.getfield 72, 3) := by decide +kernel
theorem dX5_shift_49 : decode cX5_shift 49 = .ok (.aload 4, 2) := by decide +kernel
theorem dX5_shift_51 : decode cX5_shift 51 = .ok (.getfield 72, 3) := by decide +kernel
theorem dX5_shift_54 : decode cX5_shift 54 = .ok (.iload_n 3, 1) := by decide +kernel
theorem dX5_shift_55 : decode cX5_shift 55 = .ok (.ineg, 1) := by decide +kernel
theorem dX5_shift_56 : decode cX5_shift 56 = .ok (.invokevirtual 123, 3) := by decide +kernel
theorem dX5_shift_59 : decode cX5_shift 59 = .ok (.goto 51, 3) := by decide +kernel
theorem dX5_shift_62 : decode cX5_shift 62 = .ok (.aload 4, 2) := by decide +kernel
theorem dX5_shift_64 : decode cX5_shift 64 = .ok (.getfield 72, 3) := by decide +kernel
theorem dX5_shift_67 : decode cX5_shift 67 = .ok (.invokevirtual 76, 3) := by decide +kernel
theorem dX5_shift_70 : decode cX5_shift 70 = .ok (.ifCond .ne 19, 3) := by decide +kernel
theorem dX5_shift_73 : decode cX5_shift 73 = .ok (.aload 4, 2) := by decide +kernel
theorem dX5_shift_75 : decode cX5_shift 75 = .ok (.getfield 72, 3) := by decide +kernel
theorem dX5_shift_78 : decode cX5_shift 78 = .ok (.invokevirtual 100, 3) := by decide +kernel
theorem dX5_shift_81 : decode cX5_shift 81 = .ok (.iload_n 3, 1) := by decide +kernel
theorem dX5_shift_82 : decode cX5_shift 82 = .ok (.iadd, 1) := by decide +kernel
theorem dX5_shift_83 : decode cX5_shift 83 = .ok (.sipush 4096, 3) := by decide +kernel
theorem dX5_shift_86 : decode cX5_shift 86 = .ok (.if_icmp .gt 22, 3) := by decide +kernel
theorem dX5_shift_89 : decode cX5_shift 89 = .ok (.aload_n 0, 1) := by decide +kernel
theorem dX5_shift_90 : decode cX5_shift 90 = .ok (.getfield 16, 3) := by decide +kernel
theorem dX5_shift_93 : decode cX5_shift 93 = .ok (.getfield 72, 3) := by decide +kernel
theorem dX5_shift_96 : decode cX5_shift 96 = .ok (.aload 4, 2) := by decide +kernel
theorem dX5_shift_98 : decode cX5_shift 98 = .ok (.getfield 72, 3) := by decide +kernel
theorem dX5_shift_101 : decode cX5_shift 101 = .ok (.iload_n 3, 1) := by decide +kernel
theorem dX5_shift_102 : decode cX5_shift 102 = .ok (.invokevirtual 127, 3) := by decide +kernel
theorem dX5_shift_105 : decode cX5_shift 105 = .ok (.goto 5, 3) := by decide +kernel
theorem dX5_shift_108 : decode cX5_shift 108 = .ok (.iconst (-1), 1) := by decide +kernel
theorem dX5_shift_109 : decode cX5_shift 109 = .ok (.ireturn, 1) := by decide +kernel
theorem dX5_shift_110 : decode cX5_shift 110 = .ok (.aload_n 0, 1) := by decide +kernel
theorem dX5_shift_111 : decode cX5_shift 111 = .ok (.getfield 16, 3) := by decide +kernel
theorem dX5_shift_114 : decode cX5_shift 114 = .ok (.aload 4, 2) := by decide +kernel
theorem dX5_shift_116 : decode cX5_shift 116 = .ok (.getfield 56, 3) := by decide +kernel
theorem dX5_shift_119 : decode cX5_shift 119 = .ok (.invokevirtual 111, 3) := by decide +kernel
theorem dX5_shift_122 : decode cX5_shift 122 = .ok (.aload_n 0, 1) := by decide +kernel
theorem dX5_shift_123 : decode cX5_shift 123 = .ok (.iload_n 1, 1) := by decide +kernel
theorem dX5_shift_124 : decode cX5_shift 124 = .ok (.invokevirtual 64, 3) := by decide +kernel
theorem dX5_shift_127 : decode cX5_shift 127 = .ok (.ireturn, 1) := by decide +kernel
set_option maxRecDepth 20000 in
theorem ggX5_power_X5_isRegister : GoodIn wsX5_power wsX5_isRegister := goodIn_r _ [5] (by decide +kernel) (by decide +kernel)
set_option maxRecDepth 20000 in
theorem gX5_power_X5_isRegister : GoodIn wsX5_power (va_wsS RX5 44 yX5_isRegister wsX5_isRegister) := goodIn_app (goodIn_of _ (by decide +kernel)) ggX5_power_X5_isRegister
set_option maxRecDepth 20000 in
theorem ggX5_power_X5_takePower : GoodIn wsX5_power wsX5_takePower := goodIn_r _ [9, 10, 11, 12, 13, 14, 15, 16, 17, 18, 19, 20, 21, 22, 23, 24, 25, 26, 27, 28, 29, 30, 31, 32, 33, 34, 35, 36, 37, 38, 39, 4, 40, 41, 42, 43, 44, 45, 46, 47, 48, 49, 50, 51, 52, 53, 54, 55, 56, 57, 58, 59, 60, 61, 62, 63, 64, 65, 66, 67, 68, 69, 70, 71, 72, 73, 74, 75, 76, 77, 78, 79, 80, 81, 82, 83, 84, 85, 86, 87, 88, 89, 90, 91, 92, 97, 98, 99, 100, 101, 102, 103, 104, 105, 106] (by decide +kernel) (by decide +kernel)
set_option maxRecDepth 20000 in
theorem gX5_power_X5_takePower : GoodIn wsX5_power (wsV RX5 130 RX5 yX5_takePower wsX5_takePower) := goodIn_app (goodIn_of _ (by decide +kernel)) ggX5_power_X5_takePower
set_option maxRecDepth 20000 in
theorem ggX5_power_X5_keepResult : GoodIn wsX5_power wsX5_keepResult := goodIn_r _ [96, 10, 42, 1, 80, 48, 49, 21, 50, 36, 51, 52, 53, 54, 55, 56, 57, 58, 23, 59, 60, 61, 62, 63, 81, 82, 83, 14, 84, 16, 17, 85, 86, 87, 88, 89, 90, 91, 92, 97, 98, 99, 100, 101, 102, 103, 104, 105, 106] (by decide +kernel) (by decide +kernel)
set_option maxRecDepth 20000 in
theorem gX5_power_X5_keepResult : GoodIn wsX5_power (wsV RX5 64 RX5 yX5_keepResult wsX5_keepResult) := goodIn_app (goodIn_of _ (by decide +kernel)) ggX5_power_X5_keepResult
theorem dX5_power_0 : decode cX5_power 0 = .ok (.iload_n 1, 1) := by decide +kernel
theorem dX5_power_1 : decode cX5_power 1 = .ok (.invokestatic 44, 3) := by decide +kernel
theorem dX5_power_4 : decode cX5_power 4 = .ok (.ifCond .eq 21, 3) := by decide +kernel
theorem dX5_power_7 : decode cX5_power 7 = .ok (.iload_n 2, 1) := by decide +kernel
theorem dX5_power_8 : decode cX5_power 8 = .ok (.invokestatic 44, 3) := by decide +kernel
theorem dX5_power_11 : decode cX5_power 11 = .ok (.ifCond .eq 14, 3) := by decide +kernel
theorem dX5_power_14 : decode cX5_power 14 = .ok (.iload_n 3, 1) := by decide +kernel
theorem dX5_power_15 : decode cX5_power 15 = .ok (.ifCond .lt 10, 3) := by decide +kernel
theorem dX5_power_18 : decode cX5_power 18 = .ok (.iload_n 3, 1) := by decide +kernel
theorem dX5_power_19 : decode cX5_power 19 = .ok (.sipush 4096, 3) := by decide +kernel
theorem dX5_power_22 : decode cX5_power 22 = .ok (.if_icmp .le 5, 3) := by decide +kernel
theorem dX5_power_25 : decode cX5_power 25 = .ok (.iconst (-1), 1) := by decide +kernel
theorem dX5_power_26 : decode cX5_power 26 = .ok (.ireturn, 1) := by decide +kernel
theorem dX5_power_27 : decode cX5_power 27 = .ok (.aload_n 0, 1) := by decide +kernel
theorem dX5_power_28 : decode cX5_power 28 = .ok (.aload_n 0, 1) := by decide +kernel
theorem dX5_power_29 : decode cX5_power 29 = .ok (.getfield 11, 3) := by decide +kernel
theorem dX5_power_32 : decode cX5_power 32 = .ok (.iload_n 2, 1) := by decide +kernel
theorem dX5_power_33 : decode cX5_power 33 = .ok (.aaload, 1) := by decide +kernel
theorem dX5_power_34 : decode cX5_power 34 = .ok (.iload_n 3, 1) := by decide +kernel
theorem dX5_power_35 : decode cX5_power 35 = .ok (.invokevirtual 130, 3) := by decide +kernel
theorem dX5_power_38 : decode cX5_power 38 = .ok (.ifCond .eq 11, 3) := by decide +kernel
theorem dX5_power_41 : decode cX5_power 41 = .ok (.aload_n 0, 1) := by decide +kernel
theorem dX5_power_42 : decode cX5_power 42 = .ok (.iload_n 1, 1) := by decide +kernel
theorem dX5_power_43 : decode cX5_power 43 = .ok (.invokevirtual 64, 3) := by decide +kernel
theorem dX5_power_46 : decode cX5_power 46 = .ok (.goto 4, 3) := by decide +kernel
theorem dX5_power_49 : decode cX5_power 49 = .ok (.iconst (-1), 1) := by decide +kernel
theorem dX5_power_50 : decode cX5_power 50 = .ok (.ireturn, 1) := by decide +kernel
set_option maxRecDepth 20000 in
theorem ggX5_compare_X5_isRegister : GoodIn wsX5_compare wsX5_isRegister := goodIn_r _ [5] (by decide +kernel) (by decide +kernel)
set_option maxRecDepth 20000 in
theorem gX5_compare_X5_isRegister : GoodIn wsX5_compare (va_wsS RX5 44 yX5_isRegister wsX5_isRegister) := goodIn_app (goodIn_of _ (by decide +kernel)) ggX5_compare_X5_isRegister
set_option maxRecDepth 20000 in
theorem ggX5_compare_X4_order : GoodIn wsX5_compare wsX4_order := goodIn_r _ [10, 11, 12, 13, 14, 15, 16, 17, 18, 19, 26, 27, 28, 29] (by decide +kernel) (by decide +kernel)
set_option maxRecDepth 20000 in
theorem gX5_compare_X4_order : GoodIn wsX5_compare (wsV RX5 134 RX4 yX4_order wsX4_order) := goodIn_app (goodIn_of _ (by decide +kernel)) ggX5_compare_X4_order
theorem dX5_compare_0 : decode cX5_compare 0 = .ok (.iload_n 1, 1) := by decide +kernel
theorem dX5_compare_1 : decode cX5_compare 1 = .ok (.invokestatic 44, 3) := by decide +kernel
theorem dX5_compare_4 : decode cX5_compare 4 = .ok (.ifCond .eq 10, 3) := by decide +kernel
theorem dX5_compare_7 : decode cX5_compare 7 = .ok (.iload_n 2, 1) := by decide +kernel
theorem dX5_compare_8 : decode cX5_compare 8 = .ok (.invokestatic 44, 3) := by decide +kernel
theorem dX5_compare_11 : decode cX5_compare 11 = .ok (.ifCond .ne 5, 3) := by decide +kernel
theorem dX5_compare_14 : decode cX5_compare 14 = .ok (.iconst 2, 1) := by decide +kernel
theorem dX5_compare_15 : decode cX5_compare 15 = .ok (.ireturn, 1) := by decide +kernel
theorem dX5_compare_16 : decode cX5_compare 16 = .ok (.aload_n 0, 1) := by decide +kernel
theorem dX5_compare_17 : decode cX5_compare 17 = .ok (.getfield 11, 3) := by decide +kernel
theorem dX5_compare_20 : decode cX5_compare 20 = .ok (.iload_n 1, 1) := by decide +kernel
theorem dX5_compare_21 : decode cX5_compare 21 = .ok (.aaload, 1) := by decide +kernel
theorem dX5_compare_22 : decode cX5_compare 22 = .ok (.aload_n 0, 1) := by decide +kernel
theorem dX5_compare_23 : decode cX5_compare 23 = .ok (.getfield 11, 3) := by decide +kernel
theorem dX5_compare_26 : decode cX5_compare 26 = .ok (.iload_n 2, 1) := by decide +kernel
theorem dX5_compare_27 : decode cX5_compare 27 = .ok (.aaload, 1) := by decide +kernel
theorem dX5_compare_28 : decode cX5_compare 28 = .ok (.invokevirtual 134, 3) := by decide +kernel
theorem dX5_compare_31 : decode cX5_compare 31 = .ok (.ireturn, 1) := by decide +kernel
set_option maxRecDepth 20000 in
theorem ggX5_sign_X5_isRegister : GoodIn wsX5_sign wsX5_isRegister := goodIn_r _ [5] (by decide +kernel) (by decide +kernel)
set_option maxRecDepth 20000 in
theorem gX5_sign_X5_isRegister : GoodIn wsX5_sign (va_wsS RX5 44 yX5_isRegister wsX5_isRegister) := goodIn_app (goodIn_of _ (by decide +kernel)) ggX5_sign_X5_isRegister
set_option maxRecDepth 20000 in
theorem ggX5_sign_X4_direction : GoodIn wsX5_sign wsX4_direction := goodIn_r _ [10, 11, 12, 13, 14, 15, 16, 17, 18, 25, 26, 27, 28] (by decide +kernel) (by decide +kernel)
set_option maxRecDepth 20000 in
theorem gX5_sign_X4_direction : GoodIn wsX5_sign (wsV RX5 138 RX4 yX4_direction wsX4_direction) := goodIn_app (goodIn_of _ (by decide +kernel)) ggX5_sign_X4_direction
theorem dX5_sign_0 : decode cX5_sign 0 = .ok (.iload_n 1, 1) := by decide +kernel
theorem dX5_sign_1 : decode cX5_sign 1 = .ok (.invokestatic 44, 3) := by decide +kernel
theorem dX5_sign_4 : decode cX5_sign 4 = .ok (.ifCond .eq 15, 3) := by decide +kernel
theorem dX5_sign_7 : decode cX5_sign 7 = .ok (.aload_n 0, 1) := by decide +kernel
theorem dX5_sign_8 : decode cX5_sign 8 = .ok (.getfield 11, 3) := by decide +kernel
theorem dX5_sign_11 : decode cX5_sign 11 = .ok (.iload_n 1, 1) := by decide +kernel
theorem dX5_sign_12 : decode cX5_sign 12 = .ok (.aaload, 1) := by decide +kernel
theorem dX5_sign_13 : decode cX5_sign 13 = .ok (.invokevirtual 138, 3) := by decide +kernel
theorem dX5_sign_16 : decode cX5_sign 16 = .ok (.goto 4, 3) := by decide +kernel
theorem dX5_sign_19 : decode cX5_sign 19 = .ok (.iconst 2, 1) := by decide +kernel
theorem dX5_sign_20 : decode cX5_sign 20 = .ok (.ireturn, 1) := by decide +kernel
set_option maxRecDepth 20000 in
theorem ggX5_bits_X5_isRegister : GoodIn wsX5_bits wsX5_isRegister := goodIn_r _ [6] (by decide +kernel) (by decide +kernel)
set_option maxRecDepth 20000 in
theorem gX5_bits_X5_isRegister : GoodIn wsX5_bits (va_wsS RX5 44 yX5_isRegister wsX5_isRegister) := goodIn_app (goodIn_of _ (by decide +kernel)) ggX5_bits_X5_isRegister
set_option maxRecDepth 20000 in
theorem ggX5_bits_X2_bitLength : GoodIn wsX5_bits wsX2_bitLength := goodIn_r _ [11, 12, 13, 14, 15, 10, 16, 17, 18, 19, 20, 21, 22, 23, 24, 25, 26, 35, 36] (by decide +kernel) (by decide +kernel)
set_option maxRecDepth 20000 in
theorem gX5_bits_X2_bitLength : GoodIn wsX5_bits (wsV RX5 100 RX2 yX2_bitLength wsX2_bitLength) := goodIn_app (goodIn_of _ (by decide +kernel)) ggX5_bits_X2_bitLength
theorem dX5_bits_0 : decode cX5_bits 0 = .ok (.iload_n 1, 1) := by decide +kernel
theorem dX5_bits_1 : decode cX5_bits 1 = .ok (.invokestatic 44, 3) := by decide +kernel
theorem dX5_bits_4 : decode cX5_bits 4 = .ok (.ifCond .eq 18, 3) := by decide +kernel
theorem dX5_bits_7 : decode cX5_bits 7 = .ok (.aload_n 0, 1) := by decide +kernel
theorem dX5_bits_8 : decode cX5_bits 8 = .ok (.getfield 11, 3) := by decide +kernel
theorem dX5_bits_11 : decode cX5_bits 11 = .ok (.iload_n 1, 1) := by decide +kernel
theorem dX5_bits_12 : decode cX5_bits 12 = .ok (.aaload, 1) := by decide +kernel
theorem dX5_bits_13 : decode cX5_bits 13 = .ok (.getfield 72, 3) := by decide +kernel
theorem dX5_bits_16 : decode cX5_bits 16 = .ok (.invokevirtual 100, 3) := by decide +kernel
theorem dX5_bits_19 : decode cX5_bits 19 = .ok (.goto 4, 3) := by decide +kernel
theorem dX5_bits_22 : decode cX5_bits 22 = .ok (.iconst (-1), 1) := by decide +kernel
theorem dX5_bits_23 : decode cX5_bits 23 = .ok (.ireturn, 1) := by decide +kernel
set_option maxRecDepth 20000 in
theorem ggX5_part_X5_isRegister : GoodIn wsX5_part wsX5_isRegister := goodIn_r _ [6] (by decide +kernel) (by decide +kernel)
set_option maxRecDepth 20000 in
theorem gX5_part_X5_isRegister : GoodIn wsX5_part (va_wsS RX5 44 yX5_isRegister wsX5_isRegister) := goodIn_app (goodIn_of _ (by decide +kernel)) ggX5_part_X5_isRegister
set_option maxRecDepth 20000 in
theorem ggX5_part_X2_limbFrom : GoodIn wsX5_part wsX2_limbFrom := goodIn_r _ [11, 12, 13, 14, 15, 10, 16, 17, 18, 27, 28] (by decide +kernel) (by decide +kernel)
set_option maxRecDepth 20000 in
theorem gX5_part_X2_limbFrom : GoodIn wsX5_part (wsV RX5 141 RX2 yX2_limbFrom wsX2_limbFrom) := goodIn_app (goodIn_of _ (by decide +kernel)) ggX5_part_X2_limbFrom
theorem dX5_part_0 : decode cX5_part 0 = .ok (.iload_n 1, 1) := by decide +kernel
theorem dX5_part_1 : decode cX5_part 1 = .ok (.invokestatic 44, 3) := by decide +kernel
theorem dX5_part_4 : decode cX5_part 4 = .ok (.ifCond .eq 23, 3) := by decide +kernel
theorem dX5_part_7 : decode cX5_part 7 = .ok (.iload_n 2, 1) := by decide +kernel
theorem dX5_part_8 : decode cX5_part 8 = .ok (.ifCond .lt 19, 3) := by decide +kernel
theorem dX5_part_11 : decode cX5_part 11 = .ok (.aload_n 0, 1) := by decide +kernel
theorem dX5_part_12 : decode cX5_part 12 = .ok (.getfield 11, 3) := by decide +kernel
theorem dX5_part_15 : decode cX5_part 15 = .ok (.iload_n 1, 1) := by decide +kernel
theorem dX5_part_16 : decode cX5_part 16 = .ok (.aaload, 1) := by decide +kernel
theorem dX5_part_17 : decode cX5_part 17 = .ok (.getfield 72, 3) := by decide +kernel
theorem dX5_part_20 : decode cX5_part 20 = .ok (.iload_n 2, 1) := by decide +kernel
theorem dX5_part_21 : decode cX5_part 21 = .ok (.invokevirtual 141, 3) := by decide +kernel
theorem dX5_part_24 : decode cX5_part 24 = .ok (.goto 4, 3) := by decide +kernel
theorem dX5_part_27 : decode cX5_part 27 = .ok (.iconst (-1), 1) := by decide +kernel
theorem dX5_part_28 : decode cX5_part 28 = .ok (.ireturn, 1) := by decide +kernel
set_option maxRecDepth 20000 in
theorem ggX5_hasBelow_X5_isRegister : GoodIn wsX5_hasBelow wsX5_isRegister := goodIn_r _ [6] (by decide +kernel) (by decide +kernel)
set_option maxRecDepth 20000 in
theorem gX5_hasBelow_X5_isRegister : GoodIn wsX5_hasBelow (va_wsS RX5 44 yX5_isRegister wsX5_isRegister) := goodIn_app (goodIn_of _ (by decide +kernel)) ggX5_hasBelow_X5_isRegister
set_option maxRecDepth 20000 in
theorem ggX5_hasBelow_X2_anyBitBelow : GoodIn wsX5_hasBelow wsX2_anyBitBelow := goodIn_r _ [11, 12, 13, 14, 15, 16, 10, 17, 26, 27] (by decide +kernel) (by decide +kernel)
set_option maxRecDepth 20000 in
theorem gX5_hasBelow_X2_anyBitBelow : GoodIn wsX5_hasBelow (wsV RX5 144 RX2 yX2_anyBitBelow wsX2_anyBitBelow) := goodIn_app (goodIn_of _ (by decide +kernel)) ggX5_hasBelow_X2_anyBitBelow
theorem dX5_hasBelow_0 : decode cX5_hasBelow 0 = .ok (.iload_n 1, 1) := by decide +kernel
theorem dX5_hasBelow_1 : decode cX5_hasBelow 1 = .ok (.invokestatic 44, 3) := by decide +kernel
theorem dX5_hasBelow_4 : decode cX5_hasBelow 4 = .ok (.ifCond .eq 28, 3) := by decide +kernel
theorem dX5_hasBelow_7 : decode cX5_hasBelow 7 = .ok (.iload_n 2, 1) := by decide +kernel
theorem dX5_hasBelow_8 : decode cX5_hasBelow 8 = .ok (.iconst 1, 1) := by decide +kernel
theorem dX5_hasBelow_9 : decode cX5_hasBelow 9 = .ok (.if_icmp .lt 23, 3) := by decide +kernel
theorem dX5_hasBelow_12 : decode cX5_hasBelow 12 = .ok (.aload_n 0, 1) := by decide +kernel
theorem dX5_hasBelow_13 : decode cX5_hasBelow 13 = .ok (.getfield 11, 3) := by decide +kernel
theorem dX5_hasBelow_16 : decode cX5_hasBelow 16 = .ok (.iload_n 1, 1) := by decide +kernel
theorem dX5_hasBelow_17 : decode cX5_hasBelow 17 = .ok (.aaload, 1) := by decide +kernel
theorem dX5_hasBelow_18 : decode cX5_hasBelow 18 = .ok (.getfield 72, 3) := by decide +kernel
theorem dX5_hasBelow_21 : decode cX5_hasBelow 21 = .ok (.iload_n 2, 1) := by decide +kernel
theorem dX5_hasBelow_22 : decode cX5_hasBelow 22 = .ok (.invokevirtual 144, 3) := by decide +kernel
theorem dX5_hasBelow_25 : decode cX5_hasBelow 25 = .ok (.ifCond .eq 7, 3) := by decide +kernel
theorem dX5_hasBelow_28 : decode cX5_hasBelow 28 = .ok (.iconst 1, 1) := by decide +kernel
theorem dX5_hasBelow_29 : decode cX5_hasBelow 29 = .ok (.goto 4, 3) := by decide +kernel
theorem dX5_hasBelow_32 : decode cX5_hasBelow 32 = .ok (.iconst 0, 1) := by decide +kernel
theorem dX5_hasBelow_33 : decode cX5_hasBelow 33 = .ok (.ireturn, 1) := by decide +kernel
set_option maxRecDepth 20000 in
theorem ggX5_low_X5_fits : GoodIn wsX5_low wsX5_fits := goodIn_r _ [6, 1, 7, 8, 5, 9, 10, 11, 12, 13, 14, 15, 16, 17, 18, 19, 20, 21, 22, 23, 24, 25, 26, 27, 28, 29, 30, 31, 32, 33, 34, 35, 36, 37, 38, 39, 40, 49, 50, 51, 52, 53, 54, 55, 56, 57, 58] (by decide +kernel) (by decide +kernel)
set_option maxRecDepth 20000 in
theorem gX5_low_X5_fits : GoodIn wsX5_low (wsV RX5 147 RX5 yX5_fits wsX5_fits) := goodIn_app (goodIn_of _ (by decide +kernel)) ggX5_low_X5_fits
set_option maxRecDepth 20000 in
theorem ggX5_low_X4_asLong : GoodIn wsX5_low wsX4_asLong := goodIn_r _ [44, 16, 15, 45, 46, 47, 20, 48, 27, 28, 29, 30, 22, 31, 55, 56, 57, 58] (by decide +kernel) (by decide +kernel)
set_option maxRecDepth 20000 in
theorem gX5_low_X4_asLong : GoodIn wsX5_low (wsV RX5 150 RX4 yX4_asLong wsX4_asLong) := goodIn_app (goodIn_of _ (by decide +kernel)) ggX5_low_X4_asLong
theorem dX5_low_0 : decode cX5_low 0 = .ok (.aload_n 0, 1) := by decide +kernel
theorem dX5_low_1 : decode cX5_low 1 = .ok (.iload_n 1, 1) := by decide +kernel
theorem dX5_low_2 : decode cX5_low 2 = .ok (.invokevirtual 147, 3) := by decide +kernel
theorem dX5_low_5 : decode cX5_low 5 = .ok (.ifCond .eq 15, 3) := by decide +kernel
theorem dX5_low_8 : decode cX5_low 8 = .ok (.aload_n 0, 1) := by decide +kernel
theorem dX5_low_9 : decode cX5_low 9 = .ok (.getfield 11, 3) := by decide +kernel
theorem dX5_low_12 : decode cX5_low 12 = .ok (.iload_n 1, 1) := by decide +kernel
theorem dX5_low_13 : decode cX5_low 13 = .ok (.aaload, 1) := by decide +kernel
theorem dX5_low_14 : decode cX5_low 14 = .ok (.invokevirtual 150, 3) := by decide +kernel
theorem dX5_low_17 : decode cX5_low 17 = .ok (.goto 4, 3) := by decide +kernel
theorem dX5_low_20 : decode cX5_low 20 = .ok (.lconst 0, 1) := by decide +kernel
theorem dX5_low_21 : decode cX5_low 21 = .ok (.lreturn, 1) := by decide +kernel
set_option maxRecDepth 20000 in
theorem ggX5_fits_X5_isRegister : GoodIn wsX5_fits wsX5_isRegister := goodIn_r _ [5] (by decide +kernel) (by decide +kernel)
set_option maxRecDepth 20000 in
theorem gX5_fits_X5_isRegister : GoodIn wsX5_fits (va_wsS RX5 44 yX5_isRegister wsX5_isRegister) := goodIn_app (goodIn_of _ (by decide +kernel)) ggX5_fits_X5_isRegister
set_option maxRecDepth 20000 in
theorem ggX5_fits_X4_isLong : GoodIn wsX5_fits wsX4_isLong := goodIn_r _ [10, 11, 12, 13, 14, 15, 16, 17, 18, 19, 20, 21, 22, 23, 24, 25, 26, 27, 28, 29, 30, 31, 32, 33, 34, 35, 36, 43, 44, 45, 46] (by decide +kernel) (by decide +kernel)
set_option maxRecDepth 20000 in
theorem gX5_fits_X4_isLong : GoodIn wsX5_fits (wsV RX5 154 RX4 yX4_isLong wsX4_isLong) := goodIn_app (goodIn_of _ (by decide +kernel)) ggX5_fits_X4_isLong
theorem dX5_fits_0 : decode cX5_fits 0 = .ok (.iload_n 1, 1) := by decide +kernel
theorem dX5_fits_1 : decode cX5_fits 1 = .ok (.invokestatic 44, 3) := by decide +kernel
theorem dX5_fits_4 : decode cX5_fits 4 = .ok (.ifCond .eq 19, 3) := by decide +kernel
theorem dX5_fits_7 : decode cX5_fits 7 = .ok (.aload_n 0, 1) := by decide +kernel
theorem dX5_fits_8 : decode cX5_fits 8 = .ok (.getfield 11, 3) := by decide +kernel
theorem dX5_fits_11 : decode cX5_fits 11 = .ok (.iload_n 1, 1) := by decide +kernel
