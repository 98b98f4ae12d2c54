theorem dX5_fits_12 : decode cX5_fits 12 = .ok (.aaload, 1) := by decide +kernel
theorem dX5_fits_13 : decode cX5_fits 13 = .ok (.invokevirtual 154, 3) := by decide +kernel
theorem dX5_fits_16 : decode cX5_fits 16 = .ok (.ifCond .eq 7, 3) := by decide +kernel
theorem dX5_fits_19 : decode cX5_fits 19 = .ok (.iconst 1, 1) := by decide +kernel
theorem dX5_fits_20 : decode cX5_fits 20 = .ok (.goto 4, 3) := by decide +kernel
theorem dX5_fits_23 : decode cX5_fits 23 = .ok (.iconst 0, 1) := by decide +kernel
theorem dX5_fits_24 : decode cX5_fits 24 = .ok (.ireturn, 1) := by decide +kernel
set_option maxRecDepth 20000 in
theorem ggX5_write_X5_isRegister : GoodIn wsX5_write wsX5_isRegister := goodIn_r _ [8] (by decide +kernel) (by decide +kernel)
set_option maxRecDepth 20000 in
theorem gX5_write_X5_isRegister : GoodIn wsX5_write (va_wsS RX5 44 yX5_isRegister wsX5_isRegister) := goodIn_app (goodIn_of _ (by decide +kernel)) ggX5_write_X5_isRegister
set_option maxRecDepth 20000 in
theorem ggX5_write_X5_isBase : GoodIn wsX5_write wsX5_isBase := goodIn_r _ [11] (by decide +kernel) (by decide +kernel)
set_option maxRecDepth 20000 in
theorem gX5_write_X5_isBase : GoodIn wsX5_write (va_wsS RX5 157 yX5_isBase wsX5_isBase) := goodIn_app (goodIn_of _ (by decide +kernel)) ggX5_write_X5_isBase
set_option maxRecDepth 20000 in
theorem ggX5_write_X4_take : GoodIn wsX5_write wsX4_take := goodIn_r _ [16, 17, 18, 19, 20, 21, 22, 23, 24, 25, 26, 27, 28, 29, 88, 89, 90, 91] (by decide +kernel) (by decide +kernel)
set_option maxRecDepth 20000 in
theorem gX5_write_X4_take : GoodIn wsX5_write (wsV RX5 97 RX4 yX4_take wsX4_take) := goodIn_app (goodIn_of _ (by decide +kernel)) ggX5_write_X4_take
set_option maxRecDepth 20000 in
theorem ggX5_write_X3_spell : GoodIn wsX5_write wsX3_spell := goodIn_r _ [34, 35, 36, 37, 38, 39, 40, 33, 41, 42, 43, 44, 22, 45, 25, 46, 47, 48, 49, 50, 51, 52, 53, 54, 55, 56, 57, 58, 59, 60, 61, 24, 62, 63, 64, 65, 66, 67, 68, 69, 70, 71, 72, 73, 74, 75, 76, 77, 78, 79, 86, 87, 88, 89, 90, 91] (by decide +kernel) (by decide +kernel)
set_option maxRecDepth 20000 in
theorem gX5_write_X3_spell : GoodIn wsX5_write (wsV RX5 160 RX3 yX3_spell wsX3_spell) := goodIn_app (goodIn_of _ (by decide +kernel)) ggX5_write_X3_spell
theorem dX5_write_0 : decode cX5_write 0 = .ok (.iload_n 1, 1) := by decide +kernel
theorem dX5_write_1 : decode cX5_write 1 = .ok (.invokestatic 44, 3) := by decide +kernel
theorem dX5_write_4 : decode cX5_write 4 = .ok (.ifCond .eq 10, 3) := by decide +kernel
theorem dX5_write_7 : decode cX5_write 7 = .ok (.iload_n 2, 1) := by decide +kernel
theorem dX5_write_8 : decode cX5_write 8 = .ok (.invokestatic 157, 3) := by decide +kernel
theorem dX5_write_11 : decode cX5_write 11 = .ok (.ifCond .ne 5, 3) := by decide +kernel
theorem dX5_write_14 : decode cX5_write 14 = .ok (.iconst (-1), 1) := by decide +kernel
theorem dX5_write_15 : decode cX5_write 15 = .ok (.ireturn, 1) := by decide +kernel
theorem dX5_write_16 : decode cX5_write 16 = .ok (.aload_n 0, 1) := by decide +kernel
theorem dX5_write_17 : decode cX5_write 17 = .ok (.getfield 16, 3) := by decide +kernel
theorem dX5_write_20 : decode cX5_write 20 = .ok (.aload_n 0, 1) := by decide +kernel
theorem dX5_write_21 : decode cX5_write 21 = .ok (.getfield 11, 3) := by decide +kernel
theorem dX5_write_24 : decode cX5_write 24 = .ok (.iload_n 1, 1) := by decide +kernel
theorem dX5_write_25 : decode cX5_write 25 = .ok (.aaload, 1) := by decide +kernel
theorem dX5_write_26 : decode cX5_write 26 = .ok (.invokevirtual 97, 3) := by decide +kernel
theorem dX5_write_29 : decode cX5_write 29 = .ok (.aload_n 0, 1) := by decide +kernel
theorem dX5_write_30 : decode cX5_write 30 = .ok (.getfield 40, 3) := by decide +kernel
theorem dX5_write_33 : decode cX5_write 33 = .ok (.aload_n 0, 1) := by decide +kernel
theorem dX5_write_34 : decode cX5_write 34 = .ok (.getfield 16, 3) := by decide +kernel
theorem dX5_write_37 : decode cX5_write 37 = .ok (.iload_n 2, 1) := by decide +kernel
theorem dX5_write_38 : decode cX5_write 38 = .ok (.invokevirtual 160, 3) := by decide +kernel
theorem dX5_write_41 : decode cX5_write 41 = .ok (.aload_n 0, 1) := by decide +kernel
theorem dX5_write_42 : decode cX5_write 42 = .ok (.getfield 40, 3) := by decide +kernel
theorem dX5_write_45 : decode cX5_write 45 = .ok (.getfield 164, 3) := by decide +kernel
theorem dX5_write_48 : decode cX5_write 48 = .ok (.ireturn, 1) := by decide +kernel
set_option maxRecDepth 20000 in
theorem ggX5_type_X3_append : GoodIn wsX5_type wsX3_append := goodIn_r _ [7, 8, 9, 16, 17] (by decide +kernel) (by decide +kernel)
set_option maxRecDepth 20000 in
theorem gX5_type_X3_append : GoodIn wsX5_type (wsV RX5 168 RX3 yX3_append wsX3_append) := goodIn_app (goodIn_of _ (by decide +kernel)) ggX5_type_X3_append
theorem dX5_type_0 : decode cX5_type 0 = .ok (.iload_n 1, 1) := by decide +kernel
theorem dX5_type_1 : decode cX5_type 1 = .ok (.ifCond .lt 22, 3) := by decide +kernel
theorem dX5_type_4 : decode cX5_type 4 = .ok (.iload_n 1, 1) := by decide +kernel
theorem dX5_type_5 : decode cX5_type 5 = .ok (.bipush 127, 2) := by decide +kernel
theorem dX5_type_7 : decode cX5_type 7 = .ok (.if_icmp .gt 16, 3) := by decide +kernel
theorem dX5_type_10 : decode cX5_type 10 = .ok (.aload_n 0, 1) := by decide +kernel
theorem dX5_type_11 : decode cX5_type 11 = .ok (.getfield 40, 3) := by decide +kernel
theorem dX5_type_14 : decode cX5_type 14 = .ok (.getfield 164, 3) := by decide +kernel
theorem dX5_type_17 : decode cX5_type 17 = .ok (.sipush 1300, 3) := by decide +kernel
theorem dX5_type_20 : decode cX5_type 20 = .ok (.if_icmp .lt 5, 3) := by decide +kernel
theorem dX5_type_23 : decode cX5_type 23 = .ok (.iconst (-1), 1) := by decide +kernel
theorem dX5_type_24 : decode cX5_type 24 = .ok (.ireturn, 1) := by decide +kernel
theorem dX5_type_25 : decode cX5_type 25 = .ok (.aload_n 0, 1) := by decide +kernel
theorem dX5_type_26 : decode cX5_type 26 = .ok (.getfield 40, 3) := by decide +kernel
theorem dX5_type_29 : decode cX5_type 29 = .ok (.iload_n 1, 1) := by decide +kernel
theorem dX5_type_30 : decode cX5_type 30 = .ok (.i2c, 1) := by decide +kernel
theorem dX5_type_31 : decode cX5_type 31 = .ok (.invokevirtual 168, 3) := by decide +kernel
theorem dX5_type_34 : decode cX5_type 34 = .ok (.aload_n 0, 1) := by decide +kernel
theorem dX5_type_35 : decode cX5_type 35 = .ok (.getfield 40, 3) := by decide +kernel
theorem dX5_type_38 : decode cX5_type 38 = .ok (.getfield 164, 3) := by decide +kernel
theorem dX5_type_41 : decode cX5_type 41 = .ok (.ireturn, 1) := by decide +kernel
theorem dX5_clear_0 : decode cX5_clear 0 = .ok (.aload_n 0, 1) := by decide +kernel
theorem dX5_clear_1 : decode cX5_clear 1 = .ok (.getfield 40, 3) := by decide +kernel
theorem dX5_clear_4 : decode cX5_clear 4 = .ok (.iconst 0, 1) := by decide +kernel
theorem dX5_clear_5 : decode cX5_clear 5 = .ok (.putfield 164, 3) := by decide +kernel
theorem dX5_clear_8 : decode cX5_clear 8 = .ok (.return_, 1) := by decide +kernel
theorem dX5_character_0 : decode cX5_character 0 = .ok (.iload_n 1, 1) := by decide +kernel
theorem dX5_character_1 : decode cX5_character 1 = .ok (.ifCond .lt 26, 3) := by decide +kernel
theorem dX5_character_4 : decode cX5_character 4 = .ok (.iload_n 1, 1) := by decide +kernel
theorem dX5_character_5 : decode cX5_character 5 = .ok (.aload_n 0, 1) := by decide +kernel
theorem dX5_character_6 : decode cX5_character 6 = .ok (.getfield 40, 3) := by decide +kernel
theorem dX5_character_9 : decode cX5_character 9 = .ok (.getfield 164, 3) := by decide +kernel
theorem dX5_character_12 : decode cX5_character 12 = .ok (.if_icmp .ge 15, 3) := by decide +kernel
theorem dX5_character_15 : decode cX5_character 15 = .ok (.aload_n 0, 1) := by decide +kernel
theorem dX5_character_16 : decode cX5_character 16 = .ok (.getfield 40, 3) := by decide +kernel
theorem dX5_character_19 : decode cX5_character 19 = .ok (.getfield 172, 3) := by decide +kernel
theorem dX5_character_22 : decode cX5_character 22 = .ok (.iload_n 1, 1) := by decide +kernel
theorem dX5_character_23 : decode cX5_character 23 = .ok (.caload, 1) := by decide +kernel
theorem dX5_character_24 : decode cX5_character 24 = .ok (.goto 4, 3) := by decide +kernel
theorem dX5_character_27 : decode cX5_character 27 = .ok (.iconst (-1), 1) := by decide +kernel
theorem dX5_character_28 : decode cX5_character 28 = .ok (.ireturn, 1) := by decide +kernel
set_option maxRecDepth 20000 in
theorem ggX5_read_X5_isRegister : GoodIn wsX5_read wsX5_isRegister := goodIn_r _ [6] (by decide +kernel) (by decide +kernel)
set_option maxRecDepth 20000 in
theorem gX5_read_X5_isRegister : GoodIn wsX5_read (va_wsS RX5 44 yX5_isRegister wsX5_isRegister) := goodIn_app (goodIn_of _ (by decide +kernel)) ggX5_read_X5_isRegister
set_option maxRecDepth 20000 in
theorem ggX5_read_X5_isBase : GoodIn wsX5_read wsX5_isBase := goodIn_r _ [9] (by decide +kernel) (by decide +kernel)
set_option maxRecDepth 20000 in
theorem gX5_read_X5_isBase : GoodIn wsX5_read (va_wsS RX5 157 yX5_isBase wsX5_isBase) := goodIn_app (goodIn_of _ (by decide +kernel)) ggX5_read_X5_isBase
set_option maxRecDepth 20000 in
theorem ggX5_read_X3_tellsNumber : GoodIn wsX5_read wsX3_tellsNumber := goodIn_r _ [14, 15, 16, 17, 18, 19, 13, 20, 21, 22, 23, 122, 123] (by decide +kernel) (by decide +kernel)
set_option maxRecDepth 20000 in
theorem gX5_read_X3_tellsNumber : GoodIn wsX5_read (wsV RX5 176 RX3 yX3_tellsNumber wsX3_tellsNumber) := goodIn_app (goodIn_of _ (by decide +kernel)) ggX5_read_X3_tellsNumber
set_option maxRecDepth 20000 in
theorem ggX5_read_X3_tell : GoodIn wsX5_read wsX3_tell := goodIn_r _ [27, 28, 29, 30, 31, 15, 32, 33, 34, 35, 36, 37, 38, 39, 40, 41, 42, 43, 44, 45, 46, 47, 48, 49, 50, 51, 52, 53, 54, 55, 56, 57, 58, 13, 59, 60, 17, 18, 19, 20, 16, 61, 62, 63, 64, 65, 66, 67, 68, 69, 70, 71, 72, 73, 74, 75, 76, 77, 78, 79, 80, 81, 82, 83, 84, 21, 22, 23, 85, 86, 87, 88, 89, 90, 91, 92, 93, 94, 95, 96, 122, 123, 124, 125, 126, 127] (by decide +kernel) (by decide +kernel)
set_option maxRecDepth 20000 in
theorem gX5_read_X3_tell : GoodIn wsX5_read (wsV RX5 179 RX3 yX3_tell wsX3_tell) := goodIn_app (goodIn_of _ (by decide +kernel)) ggX5_read_X3_tell
set_option maxRecDepth 20000 in
theorem ggX5_read_X5_keepResult : GoodIn wsX5_read wsX5_keepResult := goodIn_r _ [100, 2, 101, 102, 103, 62, 63, 46, 64, 56, 65, 66, 67, 68, 69, 70, 71, 72, 48, 73, 74, 75, 76, 77, 104, 105, 106, 39, 107, 41, 42, 108, 109, 110, 111, 112, 113, 114, 115, 116, 117, 118, 119, 120, 121, 124, 125, 126, 127] (by decide +kernel) (by decide +kernel)
set_option maxRecDepth 20000 in
theorem gX5_read_X5_keepResult : GoodIn wsX5_read (wsV RX5 64 RX5 yX5_keepResult wsX5_keepResult) := goodIn_app (goodIn_of _ (by decide +kernel)) ggX5_read_X5_keepResult
theorem dX5_read_0 : decode cX5_read 0 = .ok (.iload_n 1, 1) := by decide +kernel
theorem dX5_read_1 : decode cX5_read 1 = .ok (.invokestatic 44, 3) := by decide +kernel
theorem dX5_read_4 : decode cX5_read 4 = .ok (.ifCond .eq 21, 3) := by decide +kernel
theorem dX5_read_7 : decode cX5_read 7 = .ok (.iload_n 2, 1) := by decide +kernel
theorem dX5_read_8 : decode cX5_read 8 = .ok (.invokestatic 157, 3) := by decide +kernel
theorem dX5_read_11 : decode cX5_read 11 = .ok (.ifCond .eq 14, 3) := by decide +kernel
theorem dX5_read_14 : decode cX5_read 14 = .ok (.aload_n 0, 1) := by decide +kernel
theorem dX5_read_15 : decode cX5_read 15 = .ok (.getfield 40, 3) := by decide +kernel
theorem dX5_read_18 : decode cX5_read 18 = .ok (.iload_n 2, 1) := by decide +kernel
theorem dX5_read_19 : decode cX5_read 19 = .ok (.invokevirtual 176, 3) := by decide +kernel
theorem dX5_read_22 : decode cX5_read 22 = .ok (.ifCond .ne 5, 3) := by decide +kernel
theorem dX5_read_25 : decode cX5_read 25 = .ok (.iconst (-1), 1) := by decide +kernel
theorem dX5_read_26 : decode cX5_read 26 = .ok (.ireturn, 1) := by decide +kernel
theorem dX5_read_27 : decode cX5_read 27 = .ok (.aload_n 0, 1) := by decide +kernel
theorem dX5_read_28 : decode cX5_read 28 = .ok (.getfield 40, 3) := by decide +kernel
theorem dX5_read_31 : decode cX5_read 31 = .ok (.aload_n 0, 1) := by decide +kernel
theorem dX5_read_32 : decode cX5_read 32 = .ok (.getfield 16, 3) := by decide +kernel
theorem dX5_read_35 : decode cX5_read 35 = .ok (.iload_n 2, 1) := by decide +kernel
theorem dX5_read_36 : decode cX5_read 36 = .ok (.invokevirtual 179, 3) := by decide +kernel
theorem dX5_read_39 : decode cX5_read 39 = .ok (.aload_n 0, 1) := by decide +kernel
theorem dX5_read_40 : decode cX5_read 40 = .ok (.iload_n 1, 1) := by decide +kernel
theorem dX5_read_41 : decode cX5_read 41 = .ok (.invokevirtual 64, 3) := by decide +kernel
theorem dX5_read_44 : decode cX5_read 44 = .ok (.ireturn, 1) := by decide +kernel
theorem dX5_isRegister_0 : decode cX5_isRegister 0 = .ok (.iload_n 0, 1) := by decide +kernel
theorem dX5_isRegister_1 : decode cX5_isRegister 1 = .ok (.ifCond .lt 13, 3) := by decide +kernel
theorem dX5_isRegister_4 : decode cX5_isRegister 4 = .ok (.iload_n 0, 1) := by decide +kernel
theorem dX5_isRegister_5 : decode cX5_isRegister 5 = .ok (.bipush 8, 2) := by decide +kernel
theorem dX5_isRegister_7 : decode cX5_isRegister 7 = .ok (.if_icmp .ge 7, 3) := by decide +kernel
theorem dX5_isRegister_10 : decode cX5_isRegister 10 = .ok (.iconst 1, 1) := by decide +kernel
theorem dX5_isRegister_11 : decode cX5_isRegister 11 = .ok (.goto 4, 3) := by decide +kernel
theorem dX5_isRegister_14 : decode cX5_isRegister 14 = .ok (.iconst 0, 1) := by decide +kernel
theorem dX5_isRegister_15 : decode cX5_isRegister 15 = .ok (.ireturn, 1) := by decide +kernel
set_option maxRecDepth 20000 in
theorem ggX5_areRegisters_X5_isRegister : GoodIn wsX5_areRegisters wsX5_isRegister := goodIn_r _ [4] (by decide +kernel) (by decide +kernel)
set_option maxRecDepth 20000 in
theorem gX5_areRegisters_X5_isRegister : GoodIn wsX5_areRegisters (va_wsS RX5 44 yX5_isRegister wsX5_isRegister) := goodIn_app (goodIn_of _ (by decide +kernel)) ggX5_areRegisters_X5_isRegister
theorem dX5_areRegisters_0 : decode cX5_areRegisters 0 = .ok (.iload_n 0, 1) := by decide +kernel
theorem dX5_areRegisters_1 : decode cX5_areRegisters 1 = .ok (.invokestatic 44, 3) := by decide +kernel
theorem dX5_areRegisters_4 : decode cX5_areRegisters 4 = .ok (.ifCond .eq 21, 3) := by decide +kernel
theorem dX5_areRegisters_7 : decode cX5_areRegisters 7 = .ok (.iload_n 1, 1) := by decide +kernel
theorem dX5_areRegisters_8 : decode cX5_areRegisters 8 = .ok (.invokestatic 44, 3) := by decide +kernel
theorem dX5_areRegisters_11 : decode cX5_areRegisters 11 = .ok (.ifCond .eq 14, 3) := by decide +kernel
theorem dX5_areRegisters_14 : decode cX5_areRegisters 14 = .ok (.iload_n 2, 1) := by decide +kernel
theorem dX5_areRegisters_15 : decode cX5_areRegisters 15 = .ok (.invokestatic 44, 3) := by decide +kernel
theorem dX5_areRegisters_18 : decode cX5_areRegisters 18 = .ok (.ifCond .eq 7, 3) := by decide +kernel
theorem dX5_areRegisters_21 : decode cX5_areRegisters 21 = .ok (.iconst 1, 1) := by decide +kernel
theorem dX5_areRegisters_22 : decode cX5_areRegisters 22 = .ok (.goto 4, 3) := by decide +kernel
theorem dX5_areRegisters_25 : decode cX5_areRegisters 25 = .ok (.iconst 0, 1) := by decide +kernel
theorem dX5_areRegisters_26 : decode cX5_areRegisters 26 = .ok (.ireturn, 1) := by decide +kernel
theorem dX5_isBase_0 : decode cX5_isBase 0 = .ok (.iload_n 0, 1) := by decide +kernel
theorem dX5_isBase_1 : decode cX5_isBase 1 = .ok (.iconst 2, 1) := by decide +kernel
theorem dX5_isBase_2 : decode cX5_isBase 2 = .ok (.if_icmp .lt 13, 3) := by decide +kernel
theorem dX5_isBase_5 : decode cX5_isBase 5 = .ok (.iload_n 0, 1) := by decide +kernel
theorem dX5_isBase_6 : decode cX5_isBase 6 = .ok (.bipush 16, 2) := by decide +kernel
theorem dX5_isBase_8 : decode cX5_isBase 8 = .ok (.if_icmp .gt 7, 3) := by decide +kernel
theorem dX5_isBase_11 : decode cX5_isBase 11 = .ok (.iconst 1, 1) := by decide +kernel
theorem dX5_isBase_12 : decode cX5_isBase 12 = .ok (.goto 4, 3) := by decide +kernel
theorem dX5_isBase_15 : decode cX5_isBase 15 = .ok (.iconst 0, 1) := by decide +kernel
theorem dX5_isBase_16 : decode cX5_isBase 16 = .ok (.ireturn, 1) := by decide +kernel
set_option maxRecDepth 20000 in
theorem ggX5_keepResult_X2_bitLength : GoodIn wsX5_keepResult wsX2_bitLength := goodIn_r _ [8, 9, 10, 11, 12, 7, 13, 14, 15, 16, 17, 18, 19, 20, 21, 22, 23, 47, 48] (by decide +kernel) (by decide +kernel)
set_option maxRecDepth 20000 in
theorem gX5_keepResult_X2_bitLength : GoodIn wsX5_keepResult (wsV RX5 100 RX2 yX2_bitLength wsX2_bitLength) := goodIn_app (goodIn_of _ (by decide +kernel)) ggX5_keepResult_X2_bitLength
set_option maxRecDepth 20000 in
theorem ggX5_keepResult_X4_take : GoodIn wsX5_keepResult wsX4_take := goodIn_r _ [28, 29, 30, 31, 32, 33, 7, 34, 18, 9, 35, 36, 37, 38, 45, 46, 47, 48] (by decide +kernel) (by decide +kernel)
set_option maxRecDepth 20000 in
theorem gX5_keepResult_X4_take : GoodIn wsX5_keepResult (wsV RX5 97 RX4 yX4_take wsX4_take) := goodIn_app (goodIn_of _ (by decide +kernel)) ggX5_keepResult_X4_take
theorem dX5_keepResult_0 : decode cX5_keepResult 0 = .ok (.aload_n 0, 1) := by decide +kernel
theorem dX5_keepResult_1 : decode cX5_keepResult 1 = .ok (.getfield 16, 3) := by decide +kernel
theorem dX5_keepResult_4 : decode cX5_keepResult 4 = .ok (.getfield 72, 3) := by decide +kernel
theorem dX5_keepResult_7 : decode cX5_keepResult 7 = .ok (.invokevirtual 100, 3) := by decide +kernel
theorem dX5_keepResult_10 : decode cX5_keepResult 10 = .ok (.istore_n 2, 1) := by decide +kernel
theorem dX5_keepResult_11 : decode cX5_keepResult 11 = .ok (.iload_n 2, 1) := by decide +kernel
theorem dX5_keepResult_12 : decode cX5_keepResult 12 = .ok (.sipush 4096, 3) := by decide +kernel
theorem dX5_keepResult_15 : decode cX5_keepResult 15 = .ok (.if_icmp .le 5, 3) := by decide +kernel
theorem dX5_keepResult_18 : decode cX5_keepResult 18 = .ok (.iconst (-1), 1) := by decide +kernel
theorem dX5_keepResult_19 : decode cX5_keepResult 19 = .ok (.ireturn, 1) := by decide +kernel
theorem dX5_keepResult_20 : decode cX5_keepResult 20 = .ok (.aload_n 0, 1) := by decide +kernel
theorem dX5_keepResult_21 : decode cX5_keepResult 21 = .ok (.getfield 11, 3) := by decide +kernel
theorem dX5_keepResult_24 : decode cX5_keepResult 24 = .ok (.iload_n 1, 1) := by decide +kernel
theorem dX5_keepResult_25 : decode cX5_keepResult 25 = .ok (.aaload, 1) := by decide +kernel
theorem dX5_keepResult_26 : decode cX5_keepResult 26 = .ok (.aload_n 0, 1) := by decide +kernel
theorem dX5_keepResult_27 : decode cX5_keepResult 27 = .ok (.getfield 16, 3) := by decide +kernel
theorem dX5_keepResult_30 : decode cX5_keepResult 30 = .ok (.invokevirtual 97, 3) := by decide +kernel
theorem dX5_keepResult_33 : decode cX5_keepResult 33 = .ok (.iload_n 2, 1) := by decide +kernel
theorem dX5_keepResult_34 : decode cX5_keepResult 34 = .ok (.ireturn, 1) := by decide +kernel
set_option maxRecDepth 20000 in
theorem ggX5_cutQuotient_X1_split : GoodIn wsX5_cutQuotient wsX1_split := goodIn_r _ [12, 13, 14, 15, 16, 17, 18, 19, 20, 21, 22, 23, 24, 25, 26, 27, 28, 29, 30, 31, 32, 33, 34, 35, 36, 37, 38, 39, 40, 41, 42, 43, 44, 45, 46, 47, 48, 49, 50, 51, 52, 53, 54, 55, 56, 57, 58, 59, 60, 61, 62, 11, 63, 64, 65, 66, 67, 68, 69, 70, 71, 72, 73, 74, 75, 76, 77, 78, 79, 80, 81, 82, 83, 84, 85, 86, 87, 112, 113, 114, 115, 116] (by decide +kernel) (by decide +kernel)
set_option maxRecDepth 20000 in
theorem gX5_cutQuotient_X1_split : GoodIn wsX5_cutQuotient (wsV RX5 182 RX1 yX1_split wsX1_split) := goodIn_app (goodIn_of _ (by decide +kernel)) ggX5_cutQuotient_X1_split
set_option maxRecDepth 20000 in
theorem ggX5_cutQuotient_X2_take : GoodIn wsX5_cutQuotient wsX2_take := goodIn_r _ [91, 39, 30, 92, 93, 94, 95, 115, 116] (by decide +kernel) (by decide +kernel)
set_option maxRecDepth 20000 in
theorem gX5_cutQuotient_X2_take : GoodIn wsX5_cutQuotient (wsV RX5 108 RX2 yX2_take wsX2_take) := goodIn_app (goodIn_of _ (by decide +kernel)) ggX5_cutQuotient_X2_take
set_option maxRecDepth 20000 in
theorem ggX5_cutQuotient_X4_takeSign : GoodIn wsX5_cutQuotient wsX4_takeSign := goodIn_r _ [100, 101, 102, 103, 26, 27, 28, 29, 30, 110, 111, 115, 116] (by decide +kernel) (by decide +kernel)
set_option maxRecDepth 20000 in
theorem gX5_cutQuotient_X4_takeSign : GoodIn wsX5_cutQuotient (wsV RX5 111 RX4 yX4_takeSign wsX4_takeSign) := goodIn_app (goodIn_of _ (by decide +kernel)) ggX5_cutQuotient_X4_takeSign
theorem dX5_cutQuotient_0 : decode cX5_cutQuotient 0 = .ok (.aload_n 0, 1) := by decide +kernel
theorem dX5_cutQuotient_1 : decode cX5_cutQuotient 1 = .ok (.getfield 26, 3) := by decide +kernel
theorem dX5_cutQuotient_4 : decode cX5_cutQuotient 4 = .ok (.aload_n 1, 1) := by decide +kernel
theorem dX5_cutQuotient_5 : decode cX5_cutQuotient 5 = .ok (.getfield 72, 3) := by decide +kernel
theorem dX5_cutQuotient_8 : decode cX5_cutQuotient 8 = .ok (.aload_n 2, 1) := by decide +kernel
theorem dX5_cutQuotient_9 : decode cX5_cutQuotient 9 = .ok (.getfield 72, 3) := by decide +kernel
theorem dX5_cutQuotient_12 : decode cX5_cutQuotient 12 = .ok (.invokevirtual 182, 3) := by decide +kernel
theorem dX5_cutQuotient_15 : decode cX5_cutQuotient 15 = .ok (.aload_n 0, 1) := by decide +kernel
theorem dX5_cutQuotient_16 : decode cX5_cutQuotient 16 = .ok (.getfield 16, 3) := by decide +kernel
theorem dX5_cutQuotient_19 : decode cX5_cutQuotient 19 = .ok (.getfield 72, 3) := by decide +kernel
theorem dX5_cutQuotient_22 : decode cX5_cutQuotient 22 = .ok (.aload_n 0, 1) := by decide +kernel
theorem dX5_cutQuotient_23 : decode cX5_cutQuotient 23 = .ok (.getfield 26, 3) := by decide +kernel
theorem dX5_cutQuotient_26 : decode cX5_cutQuotient 26 = .ok (.getfield 186, 3) := by decide +kernel
theorem dX5_cutQuotient_29 : decode cX5_cutQuotient 29 = .ok (.invokevirtual 108, 3) := by decide +kernel
theorem dX5_cutQuotient_32 : decode cX5_cutQuotient 32 = .ok (.aload_n 0, 1) := by decide +kernel
theorem dX5_cutQuotient_33 : decode cX5_cutQuotient 33 = .ok (.getfield 16, 3) := by decide +kernel
theorem dX5_cutQuotient_36 : decode cX5_cutQuotient 36 = .ok (.aload_n 1, 1) := by decide +kernel
theorem dX5_cutQuotient_37 : decode cX5_cutQuotient 37 = .ok (.getfield 56, 3) := by decide +kernel
theorem dX5_cutQuotient_40 : decode cX5_cutQuotient 40 = .ok (.aload_n 2, 1) := by decide +kernel
theorem dX5_cutQuotient_41 : decode cX5_cutQuotient 41 = .ok (.getfield 56, 3) := by decide +kernel
theorem dX5_cutQuotient_44 : decode cX5_cutQuotient 44 = .ok (.if_icmp .eq 7, 3) := by decide +kernel
theorem dX5_cutQuotient_47 : decode cX5_cutQuotient 47 = .ok (.iconst 1, 1) := by decide +kernel
theorem dX5_cutQuotient_48 : decode cX5_cutQuotient 48 = .ok (.goto 4, 3) := by decide +kernel
theorem dX5_cutQuotient_51 : decode cX5_cutQuotient 51 = .ok (.iconst 0, 1) := by decide +kernel
theorem dX5_cutQuotient_52 : decode cX5_cutQuotient 52 = .ok (.invokevirtual 111, 3) := by decide +kernel
theorem dX5_cutQuotient_55 : decode cX5_cutQuotient 55 = .ok (.aload_n 0, 1) := by decide +kernel
theorem dX5_cutQuotient_56 : decode cX5_cutQuotient 56 = .ok (.getfield 20, 3) := by decide +kernel
theorem dX5_cutQuotient_59 : decode cX5_cutQuotient 59 = .ok (.getfield 72, 3) := by decide +kernel
theorem dX5_cutQuotient_62 : decode cX5_cutQuotient 62 = .ok (.aload_n 0, 1) := by decide +kernel
theorem dX5_cutQuotient_63 : decode cX5_cutQuotient 63 = .ok (.getfield 26, 3) := by decide +kernel
theorem dX5_cutQuotient_66 : decode cX5_cutQuotient 66 = .ok (.getfield 189, 3) := by decide +kernel
theorem dX5_cutQuotient_69 : decode cX5_cutQuotient 69 = .ok (.invokevirtual 108, 3) := by decide +kernel
theorem dX5_cutQuotient_72 : decode cX5_cutQuotient 72 = .ok (.aload_n 0, 1) := by decide +kernel
theorem dX5_cutQuotient_73 : decode cX5_cutQuotient 73 = .ok (.getfield 20, 3) := by decide +kernel
theorem dX5_cutQuotient_76 : decode cX5_cutQuotient 76 = .ok (.aload_n 1, 1) := by decide +kernel
theorem dX5_cutQuotient_77 : decode cX5_cutQuotient 77 = .ok (.getfield 56, 3) := by decide +kernel
theorem dX5_cutQuotient_80 : decode cX5_cutQuotient 80 = .ok (.invokevirtual 111, 3) := by decide +kernel
theorem dX5_cutQuotient_83 : decode cX5_cutQuotient 83 = .ok (.return_, 1) := by decide +kernel
set_option maxRecDepth 20000 in
theorem ggX5_stepDown_X2_timesPlus : GoodIn wsX5_stepDown wsX2_timesPlus := goodIn_r _ [9, 10, 11, 12, 13, 14, 15, 8, 16, 17, 18, 19, 20, 21, 22, 23, 51, 52] (by decide +kernel) (by decide +kernel)
set_option maxRecDepth 20000 in
theorem gX5_stepDown_X2_timesPlus : GoodIn wsX5_stepDown (wsV RX5 192 RX2 yX2_timesPlus wsX2_timesPlus) := goodIn_app (goodIn_of _ (by decide +kernel)) ggX5_stepDown_X2_timesPlus
set_option maxRecDepth 20000 in
theorem ggX5_stepDown_X4_takeSign : GoodIn wsX5_stepDown wsX4_takeSign := goodIn_r _ [28, 29, 30, 31, 32, 33, 8, 34, 10, 49, 50, 51, 52] (by decide +kernel) (by decide +kernel)
set_option maxRecDepth 20000 in
theorem gX5_stepDown_X4_takeSign : GoodIn wsX5_stepDown (wsV RX5 111 RX4 yX4_takeSign wsX4_takeSign) := goodIn_app (goodIn_of _ (by decide +kernel)) ggX5_stepDown_X4_takeSign
set_option maxRecDepth 20000 in
theorem ggX5_stepDown_X2_takeDifference : GoodIn wsX5_stepDown wsX2_takeDifference := goodIn_r _ [38, 10, 11, 12, 39, 40, 41, 8, 42, 13, 14, 15, 16, 17, 18, 19, 20, 21, 22, 23, 51, 52] (by decide +kernel) (by decide +kernel)
set_option maxRecDepth 20000 in
theorem gX5_stepDown_X2_takeDifference : GoodIn wsX5_stepDown (wsV RX5 196 RX2 yX2_takeDifference wsX2_takeDifference) := goodIn_app (goodIn_of _ (by decide +kernel)) ggX5_stepDown_X2_takeDifference
theorem dX5_stepDown_0 : decode cX5_stepDown 0 = .ok (.aload_n 0, 1) := by decide +kernel
theorem dX5_stepDown_1 : decode cX5_stepDown 1 = .ok (.getfield 16, 3) := by decide +kernel
theorem dX5_stepDown_4 : decode cX5_stepDown 4 = .ok (.getfield 72, 3) := by decide +kernel
theorem dX5_stepDown_7 : decode cX5_stepDown 7 = .ok (.iconst 1, 1) := by decide +kernel
theorem dX5_stepDown_8 : decode cX5_stepDown 8 = .ok (.iconst 1, 1) := by decide +kernel
theorem dX5_stepDown_9 : decode cX5_stepDown 9 = .ok (.invokevirtual 192, 3) := by decide +kernel
theorem dX5_stepDown_12 : decode cX5_stepDown 12 = .ok (.aload_n 0, 1) := by decide +kernel
theorem dX5_stepDown_13 : decode cX5_stepDown 13 = .ok (.getfield 16, 3) := by decide +kernel
theorem dX5_stepDown_16 : decode cX5_stepDown 16 = .ok (.iconst 1, 1) := by decide +kernel
theorem dX5_stepDown_17 : decode cX5_stepDown 17 = .ok (.invokevirtual 111, 3) := by decide +kernel
theorem dX5_stepDown_20 : decode cX5_stepDown 20 = .ok (.aload_n 0, 1) := by decide +kernel
theorem dX5_stepDown_21 : decode cX5_stepDown 21 = .ok (.getfield 20, 3) := by decide +kernel
theorem dX5_stepDown_24 : decode cX5_stepDown 24 = .ok (.getfield 72, 3) := by decide +kernel
theorem dX5_stepDown_27 : decode cX5_stepDown 27 = .ok (.aload_n 1, 1) := by decide +kernel
theorem dX5_stepDown_28 : decode cX5_stepDown 28 = .ok (.getfield 72, 3) := by decide +kernel
theorem dX5_stepDown_31 : decode cX5_stepDown 31 = .ok (.aload_n 0, 1) := by decide +kernel
theorem dX5_stepDown_32 : decode cX5_stepDown 32 = .ok (.getfield 20, 3) := by decide +kernel
theorem dX5_stepDown_35 : decode cX5_stepDown 35 = .ok (.getfield 72, 3) := by decide +kernel
theorem dX5_stepDown_38 : decode cX5_stepDown 38 = .ok (.invokevirtual 196, 3) := by decide +kernel
theorem dX5_stepDown_41 : decode cX5_stepDown 41 = .ok (.aload_n 0, 1) := by decide +kernel
theorem dX5_stepDown_42 : decode cX5_stepDown 42 = .ok (.getfield 20, 3) := by decide +kernel
theorem dX5_stepDown_45 : decode cX5_stepDown 45 = .ok (.aload_n 1, 1) := by decide +kernel
theorem dX5_stepDown_46 : decode cX5_stepDown 46 = .ok (.getfield 56, 3) := by decide +kernel
theorem dX5_stepDown_49 : decode cX5_stepDown 49 = .ok (.invokevirtual 111, 3) := by decide +kernel
theorem dX5_stepDown_52 : decode cX5_stepDown 52 = .ok (.return_, 1) := by decide +kernel
set_option maxRecDepth 20000 in
theorem ggX5_takeRoot_X4_takeLong : GoodIn wsX5_takeRoot wsX4_takeLong := goodIn_r _ [10, 11, 12, 13, 14, 15, 16, 17, 18, 19, 20, 21, 22, 23, 24, 25, 26, 27, 28, 29, 30, 31, 127, 128, 132, 133] (by decide +kernel) (by decide +kernel)
set_option maxRecDepth 20000 in
theorem gX5_takeRoot_X4_takeLong : GoodIn wsX5_takeRoot (wsV RX5 48 RX4 yX4_takeLong wsX4_takeLong) := goodIn_app (goodIn_of _ (by decide +kernel)) ggX5_takeRoot_X4_takeLong
set_option maxRecDepth 20000 in
theorem ggX5_takeRoot_X2_isZero : GoodIn wsX5_takeRoot wsX2_isZero := goodIn_r _ [35, 31, 132, 133] (by decide +kernel) (by decide +kernel)
set_option maxRecDepth 20000 in
theorem gX5_takeRoot_X2_isZero : GoodIn wsX5_takeRoot (wsV RX5 76 RX2 yX2_isZero wsX2_isZero) := goodIn_app (goodIn_of _ (by decide +kernel)) ggX5_takeRoot_X2_isZero
set_option maxRecDepth 20000 in
theorem ggX5_takeRoot_X2_take : GoodIn wsX5_takeRoot wsX2_take := goodIn_r _ [39, 18, 31, 40, 41, 42, 43, 132, 133] (by decide +kernel) (by decide +kernel)
set_option maxRecDepth 20000 in
theorem gX5_takeRoot_X2_take : GoodIn wsX5_takeRoot (wsV RX5 108 RX2 yX2_take wsX2_take) := goodIn_app (goodIn_of _ (by decide +kernel)) ggX5_takeRoot_X2_take
set_option maxRecDepth 20000 in
theorem ggX5_takeRoot_X2_bitLength : GoodIn wsX5_takeRoot wsX2_bitLength := goodIn_r _ [47, 31, 48, 49, 50, 16, 51, 52, 53, 54, 55, 18, 56, 57, 58, 59, 60, 132, 133] (by decide +kernel) (by decide +kernel)
set_option maxRecDepth 20000 in
theorem gX5_takeRoot_X2_bitLength : GoodIn wsX5_takeRoot (wsV RX5 100 RX2 yX2_bitLength wsX2_bitLength) := goodIn_app (goodIn_of _ (by decide +kernel)) ggX5_takeRoot_X2_bitLength
set_option maxRecDepth 20000 in
theorem ggX5_takeRoot_X2_shiftUp : GoodIn wsX5_takeRoot wsX2_shiftUp := goodIn_r _ [64, 31, 24, 25, 26, 27, 18, 19, 52, 53, 54, 16, 55, 20, 21, 22, 23, 28, 29, 30, 132, 133] (by decide +kernel) (by decide +kernel)
set_option maxRecDepth 20000 in
theorem gX5_takeRoot_X2_shiftUp : GoodIn wsX5_takeRoot (wsV RX5 127 RX2 yX2_shiftUp wsX2_shiftUp) := goodIn_app (goodIn_of _ (by decide +kernel)) ggX5_takeRoot_X2_shiftUp
set_option maxRecDepth 20000 in
theorem ggX5_takeRoot_X1_split : GoodIn wsX5_takeRoot wsX1_split := goodIn_r _ [69, 70, 71, 72, 73, 25, 26, 27, 74, 29, 30, 75, 76, 77, 33, 34, 16, 35, 31, 78, 49, 50, 51, 52, 53, 54, 55, 18, 56, 57, 58, 59, 60, 79, 62, 63, 64, 24, 19, 20, 21, 22, 23, 28, 80, 81, 82, 83, 84, 85, 86, 68, 87, 88, 89, 90, 91, 92, 93, 94, 95, 96, 97, 98, 99, 100, 101, 102, 103, 104, 105, 106, 107, 108, 109, 110, 111, 129, 130, 131, 132, 133] (by decide +kernel) (by decide +kernel)
set_option maxRecDepth 20000 in
theorem gX5_takeRoot_X1_split : GoodIn wsX5_takeRoot (wsV RX5 182 RX1 yX1_split wsX1_split) := goodIn_app (goodIn_of _ (by decide +kernel)) ggX5_takeRoot_X1_split
set_option maxRecDepth 20000 in
theorem ggX5_takeRoot_X2_takeSum : GoodIn wsX5_takeRoot wsX2_takeSum := goodIn_r _ [115, 31, 28, 29, 26, 30, 24, 25, 27, 18, 19, 52, 53, 54, 16, 55, 20, 21, 22, 23, 132, 133] (by decide +kernel) (by decide +kernel)
set_option maxRecDepth 20000 in
theorem gX5_takeRoot_X2_takeSum : GoodIn wsX5_takeRoot (wsV RX5 199 RX2 yX2_takeSum wsX2_takeSum) := goodIn_app (goodIn_of _ (by decide +kernel)) ggX5_takeRoot_X2_takeSum
set_option maxRecDepth 20000 in
theorem ggX5_takeRoot_X2_shiftDown : GoodIn wsX5_takeRoot wsX2_shiftDown := goodIn_r _ [107, 31, 28, 29, 26, 30, 18, 108, 109, 110, 16, 111, 19, 52, 53, 54, 55, 20, 21, 22, 23, 24, 25, 27, 132, 133] (by decide +kernel) (by decide +kernel)
set_option maxRecDepth 20000 in
theorem gX5_takeRoot_X2_shiftDown : GoodIn wsX5_takeRoot (wsV RX5 123 RX2 yX2_shiftDown wsX2_shiftDown) := goodIn_app (goodIn_of _ (by decide +kernel)) ggX5_takeRoot_X2_shiftDown
set_option maxRecDepth 20000 in
theorem ggX5_takeRoot_X2_order : GoodIn wsX5_takeRoot wsX2_order := goodIn_r _ [120, 31, 18, 132, 133] (by decide +kernel) (by decide +kernel)
set_option maxRecDepth 20000 in
theorem gX5_takeRoot_X2_order : GoodIn wsX5_takeRoot (wsV RX5 201 RX2 yX2_order wsX2_order) := goodIn_app (goodIn_of _ (by decide +kernel)) ggX5_takeRoot_X2_order
theorem dX5_takeRoot_0 : decode cX5_takeRoot 0 = .ok (.aload_n 0, 1) := by decide +kernel
theorem dX5_takeRoot_1 : decode cX5_takeRoot 1 = .ok (.getfield 16, 3) := by decide +kernel
theorem dX5_takeRoot_4 : decode cX5_takeRoot 4 = .ok (.lconst 1, 1) := by decide +kernel
theorem dX5_takeRoot_5 : decode cX5_takeRoot 5 = .ok (.invokevirtual 48, 3) := by decide +kernel
theorem dX5_takeRoot_8 : decode cX5_takeRoot 8 = .ok (.aload_n 0, 1) := by decide +kernel
theorem dX5_takeRoot_9 : decode cX5_takeRoot 9 = .ok (.getfield 16, 3) := by decide +kernel
theorem dX5_takeRoot_12 : decode cX5_takeRoot 12 = .ok (.getfield 72, 3) := by decide +kernel
theorem dX5_takeRoot_15 : decode cX5_takeRoot 15 = .ok (.astore_n 2, 1) := by decide +kernel
theorem dX5_takeRoot_16 : decode cX5_takeRoot 16 = .ok (.aload_n 1, 1) := by decide +kernel
theorem dX5_takeRoot_17 : decode cX5_takeRoot 17 = .ok (.invokevirtual 76, 3) := by decide +kernel
theorem dX5_takeRoot_20 : decode cX5_takeRoot 20 = .ok (.ifCond .eq 9, 3) := by decide +kernel
theorem dX5_takeRoot_23 : decode cX5_takeRoot 23 = .ok (.aload_n 2, 1) := by decide +kernel
theorem dX5_takeRoot_24 : decode cX5_takeRoot 24 = .ok (.aload_n 1, 1) := by decide +kernel
theorem dX5_takeRoot_25 : decode cX5_takeRoot 25 = .ok (.invokevirtual 108, 3) := by decide +kernel
theorem dX5_takeRoot_28 : decode cX5_takeRoot 28 = .ok (.return_, 1) := by decide +kernel
theorem dX5_takeRoot_29 : decode cX5_takeRoot 29 = .ok (.aload_n 2, 1) := by decide +kernel
theorem dX5_takeRoot_30 : decode cX5_takeRoot 30 = .ok (.aload_n 2, 1) := by decide +kernel
theorem dX5_takeRoot_31 : decode cX5_takeRoot 31 = .ok (.aload_n 1, 1) := by decide +kernel
theorem dX5_takeRoot_32 : decode cX5_takeRoot 32 = .ok (.invokevirtual 100, 3) := by decide +kernel
theorem dX5_takeRoot_35 : decode cX5_takeRoot 35 = .ok (.iconst 1, 1) := by decide +kernel
theorem dX5_takeRoot_36 : decode cX5_takeRoot 36 = .ok (.iadd, 1) := by decide +kernel
theorem dX5_takeRoot_37 : decode cX5_takeRoot 37 = .ok (.iconst 2, 1) := by decide +kernel
theorem dX5_takeRoot_38 : decode cX5_takeRoot 38 = .ok (.idiv, 1) := by decide +kernel
theorem dX5_takeRoot_39 : decode cX5_takeRoot 39 = .ok (.invokevirtual 127, 3) := by decide +kernel
theorem dX5_takeRoot_42 : decode cX5_takeRoot 42 = .ok (.aload_n 0, 1) := by decide +kernel
theorem dX5_takeRoot_43 : decode cX5_takeRoot 43 = .ok (.getfield 20, 3) := by decide +kernel
theorem dX5_takeRoot_46 : decode cX5_takeRoot 46 = .ok (.getfield 72, 3) := by decide +kernel
theorem dX5_takeRoot_49 : decode cX5_takeRoot 49 = .ok (.astore_n 3, 1) := by decide +kernel
theorem dX5_takeRoot_50 : decode cX5_takeRoot 50 = .ok (.iconst 0, 1) := by decide +kernel
theorem dX5_takeRoot_51 : decode cX5_takeRoot 51 = .ok (.istore 4, 2) := by decide +kernel
theorem dX5_takeRoot_53 : decode cX5_takeRoot 53 = .ok (.iload 4, 2) := by decide +kernel
theorem dX5_takeRoot_55 : decode cX5_takeRoot 55 = .ok (.sipush 4096, 3) := by decide +kernel
theorem dX5_takeRoot_58 : decode cX5_takeRoot 58 = .ok (.if_icmp .ge 50, 3) := by decide +kernel
theorem dX5_takeRoot_61 : decode cX5_takeRoot 61 = .ok (.aload_n 0, 1) := by decide +kernel
theorem dX5_takeRoot_62 : decode cX5_takeRoot 62 = .ok (.getfield 26, 3) := by decide +kernel
theorem dX5_takeRoot_65 : decode cX5_takeRoot 65 = .ok (.aload_n 1, 1) := by decide +kernel
theorem dX5_takeRoot_66 : decode cX5_takeRoot 66 = .ok (.aload_n 2, 1) := by decide +kernel
theorem dX5_takeRoot_67 : decode cX5_takeRoot 67 = .ok (.invokevirtual 182, 3) := by decide +kernel
theorem dX5_takeRoot_70 : decode cX5_takeRoot 70 = .ok (.aload_n 3, 1) := by decide +kernel
theorem dX5_takeRoot_71 : decode cX5_takeRoot 71 = .ok (.aload_n 2, 1) := by decide +kernel
theorem dX5_takeRoot_72 : decode cX5_takeRoot 72 = .ok (.aload_n 0, 1) := by decide +kernel
theorem dX5_takeRoot_73 : decode cX5_takeRoot 73 = .ok (.getfield 26, 3) := by decide +kernel
theorem dX5_takeRoot_76 : decode cX5_takeRoot 76 = .ok (.getfield 186, 3) := by decide +kernel
theorem dX5_takeRoot_79 : decode cX5_takeRoot 79 = .ok (.invokevirtual 199, 3) := by decide +kernel
theorem dX5_takeRoot_82 : decode cX5_takeRoot 82 = .ok (.aload_n 3, 1) := by decide +kernel
theorem dX5_takeRoot_83 : decode cX5_takeRoot 83 = .ok (.aload_n 3, 1) := by decide +kernel
theorem dX5_takeRoot_84 : decode cX5_takeRoot 84 = .ok (.iconst 1, 1) := by decide +kernel
theorem dX5_takeRoot_85 : decode cX5_takeRoot 85 = .ok (.invokevirtual 123, 3) := by decide +kernel
theorem dX5_takeRoot_88 : decode cX5_takeRoot 88 = .ok (.aload_n 3, 1) := by decide +kernel
theorem dX5_takeRoot_89 : decode cX5_takeRoot 89 = .ok (.aload_n 2, 1) := by decide +kernel
theorem dX5_takeRoot_90 : decode cX5_takeRoot 90 = .ok (.invokevirtual 201, 3) := by decide +kernel
theorem dX5_takeRoot_93 : decode cX5_takeRoot 93 = .ok (.ifCond .lt 4, 3) := by decide +kernel
theorem dX5_takeRoot_96 : decode cX5_takeRoot 96 = .ok (.return_, 1) := by decide +kernel
theorem dX5_takeRoot_97 : decode cX5_takeRoot 97 = .ok (.aload_n 2, 1) := by decide +kernel
theorem dX5_takeRoot_98 : decode cX5_takeRoot 98 = .ok (.aload_n 3, 1) := by decide +kernel
theorem dX5_takeRoot_99 : decode cX5_takeRoot 99 = .ok (.invokevirtual 108, 3) := by decide +kernel
theorem dX5_takeRoot_102 : decode cX5_takeRoot 102 = .ok (.iinc 4 1, 3) := by decide +kernel
theorem dX5_takeRoot_105 : decode cX5_takeRoot 105 = .ok (.goto (-52), 3) := by decide +kernel
theorem dX5_takeRoot_108 : decode cX5_takeRoot 108 = .ok (.return_, 1) := by decide +kernel
set_option maxRecDepth 20000 in
theorem ggX5_takePower_X4_takeLong : GoodIn wsX5_takePower wsX4_takeLong := goodIn_r _ [6, 7, 8, 9, 10, 11, 12, 13, 14, 15, 16, 17, 18, 19, 20, 21, 22, 23, 24, 25, 26, 27, 91, 92, 93, 94] (by decide +kernel) (by decide +kernel)
set_option maxRecDepth 20000 in
theorem gX5_takePower_X4_takeLong : GoodIn wsX5_takePower (wsV RX5 48 RX4 yX4_takeLong wsX4_takeLong) := goodIn_app (goodIn_of _ (by decide +kernel)) ggX5_takePower_X4_takeLong
set_option maxRecDepth 20000 in
theorem ggX5_takePower_X5_multiplyResult : GoodIn wsX5_takePower wsX5_multiplyResult := goodIn_r _ [32, 33, 1, 34, 35, 36, 37, 5, 38, 7, 8, 39, 40, 41, 12, 42, 27, 43, 44, 45, 46, 47, 48, 49, 50, 14, 51, 52, 53, 54, 55, 56, 57, 58, 59, 20, 21, 22, 23, 60, 61, 62, 63, 15, 16, 17, 18, 19, 24, 25, 26, 64, 65, 66, 67, 68, 69, 70, 71, 72, 73, 74, 75, 76, 77, 78, 79, 80, 81, 82, 83, 84, 85, 86, 87, 88, 89, 90, 91, 92, 93, 94] (by decide +kernel) (by decide +kernel)
set_option maxRecDepth 20000 in
theorem gX5_takePower_X5_multiplyResult : GoodIn wsX5_takePower (wsV RX5 204 RX5 yX5_multiplyResult wsX5_multiplyResult) := goodIn_app (goodIn_of _ (by decide +kernel)) ggX5_takePower_X5_multiplyResult
theorem dX5_takePower_0 : decode cX5_takePower 0 = .ok (.aload_n 0, 1) := by decide +kernel
theorem dX5_takePower_1 : decode cX5_takePower 1 = .ok (.getfield 16, 3) := by decide +kernel
theorem dX5_takePower_4 : decode cX5_takePower 4 = .ok (.lconst 1, 1) := by decide +kernel
theorem dX5_takePower_5 : decode cX5_takePower 5 = .ok (.invokevirtual 48, 3) := by decide +kernel
theorem dX5_takePower_8 : decode cX5_takePower 8 = .ok (.bipush 12, 2) := by decide +kernel
theorem dX5_takePower_10 : decode cX5_takePower 10 = .ok (.istore_n 3, 1) := by decide +kernel
theorem dX5_takePower_11 : decode cX5_takePower 11 = .ok (.iload_n 3, 1) := by decide +kernel
theorem dX5_takePower_12 : decode cX5_takePower 12 = .ok (.ifCond .lt 41, 3) := by decide +kernel
theorem dX5_takePower_15 : decode cX5_takePower 15 = .ok (.aload_n 0, 1) := by decide +kernel
theorem dX5_takePower_16 : decode cX5_takePower 16 = .ok (.aload_n 0, 1) := by decide +kernel
theorem dX5_takePower_17 : decode cX5_takePower 17 = .ok (.getfield 16, 3) := by decide +kernel
theorem dX5_takePower_20 : decode cX5_takePower 20 = .ok (.invokevirtual 204, 3) := by decide +kernel
theorem dX5_takePower_23 : decode cX5_takePower 23 = .ok (.ifCond .ne 5, 3) := by decide +kernel
theorem dX5_takePower_26 : decode cX5_takePower 26 = .ok (.iconst 0, 1) := by decide +kernel
theorem dX5_takePower_27 : decode cX5_takePower 27 = .ok (.ireturn, 1) := by decide +kernel
theorem dX5_takePower_28 : decode cX5_takePower 28 = .ok (.iload_n 2, 1) := by decide +kernel
theorem dX5_takePower_29 : decode cX5_takePower 29 = .ok (.iload_n 3, 1) := by decide +kernel
theorem dX5_takePower_30 : decode cX5_takePower 30 = .ok (.ishr, 1) := by decide +kernel
theorem dX5_takePower_31 : decode cX5_takePower 31 = .ok (.iconst 1, 1) := by decide +kernel
theorem dX5_takePower_32 : decode cX5_takePower 32 = .ok (.iand, 1) := by decide +kernel
theorem dX5_takePower_33 : decode cX5_takePower 33 = .ok (.iconst 1, 1) := by decide +kernel
theorem dX5_takePower_34 : decode cX5_takePower 34 = .ok (.if_icmp .ne 13, 3) := by decide +kernel
theorem dX5_takePower_37 : decode cX5_takePower 37 = .ok (.aload_n 0, 1) := by decide +kernel
theorem dX5_takePower_38 : decode cX5_takePower 38 = .ok (.aload_n 1, 1) := by decide +kernel
theorem dX5_takePower_39 : decode cX5_takePower 39 = .ok (.invokevirtual 204, 3) := by decide +kernel
theorem dX5_takePower_42 : decode cX5_takePower 42 = .ok (.ifCond .ne 5, 3) := by decide +kernel
theorem dX5_takePower_45 : decode cX5_takePower 45 = .ok (.iconst 0, 1) := by decide +kernel
theorem dX5_takePower_46 : decode cX5_takePower 46 = .ok (.ireturn, 1) := by decide +kernel
theorem dX5_takePower_47 : decode cX5_takePower 47 = .ok (.iinc 3 (-1), 3) := by decide +kernel
theorem dX5_takePower_50 : decode cX5_takePower 50 = .ok (.goto (-39), 3) := by decide +kernel
theorem dX5_takePower_53 : decode cX5_takePower 53 = .ok (.iconst 1, 1) := by decide +kernel
theorem dX5_takePower_54 : decode cX5_takePower 54 = .ok (.ireturn, 1) := by decide +kernel
set_option maxRecDepth 20000 in
theorem ggX5_multiplyResult_X4_takeProduct : GoodIn wsX5_multiplyResult wsX4_takeProduct := goodIn_r _ [8, 9, 10, 11, 12, 13, 14, 15, 16, 17, 18, 19, 20, 21, 22, 23, 24, 25, 26, 27, 28, 29, 30, 31, 32, 33, 34, 35, 36, 37, 38, 39, 40, 41, 42, 43, 44, 45, 46, 47, 48, 49, 50, 51, 52, 53, 7, 54, 55, 56, 57, 58, 78, 79, 80, 81] (by decide +kernel) (by decide +kernel)
set_option maxRecDepth 20000 in
theorem gX5_multiplyResult_X4_takeProduct : GoodIn wsX5_multiplyResult (wsV RX5 68 RX4 yX4_takeProduct wsX4_takeProduct) := goodIn_app (goodIn_of _ (by decide +kernel)) ggX5_multiplyResult_X4_takeProduct
set_option maxRecDepth 20000 in
theorem ggX5_multiplyResult_X2_bitLength : GoodIn wsX5_multiplyResult wsX2_bitLength := goodIn_r _ [15, 16, 17, 18, 19, 14, 20, 21, 22, 23, 24, 25, 26, 27, 28, 29, 30, 80, 81] (by decide +kernel) (by decide +kernel)
set_option maxRecDepth 20000 in
theorem gX5_multiplyResult_X2_bitLength : GoodIn wsX5_multiplyResult (wsV RX5 100 RX2 yX2_bitLength wsX2_bitLength) := goodIn_app (goodIn_of _ (by decide +kernel)) ggX5_multiplyResult_X2_bitLength
set_option maxRecDepth 20000 in
theorem ggX5_multiplyResult_X4_take : GoodIn wsX5_multiplyResult wsX4_take := goodIn_r _ [63, 9, 10, 64, 65, 66, 14, 67, 25, 16, 68, 69, 70, 71, 78, 79, 80, 81] (by decide +kernel) (by decide +kernel)
set_option maxRecDepth 20000 in
theorem gX5_multiplyResult_X4_take : GoodIn wsX5_multiplyResult (wsV RX5 97 RX4 yX4_take wsX4_take) := goodIn_app (goodIn_of _ (by decide +kernel)) ggX5_multiplyResult_X4_take
theorem dX5_multiplyResult_0 : decode cX5_multiplyResult 0 = .ok (.aload_n 0, 1) := by decide +kernel
theorem dX5_multiplyResult_1 : decode cX5_multiplyResult 1 = .ok (.getfield 20, 3) := by decide +kernel
theorem dX5_multiplyResult_4 : decode cX5_multiplyResult 4 = .ok (.aload_n 0, 1) := by decide +kernel
theorem dX5_multiplyResult_5 : decode cX5_multiplyResult 5 = .ok (.getfield 16, 3) := by decide +kernel
theorem dX5_multiplyResult_8 : decode cX5_multiplyResult 8 = .ok (.aload_n 1, 1) := by decide +kernel
theorem dX5_multiplyResult_9 : decode cX5_multiplyResult 9 = .ok (.invokevirtual 68, 3) := by decide +kernel
theorem dX5_multiplyResult_12 : decode cX5_multiplyResult 12 = .ok (.ifCond .eq 19, 3) := by decide +kernel
theorem dX5_multiplyResult_15 : decode cX5_multiplyResult 15 = .ok (.aload_n 0, 1) := by decide +kernel
theorem dX5_multiplyResult_16 : decode cX5_multiplyResult 16 = .ok (.getfield 20, 3) := by decide +kernel
theorem dX5_multiplyResult_19 : decode cX5_multiplyResult 19 = .ok (.getfield 72, 3) := by decide +kernel
theorem dX5_multiplyResult_22 : decode cX5_multiplyResult 22 = .ok (.invokevirtual 100, 3) := by decide +kernel
theorem dX5_multiplyResult_25 : decode cX5_multiplyResult 25 = .ok (.sipush 4096, 3) := by decide +kernel
theorem dX5_multiplyResult_28 : decode cX5_multiplyResult 28 = .ok (.if_icmp .le 5, 3) := by decide +kernel
theorem dX5_multiplyResult_31 : decode cX5_multiplyResult 31 = .ok (.iconst 0, 1) := by decide +kernel
theorem dX5_multiplyResult_32 : decode cX5_multiplyResult 32 = .ok (.ireturn, 1) := by decide +kernel
theorem dX5_multiplyResult_33 : decode cX5_multiplyResult 33 = .ok (.aload_n 0, 1) := by decide +kernel
theorem dX5_multiplyResult_34 : decode cX5_multiplyResult 34 = .ok (.getfield 16, 3) := by decide +kernel
theorem dX5_multiplyResult_37 : decode cX5_multiplyResult 37 = .ok (.aload_n 0, 1) := by decide +kernel
theorem dX5_multiplyResult_38 : decode cX5_multiplyResult 38 = .ok (.getfield 20, 3) := by decide +kernel
theorem dX5_multiplyResult_41 : decode cX5_multiplyResult 41 = .ok (.invokevirtual 97, 3) := by decide +kernel
theorem dX5_multiplyResult_44 : decode cX5_multiplyResult 44 = .ok (.iconst 1, 1) := by decide +kernel
theorem dX5_multiplyResult_45 : decode cX5_multiplyResult 45 = .ok (.ireturn, 1) := by decide +kernel
set_option maxRecDepth 20000 in
theorem ggX6_init_X6_twice : GoodIn wsX6_init wsX6_twice := goodIn_r _ [18, 19, 20, 17, 21] (by decide +kernel) (by decide +kernel)
set_option maxRecDepth 20000 in
theorem gX6_init_X6_twice : GoodIn wsX6_init (va_wsS RX6 38 yX6_twice wsX6_twice) := goodIn_app (goodIn_of _ (by decide +kernel)) ggX6_init_X6_twice
theorem dX6_init_0 : decode cX6_init 0 = .ok (.aload_n 0, 1) := by decide +kernel
theorem dX6_init_1 : decode cX6_init 1 = .ok (.invokespecial 1, 3) := by decide +kernel
theorem dX6_init_4 : decode cX6_init 4 = .ok (.aload_n 0, 1) := by decide +kernel
theorem dX6_init_5 : decode cX6_init 5 = .ok (.sipush 2560, 3) := by decide +kernel
theorem dX6_init_8 : decode cX6_init 8 = .ok (.newarray .int, 2) := by decide +kernel
theorem dX6_init_10 : decode cX6_init 10 = .ok (.putfield 7, 3) := by decide +kernel
theorem dX6_init_13 : decode cX6_init 13 = .ok (.aload_n 0, 1) := by decide +kernel
theorem dX6_init_14 : decode cX6_init 14 = .ok (.bipush 8, 2) := by decide +kernel
theorem dX6_init_16 : decode cX6_init 16 = .ok (.newarray .int, 2) := by decide +kernel
theorem dX6_init_18 : decode cX6_init 18 = .ok (.putfield 13, 3) := by decide +kernel
theorem dX6_init_21 : decode cX6_init 21 = .ok (.aload_n 0, 1) := by decide +kernel
theorem dX6_init_22 : decode cX6_init 22 = .ok (.bipush 8, 2) := by decide +kernel
theorem dX6_init_24 : decode cX6_init 24 = .ok (.newarray .int, 2) := by decide +kernel
theorem dX6_init_26 : decode cX6_init 26 = .ok (.putfield 16, 3) := by decide +kernel
theorem dX6_init_29 : decode cX6_init 29 = .ok (.aload_n 0, 1) := by decide +kernel
theorem dX6_init_30 : decode cX6_init 30 = .ok (.sipush 320, 3) := by decide +kernel
theorem dX6_init_33 : decode cX6_init 33 = .ok (.newarray .int, 2) := by decide +kernel
theorem dX6_init_35 : decode cX6_init 35 = .ok (.putfield 19, 3) := by decide +kernel
theorem dX6_init_38 : decode cX6_init 38 = .ok (.aload_n 0, 1) := by decide +kernel
theorem dX6_init_39 : decode cX6_init 39 = .ok (.sipush 700, 3) := by decide +kernel
theorem dX6_init_42 : decode cX6_init 42 = .ok (.newarray .int, 2) := by decide +kernel
theorem dX6_init_44 : decode cX6_init 44 = .ok (.putfield 22, 3) := by decide +kernel
theorem dX6_init_47 : decode cX6_init 47 = .ok (.aload_n 0, 1) := by decide +kernel
theorem dX6_init_48 : decode cX6_init 48 = .ok (.sipush 700, 3) := by decide +kernel
theorem dX6_init_51 : decode cX6_init 51 = .ok (.newarray .int, 2) := by decide +kernel
theorem dX6_init_53 : decode cX6_init 53 = .ok (.putfield 25, 3) := by decide +kernel
theorem dX6_init_56 : decode cX6_init 56 = .ok (.aload_n 0, 1) := by decide +kernel
theorem dX6_init_57 : decode cX6_init 57 = .ok (.sipush 700, 3) := by decide +kernel
theorem dX6_init_60 : decode cX6_init 60 = .ok (.newarray .int, 2) := by decide +kernel
theorem dX6_init_62 : decode cX6_init 62 = .ok (.putfield 28, 3) := by decide +kernel
theorem dX6_init_65 : decode cX6_init 65 = .ok (.aload_n 0, 1) := by decide +kernel
theorem dX6_init_66 : decode cX6_init 66 = .ok (.sipush 4100, 3) := by decide +kernel
theorem dX6_init_69 : decode cX6_init 69 = .ok (.newarray .int, 2) := by decide +kernel
theorem dX6_init_71 : decode cX6_init 71 = .ok (.putfield 31, 3) := by decide +kernel
theorem dX6_init_74 : decode cX6_init 74 = .ok (.aload_n 0, 1) := by decide +kernel
theorem dX6_init_75 : decode cX6_init 75 = .ok (.getfield 22, 3) := by decide +kernel
theorem dX6_init_78 : decode cX6_init 78 = .ok (.iconst 0, 1) := by decide +kernel
theorem dX6_init_79 : decode cX6_init 79 = .ok (.iconst 1, 1) := by decide +kernel
theorem dX6_init_80 : decode cX6_init 80 = .ok (.iastore, 1) := by decide +kernel
theorem dX6_init_81 : decode cX6_init 81 = .ok (.aload_n 0, 1) := by decide +kernel
theorem dX6_init_82 : decode cX6_init 82 = .ok (.iconst 1, 1) := by decide +kernel
theorem dX6_init_83 : decode cX6_init 83 = .ok (.putfield 34, 3) := by decide +kernel
theorem dX6_init_86 : decode cX6_init 86 = .ok (.iconst 0, 1) := by decide +kernel
theorem dX6_init_87 : decode cX6_init 87 = .ok (.istore_n 1, 1) := by decide +kernel
theorem dX6_init_88 : decode cX6_init 88 = .ok (.iload_n 1, 1) := by decide +kernel
theorem dX6_init_89 : decode cX6_init 89 = .ok (.sipush 4096, 3) := by decide +kernel
theorem dX6_init_92 : decode cX6_init 92 = .ok (.if_icmp .ge 24, 3) := by decide +kernel
theorem dX6_init_95 : decode cX6_init 95 = .ok (.aload_n 0, 1) := by decide +kernel
theorem dX6_init_96 : decode cX6_init 96 = .ok (.aload_n 0, 1) := by decide +kernel
theorem dX6_init_97 : decode cX6_init 97 = .ok (.getfield 22, 3) := by decide +kernel
theorem dX6_init_100 : decode cX6_init 100 = .ok (.aload_n 0, 1) := by decide +kernel
theorem dX6_init_101 : decode cX6_init 101 = .ok (.getfield 34, 3) := by decide +kernel
theorem dX6_init_104 : decode cX6_init 104 = .ok (.invokestatic 38, 3) := by decide +kernel
theorem dX6_init_107 : decode cX6_init 107 = .ok (.putfield 34, 3) := by decide +kernel
theorem dX6_init_110 : decode cX6_init 110 = .ok (.iinc 1 1, 3) := by decide +kernel
theorem dX6_init_113 : decode cX6_init 113 = .ok (.goto (-25), 3) := by decide +kernel
theorem dX6_init_116 : decode cX6_init 116 = .ok (.iconst 0, 1) := by decide +kernel
theorem dX6_init_117 : decode cX6_init 117 = .ok (.istore_n 1, 1) := by decide +kernel
theorem dX6_init_118 : decode cX6_init 118 = .ok (.iload_n 1, 1) := by decide +kernel
theorem dX6_init_119 : decode cX6_init 119 = .ok (.aload_n 0, 1) := by decide +kernel
theorem dX6_init_120 : decode cX6_init 120 = .ok (.getfield 34, 3) := by decide +kernel
theorem dX6_init_123 : decode cX6_init 123 = .ok (.if_icmp .ge 21, 3) := by decide +kernel
theorem dX6_init_126 : decode cX6_init 126 = .ok (.aload_n 0, 1) := by decide +kernel
theorem dX6_init_127 : decode cX6_init 127 = .ok (.getfield 19, 3) := by decide +kernel
theorem dX6_init_130 : decode cX6_init 130 = .ok (.iload_n 1, 1) := by decide +kernel
theorem dX6_init_131 : decode cX6_init 131 = .ok (.aload_n 0, 1) := by decide +kernel
theorem dX6_init_132 : decode cX6_init 132 = .ok (.getfield 22, 3) := by decide +kernel
theorem dX6_init_135 : decode cX6_init 135 = .ok (.iload_n 1, 1) := by decide +kernel
theorem dX6_init_136 : decode cX6_init 136 = .ok (.iaload, 1) := by decide +kernel
theorem dX6_init_137 : decode cX6_init 137 = .ok (.iastore, 1) := by decide +kernel
theorem dX6_init_138 : decode cX6_init 138 = .ok (.iinc 1 1, 3) := by decide +kernel
theorem dX6_init_141 : decode cX6_init 141 = .ok (.goto (-23), 3) := by decide +kernel
theorem dX6_init_144 : decode cX6_init 144 = .ok (.aload_n 0, 1) := by decide +kernel
theorem dX6_init_145 : decode cX6_init 145 = .ok (.aload_n 0, 1) := by decide +kernel
theorem dX6_init_146 : decode cX6_init 146 = .ok (.getfield 34, 3) := by decide +kernel
theorem dX6_init_149 : decode cX6_init 149 = .ok (.putfield 42, 3) := by decide +kernel
theorem dX6_init_152 : decode cX6_init 152 = .ok (.return_, 1) := by decide +kernel
theorem dX6_thrown_0 : decode cX6_thrown 0 = .ok (.aload_n 0, 1) := by decide +kernel
theorem dX6_thrown_1 : decode cX6_thrown 1 = .ok (.getfield 45, 3) := by decide +kernel
theorem dX6_thrown_4 : decode cX6_thrown 4 = .ok (.ireturn, 1) := by decide +kernel
theorem dX6_isRegister_0 : decode cX6_isRegister 0 = .ok (.iload_n 0, 1) := by decide +kernel
theorem dX6_isRegister_1 : decode cX6_isRegister 1 = .ok (.ifCond .lt 13, 3) := by decide +kernel
theorem dX6_isRegister_4 : decode cX6_isRegister 4 = .ok (.iload_n 0, 1) := by decide +kernel
theorem dX6_isRegister_5 : decode cX6_isRegister 5 = .ok (.bipush 7, 2) := by decide +kernel
theorem dX6_isRegister_7 : decode cX6_isRegister 7 = .ok (.if_icmp .gt 7, 3) := by decide +kernel
theorem dX6_isRegister_10 : decode cX6_isRegister 10 = .ok (.iconst 1, 1) := by decide +kernel
theorem dX6_isRegister_11 : decode cX6_isRegister 11 = .ok (.goto 4, 3) := by decide +kernel
theorem dX6_isRegister_14 : decode cX6_isRegister 14 = .ok (.iconst 0, 1) := by decide +kernel
theorem dX6_isRegister_15 : decode cX6_isRegister 15 = .ok (.ireturn, 1) := by decide +kernel
theorem dX6_shortened_0 : decode cX6_shortened 0 = .ok (.iload_n 1, 1) := by decide +kernel
theorem dX6_shortened_1 : decode cX6_shortened 1 = .ok (.istore_n 2, 1) := by decide +kernel
theorem dX6_shortened_2 : decode cX6_shortened 2 = .ok (.iload_n 2, 1) := by decide +kernel
theorem dX6_shortened_3 : decode cX6_shortened 3 = .ok (.ifCond .le 17, 3) := by decide +kernel
theorem dX6_shortened_6 : decode cX6_shortened 6 = .ok (.aload_n 0, 1) := by decide +kernel
theorem dX6_shortened_7 : decode cX6_shortened 7 = .ok (.iload_n 2, 1) := by decide +kernel
theorem dX6_shortened_8 : decode cX6_shortened 8 = .ok (.iconst 1, 1) := by decide +kernel
theorem dX6_shortened_9 : decode cX6_shortened 9 = .ok (.isub, 1) := by decide +kernel
theorem dX6_shortened_10 : decode cX6_shortened 10 = .ok (.iaload, 1) := by decide +kernel
theorem dX6_shortened_11 : decode cX6_shortened 11 = .ok (.ifCond .ne 9, 3) := by decide +kernel
theorem dX6_shortened_14 : decode cX6_shortened 14 = .ok (.iinc 2 (-1), 3) := by decide +kernel
theorem dX6_shortened_17 : decode cX6_shortened 17 = .ok (.goto (-15), 3) := by decide +kernel
theorem dX6_shortened_20 : decode cX6_shortened 20 = .ok (.iload_n 2, 1) := by decide +kernel
theorem dX6_shortened_21 : decode cX6_shortened 21 = .ok (.ireturn, 1) := by decide +kernel
theorem dX6_compareRows_0 : decode cX6_compareRows 0 = .ok (.iload_n 1, 1) := by decide +kernel
theorem dX6_compareRows_1 : decode cX6_compareRows 1 = .ok (.iload_n 3, 1) := by decide +kernel
theorem dX6_compareRows_2 : decode cX6_compareRows 2 = .ok (.if_icmp .eq 14, 3) := by decide +kernel
theorem dX6_compareRows_5 : decode cX6_compareRows 5 = .ok (.iload_n 1, 1) := by decide +kernel
theorem dX6_compareRows_6 : decode cX6_compareRows 6 = .ok (.iload_n 3, 1) := by decide +kernel
theorem dX6_compareRows_7 : decode cX6_compareRows 7 = .ok (.if_icmp .ge 7, 3) := by decide +kernel
theorem dX6_compareRows_10 : decode cX6_compareRows 10 = .ok (.iconst (-1), 1) := by decide +kernel
theorem dX6_compareRows_11 : decode cX6_compareRows 11 = .ok (.goto 4, 3) := by decide +kernel
theorem dX6_compareRows_14 : decode cX6_compareRows 14 = .ok (.iconst 1, 1) := by decide +kernel
theorem dX6_compareRows_15 : decode cX6_compareRows 15 = .ok (.ireturn, 1) := by decide +kernel
theorem dX6_compareRows_16 : decode cX6_compareRows 16 = .ok (.iload_n 1, 1) := by decide +kernel
theorem dX6_compareRows_17 : decode cX6_compareRows 17 = .ok (.iconst 1, 1) := by decide +kernel
theorem dX6_compareRows_18 : decode cX6_compareRows 18 = .ok (.isub, 1) := by decide +kernel
theorem dX6_compareRows_19 : decode cX6_compareRows 19 = .ok (.istore 4, 2) := by decide +kernel
theorem dX6_compareRows_21 : decode cX6_compareRows 21 = .ok (.iload 4, 2) := by decide +kernel
theorem dX6_compareRows_23 : decode cX6_compareRows 23 = .ok (.ifCond .lt 37, 3) := by decide +kernel
theorem dX6_compareRows_26 : decode cX6_compareRows 26 = .ok (.aload_n 0, 1) := by decide +kernel
theorem dX6_compareRows_27 : decode cX6_compareRows 27 = .ok (.iload 4, 2) := by decide +kernel
theorem dX6_compareRows_29 : decode cX6_compareRows 29 = .ok (.iaload, 1) := by decide +kernel
theorem dX6_compareRows_30 : decode cX6_compareRows 30 = .ok (.aload_n 2, 1) := by decide +kernel
theorem dX6_compareRows_31 : decode cX6_compareRows 31 = .ok (.iload 4, 2) := by decide +kernel
theorem dX6_compareRows_33 : decode cX6_compareRows 33 = .ok (.iaload, 1) := by decide +kernel
theorem dX6_compareRows_34 : decode cX6_compareRows 34 = .ok (.if_icmp .eq 20, 3) := by decide +kernel
theorem dX6_compareRows_37 : decode cX6_compareRows 37 = .ok (.aload_n 0, 1) := by decide +kernel
theorem dX6_compareRows_38 : decode cX6_compareRows 38 = .ok (.iload 4, 2) := by decide +kernel
theorem dX6_compareRows_40 : decode cX6_compareRows 40 = .ok (.iaload, 1) := by decide +kernel
theorem dX6_compareRows_41 : decode cX6_compareRows 41 = .ok (.aload_n 2, 1) := by decide +kernel
theorem dX6_compareRows_42 : decode cX6_compareRows 42 = .ok (.iload 4, 2) := by decide +kernel
theorem dX6_compareRows_44 : decode cX6_compareRows 44 = .ok (.iaload, 1) := by decide +kernel
theorem dX6_compareRows_45 : decode cX6_compareRows 45 = .ok (.if_icmp .ge 7, 3) := by decide +kernel
theorem dX6_compareRows_48 : decode cX6_compareRows 48 = .ok (.iconst (-1), 1) := by decide +kernel
theorem dX6_compareRows_49 : decode cX6_compareRows 49 = .ok (.goto 4, 3) := by decide +kernel
theorem dX6_compareRows_52 : decode cX6_compareRows 52 = .ok (.iconst 1, 1) := by decide +kernel
theorem dX6_compareRows_53 : decode cX6_compareRows 53 = .ok (.ireturn, 1) := by decide +kernel
theorem dX6_compareRows_54 : decode cX6_compareRows 54 = .ok (.iinc 4 (-1), 3) := by decide +kernel
theorem dX6_compareRows_57 : decode cX6_compareRows 57 = .ok (.goto (-36), 3) := by decide +kernel
theorem dX6_compareRows_60 : decode cX6_compareRows 60 = .ok (.iconst 0, 1) := by decide +kernel
theorem dX6_compareRows_61 : decode cX6_compareRows 61 = .ok (.ireturn, 1) := by decide +kernel
theorem dX6_scaled_0 : decode cX6_scaled 0 = .ok (.iload_n 3, 1) := by decide +kernel
theorem dX6_scaled_1 : decode cX6_scaled 1 = .ok (.istore 4, 2) := by decide +kernel
theorem dX6_scaled_3 : decode cX6_scaled 3 = .ok (.iconst 0, 1) := by decide +kernel
theorem dX6_scaled_4 : decode cX6_scaled 4 = .ok (.istore 5, 2) := by decide +kernel
theorem dX6_scaled_6 : decode cX6_scaled 6 = .ok (.iload 5, 2) := by decide +kernel
theorem dX6_scaled_8 : decode cX6_scaled 8 = .ok (.iload_n 1, 1) := by decide +kernel
theorem dX6_scaled_9 : decode cX6_scaled 9 = .ok (.if_icmp .lt 8, 3) := by decide +kernel
theorem dX6_scaled_12 : decode cX6_scaled 12 = .ok (.iload 4, 2) := by decide +kernel
theorem dX6_scaled_14 : decode cX6_scaled 14 = .ok (.ifCond .le 48, 3) := by decide +kernel
theorem dX6_scaled_17 : decode cX6_scaled 17 = .ok (.iload 5, 2) := by decide +kernel
theorem dX6_scaled_19 : decode cX6_scaled 19 = .ok (.iload_n 1, 1) := by decide +kernel
theorem dX6_scaled_20 : decode cX6_scaled 20 = .ok (.if_icmp .ge 10, 3) := by decide +kernel
theorem dX6_scaled_23 : decode cX6_scaled 23 = .ok (.aload_n 0, 1) := by decide +kernel
theorem dX6_scaled_24 : decode cX6_scaled 24 = .ok (.iload 5, 2) := by decide +kernel
theorem dX6_scaled_26 : decode cX6_scaled 26 = .ok (.iaload, 1) := by decide +kernel
theorem dX6_scaled_27 : decode cX6_scaled 27 = .ok (.goto 4, 3) := by decide +kernel
theorem dX6_scaled_30 : decode cX6_scaled 30 = .ok (.iconst 0, 1) := by decide +kernel
theorem dX6_scaled_31 : decode cX6_scaled 31 = .ok (.iload_n 2, 1) := by decide +kernel
theorem dX6_scaled_32 : decode cX6_scaled 32 = .ok (.imul, 1) := by decide +kernel
theorem dX6_scaled_33 : decode cX6_scaled 33 = .ok (.iload 4, 2) := by decide +kernel
theorem dX6_scaled_35 : decode cX6_scaled 35 = .ok (.iadd, 1) := by decide +kernel
theorem dX6_scaled_36 : decode cX6_scaled 36 = .ok (.istore 6, 2) := by decide +kernel
theorem dX6_scaled_38 : decode cX6_scaled 38 = .ok (.aload_n 0, 1) := by decide +kernel
theorem dX6_scaled_39 : decode cX6_scaled 39 = .ok (.iload 5, 2) := by decide +kernel
theorem dX6_scaled_41 : decode cX6_scaled 41 = .ok (.iload 6, 2) := by decide +kernel
theorem dX6_scaled_43 : decode cX6_scaled 43 = .ok (.sipush 10000, 3) := by decide +kernel
theorem dX6_scaled_46 : decode cX6_scaled 46 = .ok (.irem, 1) := by decide +kernel
theorem dX6_scaled_47 : decode cX6_scaled 47 = .ok (.iastore, 1) := by decide +kernel
theorem dX6_scaled_48 : decode cX6_scaled 48 = .ok (.iload 6, 2) := by decide +kernel
theorem dX6_scaled_50 : decode cX6_scaled 50 = .ok (.sipush 10000, 3) := by decide +kernel
theorem dX6_scaled_53 : decode cX6_scaled 53 = .ok (.idiv, 1) := by decide +kernel
theorem dX6_scaled_54 : decode cX6_scaled 54 = .ok (.istore 4, 2) := by decide +kernel
theorem dX6_scaled_56 : decode cX6_scaled 56 = .ok (.iinc 5 1, 3) := by decide +kernel
theorem dX6_scaled_59 : decode cX6_scaled 59 = .ok (.goto (-53), 3) := by decide +kernel
theorem dX6_scaled_62 : decode cX6_scaled 62 = .ok (.iload 5, 2) := by decide +kernel
theorem dX6_scaled_64 : decode cX6_scaled 64 = .ok (.ireturn, 1) := by decide +kernel
set_option maxRecDepth 20000 in
theorem ggX6_twice_X6_scaled : GoodIn wsX6_twice wsX6_scaled := goodIn_r _ [4] (by decide +kernel) (by decide +kernel)
set_option maxRecDepth 20000 in
theorem gX6_twice_X6_scaled : GoodIn wsX6_twice (va_wsS RX6 48 yX6_scaled wsX6_scaled) := goodIn_app (goodIn_of _ (by decide +kernel)) ggX6_twice_X6_scaled
theorem dX6_twice_0 : decode cX6_twice 0 = .ok (.aload_n 0, 1) := by decide +kernel
theorem dX6_twice_1 : decode cX6_twice 1 = .ok (.iload_n 1, 1) := by decide +kernel
theorem dX6_twice_2 : decode cX6_twice 2 = .ok (.iconst 2, 1) := by decide +kernel
theorem dX6_twice_3 : decode cX6_twice 3 = .ok (.iconst 0, 1) := by decide +kernel
theorem dX6_twice_4 : decode cX6_twice 4 = .ok (.invokestatic 48, 3) := by decide +kernel
theorem dX6_twice_7 : decode cX6_twice 7 = .ok (.ireturn, 1) := by decide +kernel
set_option maxRecDepth 20000 in
theorem ggX6_half_X6_shortened : GoodIn wsX6_half wsX6_shortened := goodIn_r _ [4] (by decide +kernel) (by decide +kernel)
set_option maxRecDepth 20000 in
theorem gX6_half_X6_shortened : GoodIn wsX6_half (va_wsS RX6 52 yX6_shortened wsX6_shortened) := goodIn_app (goodIn_of _ (by decide +kernel)) ggX6_half_X6_shortened
theorem dX6_half_0 : decode cX6_half 0 = .ok (.iconst 0, 1) := by decide +kernel
theorem dX6_half_1 : decode cX6_half 1 = .ok (.istore_n 2, 1) := by decide +kernel
theorem dX6_half_2 : decode cX6_half 2 = .ok (.iload_n 1, 1) := by decide +kernel
theorem dX6_half_3 : decode cX6_half 3 = .ok (.iconst 1, 1) := by decide +kernel
theorem dX6_half_4 : decode cX6_half 4 = .ok (.isub, 1) := by decide +kernel
theorem dX6_half_5 : decode cX6_half 5 = .ok (.istore_n 3, 1) := by decide +kernel
theorem dX6_half_6 : decode cX6_half 6 = .ok (.iload_n 3, 1) := by decide +kernel
theorem dX6_half_7 : decode cX6_half 7 = .ok (.ifCond .lt 32, 3) := by decide +kernel
theorem dX6_half_10 : decode cX6_half 10 = .ok (.iload_n 2, 1) := by decide +kernel
theorem dX6_half_11 : decode cX6_half 11 = .ok (.sipush 10000, 3) := by decide +kernel
theorem dX6_half_14 : decode cX6_half 14 = .ok (.imul, 1) := by decide +kernel
theorem dX6_half_15 : decode cX6_half 15 = .ok (.aload_n 0, 1) := by decide +kernel
theorem dX6_half_16 : decode cX6_half 16 = .ok (.iload_n 3, 1) := by decide +kernel
theorem dX6_half_17 : decode cX6_half 17 = .ok (.iaload, 1) := by decide +kernel
theorem dX6_half_18 : decode cX6_half 18 = .ok (.iadd, 1) := by decide +kernel
theorem dX6_half_19 : decode cX6_half 19 = .ok (.istore 4, 2) := by decide +kernel
theorem dX6_half_21 : decode cX6_half 21 = .ok (.aload_n 0, 1) := by decide +kernel
theorem dX6_half_22 : decode cX6_half 22 = .ok (.iload_n 3, 1) := by decide +kernel
theorem dX6_half_23 : decode cX6_half 23 = .ok (.iload 4, 2) := by decide +kernel
theorem dX6_half_25 : decode cX6_half 25 = .ok (.iconst 2, 1) := by decide +kernel
theorem dX6_half_26 : decode cX6_half 26 = .ok (.idiv, 1) := by decide +kernel
theorem dX6_half_27 : decode cX6_half 27 = .ok (.iastore, 1) := by decide +kernel
theorem dX6_half_28 : decode cX6_half 28 = .ok (.iload 4, 2) := by decide +kernel
theorem dX6_half_30 : decode cX6_half 30 = .ok (.iconst 2, 1) := by decide +kernel
theorem dX6_half_31 : decode cX6_half 31 = .ok (.irem, 1) := by decide +kernel
theorem dX6_half_32 : decode cX6_half 32 = .ok (.istore_n 2, 1) := by decide +kernel
theorem dX6_half_33 : decode cX6_half 33 = .ok (.iinc 3 (-1), 3) := by decide +kernel
theorem dX6_half_36 : decode cX6_half 36 = .ok (.goto (-30), 3) := by decide +kernel
theorem dX6_half_39 : decode cX6_half 39 = .ok (.aload_n 0, 1) := by decide +kernel
theorem dX6_half_40 : decode cX6_half 40 = .ok (.iload_n 1, 1) := by decide +kernel
theorem dX6_half_41 : decode cX6_half 41 = .ok (.invokestatic 52, 3) := by decide +kernel
theorem dX6_half_44 : decode cX6_half 44 = .ok (.ireturn, 1) := by decide +kernel
theorem dX6_added_0 : decode cX6_added 0 = .ok (.iconst 0, 1) := by decide +kernel
theorem dX6_added_1 : decode cX6_added 1 = .ok (.istore 4, 2) := by decide +kernel
theorem dX6_added_3 : decode cX6_added 3 = .ok (.iconst 0, 1) := by decide +kernel
theorem dX6_added_4 : decode cX6_added 4 = .ok (.istore 5, 2) := by decide +kernel
theorem dX6_added_6 : decode cX6_added 6 = .ok (.iload 5, 2) := by decide +kernel
theorem dX6_added_8 : decode cX6_added 8 = .ok (.iload_n 1, 1) := by decide +kernel
theorem dX6_added_9 : decode cX6_added 9 = .ok (.if_icmp .lt 14, 3) := by decide +kernel
theorem dX6_added_12 : decode cX6_added 12 = .ok (.iload 5, 2) := by decide +kernel
theorem dX6_added_14 : decode cX6_added 14 = .ok (.iload_n 3, 1) := by decide +kernel
theorem dX6_added_15 : decode cX6_added 15 = .ok (.if_icmp .lt 8, 3) := by decide +kernel
theorem dX6_added_18 : decode cX6_added 18 = .ok (.iload 4, 2) := by decide +kernel
theorem dX6_added_20 : decode cX6_added 20 = .ok (.ifCond .le 61, 3) := by decide +kernel
theorem dX6_added_23 : decode cX6_added 23 = .ok (.iload 5, 2) := by decide +kernel
theorem dX6_added_25 : decode cX6_added 25 = .ok (.iload_n 1, 1) := by decide +kernel
theorem dX6_added_26 : decode cX6_added 26 = .ok (.if_icmp .ge 10, 3) := by decide +kernel
theorem dX6_added_29 : decode cX6_added 29 = .ok (.aload_n 0, 1) := by decide +kernel
theorem dX6_added_30 : decode cX6_added 30 = .ok (.iload 5, 2) := by decide +kernel
theorem dX6_added_32 : decode cX6_added 32 = .ok (.iaload, 1) := by decide +kernel
theorem dX6_added_33 : decode cX6_added 33 = .ok (.goto 4, 3) := by decide +kernel
theorem dX6_added_36 : decode cX6_added 36 = .ok (.iconst 0, 1) := by decide +kernel
theorem dX6_added_37 : decode cX6_added 37 = .ok (.iload 5, 2) := by decide +kernel
theorem dX6_added_39 : decode cX6_added 39 = .ok (.iload_n 3, 1) := by decide +kernel
theorem dX6_added_40 : decode cX6_added 40 = .ok (.if_icmp .ge 10, 3) := by decide +kernel
theorem dX6_added_43 : decode cX6_added 43 = .ok (.aload_n 2, 1) := by decide +kernel
theorem dX6_added_44 : decode cX6_added 44 = .ok (.iload 5, 2) := by decide +kernel
theorem dX6_added_46 : decode cX6_added 46 = .ok (.iaload, 1) := by decide +kernel
theorem dX6_added_47 : decode cX6_added 47 = .ok (.goto 4, 3) := by decide +kernel
theorem dX6_added_50 : decode cX6_added 50 = .ok (.iconst 0, 1) := by decide +kernel
theorem dX6_added_51 : decode cX6_added 51 = .ok (.iadd, 1) := by decide +kernel
theorem dX6_added_52 : decode cX6_added 52 = .ok (.iload 4, 2) := by decide +kernel
theorem dX6_added_54 : decode cX6_added 54 = .ok (.iadd, 1) := by decide +kernel
theorem dX6_added_55 : decode cX6_added 55 = .ok (.istore 6, 2) := by decide +kernel
theorem dX6_added_57 : decode cX6_added 57 = .ok (.aload_n 0, 1) := by decide +kernel
theorem dX6_added_58 : decode cX6_added 58 = .ok (.iload 5, 2) := by decide +kernel
theorem dX6_added_60 : decode cX6_added 60 = .ok (.iload 6, 2) := by decide +kernel
theorem dX6_added_62 : decode cX6_added 62 = .ok (.sipush 10000, 3) := by decide +kernel
theorem dX6_added_65 : decode cX6_added 65 = .ok (.irem, 1) := by decide +kernel
theorem dX6_added_66 : decode cX6_added 66 = .ok (.iastore, 1) := by decide +kernel
theorem dX6_added_67 : decode cX6_added 67 = .ok (.iload 6, 2) := by decide +kernel
theorem dX6_added_69 : decode cX6_added 69 = .ok (.sipush 10000, 3) := by decide +kernel
theorem dX6_added_72 : decode cX6_added 72 = .ok (.idiv, 1) := by decide +kernel
theorem dX6_added_73 : decode cX6_added 73 = .ok (.istore 4, 2) := by decide +kernel
theorem dX6_added_75 : decode cX6_added 75 = .ok (.iinc 5 1, 3) := by decide +kernel
theorem dX6_added_78 : decode cX6_added 78 = .ok (.goto (-72), 3) := by decide +kernel
theorem dX6_added_81 : decode cX6_added 81 = .ok (.iload 5, 2) := by decide +kernel
theorem dX6_added_83 : decode cX6_added 83 = .ok (.ireturn, 1) := by decide +kernel
set_option maxRecDepth 20000 in
theorem ggX6_taken_X6_shortened : GoodIn wsX6_taken wsX6_shortened := goodIn_r _ [4] (by decide +kernel) (by decide +kernel)
set_option maxRecDepth 20000 in
theorem gX6_taken_X6_shortened : GoodIn wsX6_taken (va_wsS RX6 52 yX6_shortened wsX6_shortened) := goodIn_app (goodIn_of _ (by decide +kernel)) ggX6_taken_X6_shortened
theorem dX6_taken_0 : decode cX6_taken 0 = .ok (.iconst 0, 1) := by decide +kernel
theorem dX6_taken_1 : decode cX6_taken 1 = .ok (.istore 4, 2) := by decide +kernel
theorem dX6_taken_3 : decode cX6_taken 3 = .ok (.iconst 0, 1) := by decide +kernel
theorem dX6_taken_4 : decode cX6_taken 4 = .ok (.istore 5, 2) := by decide +kernel
theorem dX6_taken_6 : decode cX6_taken 6 = .ok (.iload 5, 2) := by decide +kernel
theorem dX6_taken_8 : decode cX6_taken 8 = .ok (.iload_n 1, 1) := by decide +kernel
theorem dX6_taken_9 : decode cX6_taken 9 = .ok (.if_icmp .ge 58, 3) := by decide +kernel
theorem dX6_taken_12 : decode cX6_taken 12 = .ok (.aload_n 0, 1) := by decide +kernel
theorem dX6_taken_13 : decode cX6_taken 13 = .ok (.iload 5, 2) := by decide +kernel
theorem dX6_taken_15 : decode cX6_taken 15 = .ok (.iaload, 1) := by decide +kernel
theorem dX6_taken_16 : decode cX6_taken 16 = .ok (.iload 4, 2) := by decide +kernel
theorem dX6_taken_18 : decode cX6_taken 18 = .ok (.isub, 1) := by decide +kernel
theorem dX6_taken_19 : decode cX6_taken 19 = .ok (.iload 5, 2) := by decide +kernel
theorem dX6_taken_21 : decode cX6_taken 21 = .ok (.iload_n 3, 1) := by decide +kernel
theorem dX6_taken_22 : decode cX6_taken 22 = .ok (.if_icmp .ge 10, 3) := by decide +kernel
theorem dX6_taken_25 : decode cX6_taken 25 = .ok (.aload_n 2, 1) := by decide +kernel
theorem dX6_taken_26 : decode cX6_taken 26 = .ok (.iload 5, 2) := by decide +kernel
theorem dX6_taken_28 : decode cX6_taken 28 = .ok (.iaload, 1) := by decide +kernel
theorem dX6_taken_29 : decode cX6_taken 29 = .ok (.goto 4, 3) := by decide +kernel
theorem dX6_taken_32 : decode cX6_taken 32 = .ok (.iconst 0, 1) := by decide +kernel
theorem dX6_taken_33 : decode cX6_taken 33 = .ok (.isub, 1) := by decide +kernel
theorem dX6_taken_34 : decode cX6_taken 34 = .ok (.istore 6, 2) := by decide +kernel
theorem dX6_taken_36 : decode cX6_taken 36 = .ok (.iload 6, 2) := by decide +kernel
theorem dX6_taken_38 : decode cX6_taken 38 = .ok (.ifCond .ge 7, 3) := by decide +kernel
theorem dX6_taken_41 : decode cX6_taken 41 = .ok (.iconst 1, 1) := by decide +kernel
theorem dX6_taken_42 : decode cX6_taken 42 = .ok (.goto 4, 3) := by decide +kernel
theorem dX6_taken_45 : decode cX6_taken 45 = .ok (.iconst 0, 1) := by decide +kernel
theorem dX6_taken_46 : decode cX6_taken 46 = .ok (.istore 4, 2) := by decide +kernel
theorem dX6_taken_48 : decode cX6_taken 48 = .ok (.aload_n 0, 1) := by decide +kernel
theorem dX6_taken_49 : decode cX6_taken 49 = .ok (.iload 5, 2) := by decide +kernel
theorem dX6_taken_51 : decode cX6_taken 51 = .ok (.iload 6, 2) := by decide +kernel
theorem dX6_taken_53 : decode cX6_taken 53 = .ok (.iload 4, 2) := by decide +kernel
theorem dX6_taken_55 : decode cX6_taken 55 = .ok (.sipush 10000, 3) := by decide +kernel
theorem dX6_taken_58 : decode cX6_taken 58 = .ok (.imul, 1) := by decide +kernel
theorem dX6_taken_59 : decode cX6_taken 59 = .ok (.iadd, 1) := by decide +kernel
theorem dX6_taken_60 : decode cX6_taken 60 = .ok (.iastore, 1) := by decide +kernel
theorem dX6_taken_61 : decode cX6_taken 61 = .ok (.iinc 5 1, 3) := by decide +kernel
theorem dX6_taken_64 : decode cX6_taken 64 = .ok (.goto (-58), 3) := by decide +kernel
theorem dX6_taken_67 : decode cX6_taken 67 = .ok (.aload_n 0, 1) := by decide +kernel
theorem dX6_taken_68 : decode cX6_taken 68 = .ok (.iload_n 1, 1) := by decide +kernel
theorem dX6_taken_69 : decode cX6_taken 69 = .ok (.invokestatic 52, 3) := by decide +kernel
theorem dX6_taken_72 : decode cX6_taken 72 = .ok (.ireturn, 1) := by decide +kernel
theorem dX6_isOdd_0 : decode cX6_isOdd 0 = .ok (.iload_n 1, 1) := by decide +kernel
theorem dX6_isOdd_1 : decode cX6_isOdd 1 = .ok (.ifCond .le 16, 3) := by decide +kernel
theorem dX6_isOdd_4 : decode cX6_isOdd 4 = .ok (.aload_n 0, 1) := by decide +kernel
theorem dX6_isOdd_5 : decode cX6_isOdd 5 = .ok (.iconst 0, 1) := by decide +kernel
theorem dX6_isOdd_6 : decode cX6_isOdd 6 = .ok (.iaload, 1) := by decide +kernel
theorem dX6_isOdd_7 : decode cX6_isOdd 7 = .ok (.iconst 2, 1) := by decide +kernel
theorem dX6_isOdd_8 : decode cX6_isOdd 8 = .ok (.irem, 1) := by decide +kernel
theorem dX6_isOdd_9 : decode cX6_isOdd 9 = .ok (.iconst 1, 1) := by decide +kernel
theorem dX6_isOdd_10 : decode cX6_isOdd 10 = .ok (.if_icmp .ne 7, 3) := by decide +kernel
theorem dX6_isOdd_13 : decode cX6_isOdd 13 = .ok (.iconst 1, 1) := by decide +kernel
theorem dX6_isOdd_14 : decode cX6_isOdd 14 = .ok (.goto 4, 3) := by decide +kernel
theorem dX6_isOdd_17 : decode cX6_isOdd 17 = .ok (.iconst 0, 1) := by decide +kernel
theorem dX6_isOdd_18 : decode cX6_isOdd 18 = .ok (.ireturn, 1) := by decide +kernel
theorem dX6_toX_0 : decode cX6_toX 0 = .ok (.aload_n 0, 1) := by decide +kernel
theorem dX6_toX_1 : decode cX6_toX 1 = .ok (.aload_n 0, 1) := by decide +kernel
theorem dX6_toX_2 : decode cX6_toX 2 = .ok (.getfield 13, 3) := by decide +kernel
theorem dX6_toX_5 : decode cX6_toX 5 = .ok (.iload_n 1, 1) := by decide +kernel
theorem dX6_toX_6 : decode cX6_toX 6 = .ok (.iaload, 1) := by decide +kernel
theorem dX6_toX_7 : decode cX6_toX 7 = .ok (.putfield 34, 3) := by decide +kernel
theorem dX6_toX_10 : decode cX6_toX 10 = .ok (.iconst 0, 1) := by decide +kernel
theorem dX6_toX_11 : decode cX6_toX 11 = .ok (.istore_n 2, 1) := by decide +kernel
theorem dX6_toX_12 : decode cX6_toX 12 = .ok (.iload_n 2, 1) := by decide +kernel
theorem dX6_toX_13 : decode cX6_toX 13 = .ok (.aload_n 0, 1) := by decide +kernel
theorem dX6_toX_14 : decode cX6_toX 14 = .ok (.getfield 34, 3) := by decide +kernel
theorem dX6_toX_17 : decode cX6_toX 17 = .ok (.if_icmp .ge 27, 3) := by decide +kernel
theorem dX6_toX_20 : decode cX6_toX 20 = .ok (.aload_n 0, 1) := by decide +kernel
theorem dX6_toX_21 : decode cX6_toX 21 = .ok (.getfield 22, 3) := by decide +kernel
theorem dX6_toX_24 : decode cX6_toX 24 = .ok (.iload_n 2, 1) := by decide +kernel
theorem dX6_toX_25 : decode cX6_toX 25 = .ok (.aload_n 0, 1) := by decide +kernel
theorem dX6_toX_26 : decode cX6_toX 26 = .ok (.getfield 7, 3) := by decide +kernel
theorem dX6_toX_29 : decode cX6_toX 29 = .ok (.sipush 320, 3) := by decide +kernel
theorem dX6_toX_32 : decode cX6_toX 32 = .ok (.iload_n 1, 1) := by decide +kernel
theorem dX6_toX_33 : decode cX6_toX 33 = .ok (.imul, 1) := by decide +kernel
theorem dX6_toX_34 : decode cX6_toX 34 = .ok (.iload_n 2, 1) := by decide +kernel
theorem dX6_toX_35 : decode cX6_toX 35 = .ok (.iadd, 1) := by decide +kernel
theorem dX6_toX_36 : decode cX6_toX 36 = .ok (.iaload, 1) := by decide +kernel
theorem dX6_toX_37 : decode cX6_toX 37 = .ok (.iastore, 1) := by decide +kernel
theorem dX6_toX_38 : decode cX6_toX 38 = .ok (.iinc 2 1, 3) := by decide +kernel
theorem dX6_toX_41 : decode cX6_toX 41 = .ok (.goto (-29), 3) := by decide +kernel
theorem dX6_toX_44 : decode cX6_toX 44 = .ok (.return_, 1) := by decide +kernel
theorem dX6_toY_0 : decode cX6_toY 0 = .ok (.aload_n 0, 1) := by decide +kernel
theorem dX6_toY_1 : decode cX6_toY 1 = .ok (.aload_n 0, 1) := by decide +kernel
theorem dX6_toY_2 : decode cX6_toY 2 = .ok (.getfield 13, 3) := by decide +kernel
theorem dX6_toY_5 : decode cX6_toY 5 = .ok (.iload_n 1, 1) := by decide +kernel
theorem dX6_toY_6 : decode cX6_toY 6 = .ok (.iaload, 1) := by decide +kernel
theorem dX6_toY_7 : decode cX6_toY 7 = .ok (.putfield 55, 3) := by decide +kernel
theorem dX6_toY_10 : decode cX6_toY 10 = .ok (.iconst 0, 1) := by decide +kernel
theorem dX6_toY_11 : decode cX6_toY 11 = .ok (.istore_n 2, 1) := by decide +kernel
theorem dX6_toY_12 : decode cX6_toY 12 = .ok (.iload_n 2, 1) := by decide +kernel
theorem dX6_toY_13 : decode cX6_toY 13 = .ok (.aload_n 0, 1) := by decide +kernel
theorem dX6_toY_14 : decode cX6_toY 14 = .ok (.getfield 55, 3) := by decide +kernel
theorem dX6_toY_17 : decode cX6_toY 17 = .ok (.if_icmp .ge 27, 3) := by decide +kernel
theorem dX6_toY_20 : decode cX6_toY 20 = .ok (.aload_n 0, 1) := by decide +kernel
theorem dX6_toY_21 : decode cX6_toY 21 = .ok (.getfield 25, 3) := by decide +kernel
theorem dX6_toY_24 : decode cX6_toY 24 = .ok (.iload_n 2, 1) := by decide +kernel
theorem dX6_toY_25 : decode cX6_toY 25 = .ok (.aload_n 0, 1) := by decide +kernel
theorem dX6_toY_26 : decode cX6_toY 26 = .ok (.getfield 7, 3) := by decide +kernel
theorem dX6_toY_29 : decode cX6_toY 29 = .ok (.sipush 320, 3) := by decide +kernel
theorem dX6_toY_32 : decode cX6_toY 32 = .ok (.iload_n 1, 1) := by decide +kernel
theorem dX6_toY_33 : decode cX6_toY 33 = .ok (.imul, 1) := by decide +kernel
theorem dX6_toY_34 : decode cX6_toY 34 = .ok (.iload_n 2, 1) := by decide +kernel
theorem dX6_toY_35 : decode cX6_toY 35 = .ok (.iadd, 1) := by decide +kernel
theorem dX6_toY_36 : decode cX6_toY 36 = .ok (.iaload, 1) := by decide +kernel
theorem dX6_toY_37 : decode cX6_toY 37 = .ok (.iastore, 1) := by decide +kernel
theorem dX6_toY_38 : decode cX6_toY 38 = .ok (.iinc 2 1, 3) := by decide +kernel
theorem dX6_toY_41 : decode cX6_toY 41 = .ok (.goto (-29), 3) := by decide +kernel
theorem dX6_toY_44 : decode cX6_toY 44 = .ok (.return_, 1) := by decide +kernel
set_option maxRecDepth 20000 in
theorem ggX6_isWithin_X6_compareRows : GoodIn wsX6_isWithin wsX6_compareRows := goodIn_r _ [6] (by decide +kernel) (by decide +kernel)
set_option maxRecDepth 20000 in
theorem gX6_isWithin_X6_compareRows : GoodIn wsX6_isWithin (va_wsS RX6 58 yX6_compareRows wsX6_compareRows) := goodIn_app (goodIn_of _ (by decide +kernel)) ggX6_isWithin_X6_compareRows
theorem dX6_isWithin_0 : decode cX6_isWithin 0 = .ok (.aload_n 1, 1) := by decide +kernel
theorem dX6_isWithin_1 : decode cX6_isWithin 1 = .ok (.iload_n 2, 1) := by decide +kernel
theorem dX6_isWithin_2 : decode cX6_isWithin 2 = .ok (.aload_n 0, 1) := by decide +kernel
theorem dX6_isWithin_3 : decode cX6_isWithin 3 = .ok (.getfield 19, 3) := by decide +kernel
theorem dX6_isWithin_6 : decode cX6_isWithin 6 = .ok (.aload_n 0, 1) := by decide +kernel
theorem dX6_isWithin_7 : decode cX6_isWithin 7 = .ok (.getfield 42, 3) := by decide +kernel
theorem dX6_isWithin_10 : decode cX6_isWithin 10 = .ok (.invokestatic 58, 3) := by decide +kernel
theorem dX6_isWithin_13 : decode cX6_isWithin 13 = .ok (.ifCond .ge 7, 3) := by decide +kernel
theorem dX6_isWithin_16 : decode cX6_isWithin 16 = .ok (.iconst 1, 1) := by decide +kernel
theorem dX6_isWithin_17 : decode cX6_isWithin 17 = .ok (.goto 4, 3) := by decide +kernel
theorem dX6_isWithin_20 : decode cX6_isWithin 20 = .ok (.iconst 0, 1) := by decide +kernel
theorem dX6_isWithin_21 : decode cX6_isWithin 21 = .ok (.ireturn, 1) := by decide +kernel
set_option maxRecDepth 20000 in
theorem ggX6_put_X6_isWithin : GoodIn wsX6_put wsX6_isWithin := goodIn_r _ [8, 9, 10, 11, 12, 7, 13, 30, 31, 32, 33, 34, 35, 36, 37, 38, 39, 40, 41, 42, 43] (by decide +kernel) (by decide +kernel)
set_option maxRecDepth 20000 in
theorem gX6_put_X6_isWithin : GoodIn wsX6_put (wsV RX6 62 RX6 yX6_isWithin wsX6_isWithin) := goodIn_app (goodIn_of _ (by decide +kernel)) ggX6_put_X6_isWithin
set_option maxRecDepth 20000 in
theorem ggX6_put_X6_bitsOf : GoodIn wsX6_put wsX6_bitsOf := goodIn_r _ [17, 18, 19, 20, 21, 22, 7, 23, 1, 3, 24, 25, 26, 27, 28, 29, 30, 31, 32, 33, 34, 35, 36, 37, 38, 39, 40, 41, 42, 43] (by decide +kernel) (by decide +kernel)
set_option maxRecDepth 20000 in
theorem gX6_put_X6_bitsOf : GoodIn wsX6_put (wsV RX6 66 RX6 yX6_bitsOf wsX6_bitsOf) := goodIn_app (goodIn_of _ (by decide +kernel)) ggX6_put_X6_bitsOf
theorem dX6_put_0 : decode cX6_put 0 = .ok (.aload_n 0, 1) := by decide +kernel
theorem dX6_put_1 : decode cX6_put 1 = .ok (.aload_n 2, 1) := by decide +kernel
theorem dX6_put_2 : decode cX6_put 2 = .ok (.iload_n 3, 1) := by decide +kernel
theorem dX6_put_3 : decode cX6_put 3 = .ok (.invokevirtual 62, 3) := by decide +kernel
theorem dX6_put_6 : decode cX6_put 6 = .ok (.ifCond .ne 5, 3) := by decide +kernel
theorem dX6_put_9 : decode cX6_put 9 = .ok (.iconst (-1), 1) := by decide +kernel
theorem dX6_put_10 : decode cX6_put 10 = .ok (.ireturn, 1) := by decide +kernel
theorem dX6_put_11 : decode cX6_put 11 = .ok (.aload_n 0, 1) := by decide +kernel
theorem dX6_put_12 : decode cX6_put 12 = .ok (.getfield 13, 3) := by decide +kernel
theorem dX6_put_15 : decode cX6_put 15 = .ok (.iload_n 1, 1) := by decide +kernel
theorem dX6_put_16 : decode cX6_put 16 = .ok (.iload_n 3, 1) := by decide +kernel
theorem dX6_put_17 : decode cX6_put 17 = .ok (.iastore, 1) := by decide +kernel
theorem dX6_put_18 : decode cX6_put 18 = .ok (.aload_n 0, 1) := by decide +kernel
theorem dX6_put_19 : decode cX6_put 19 = .ok (.getfield 16, 3) := by decide +kernel
theorem dX6_put_22 : decode cX6_put 22 = .ok (.iload_n 1, 1) := by decide +kernel
theorem dX6_put_23 : decode cX6_put 23 = .ok (.iload_n 3, 1) := by decide +kernel
theorem dX6_put_24 : decode cX6_put 24 = .ok (.ifCond .ne 7, 3) := by decide +kernel
theorem dX6_put_27 : decode cX6_put 27 = .ok (.iconst 0, 1) := by decide +kernel
theorem dX6_put_28 : decode cX6_put 28 = .ok (.goto 5, 3) := by decide +kernel
theorem dX6_put_31 : decode cX6_put 31 = .ok (.iload 4, 2) := by decide +kernel
theorem dX6_put_33 : decode cX6_put 33 = .ok (.iastore, 1) := by decide +kernel
theorem dX6_put_34 : decode cX6_put 34 = .ok (.iconst 0, 1) := by decide +kernel
theorem dX6_put_35 : decode cX6_put 35 = .ok (.istore 5, 2) := by decide +kernel
theorem dX6_put_37 : decode cX6_put 37 = .ok (.iload 5, 2) := by decide +kernel
theorem dX6_put_39 : decode cX6_put 39 = .ok (.iload_n 3, 1) := by decide +kernel
theorem dX6_put_40 : decode cX6_put 40 = .ok (.if_icmp .ge 26, 3) := by decide +kernel
theorem dX6_put_43 : decode cX6_put 43 = .ok (.aload_n 0, 1) := by decide +kernel
theorem dX6_put_44 : decode cX6_put 44 = .ok (.getfield 7, 3) := by decide +kernel
theorem dX6_put_47 : decode cX6_put 47 = .ok (.sipush 320, 3) := by decide +kernel
theorem dX6_put_50 : decode cX6_put 50 = .ok (.iload_n 1, 1) := by decide +kernel
theorem dX6_put_51 : decode cX6_put 51 = .ok (.imul, 1) := by decide +kernel
theorem dX6_put_52 : decode cX6_put 52 = .ok (.iload 5, 2) := by decide +kernel
theorem dX6_put_54 : decode cX6_put 54 = .ok (.iadd, 1) := by decide +kernel
theorem dX6_put_55 : decode cX6_put 55 = .ok (.aload_n 2, 1) := by decide +kernel
theorem dX6_put_56 : decode cX6_put 56 = .ok (.iload 5, 2) := by decide +kernel
theorem dX6_put_58 : decode cX6_put 58 = .ok (.iaload, 1) := by decide +kernel
theorem dX6_put_59 : decode cX6_put 59 = .ok (.iastore, 1) := by decide +kernel
theorem dX6_put_60 : decode cX6_put 60 = .ok (.iinc 5 1, 3) := by decide +kernel
theorem dX6_put_63 : decode cX6_put 63 = .ok (.goto (-26), 3) := by decide +kernel
theorem dX6_put_66 : decode cX6_put 66 = .ok (.aload_n 0, 1) := by decide +kernel
theorem dX6_put_67 : decode cX6_put 67 = .ok (.iload_n 1, 1) := by decide +kernel
theorem dX6_put_68 : decode cX6_put 68 = .ok (.invokevirtual 66, 3) := by decide +kernel
theorem dX6_put_71 : decode cX6_put 71 = .ok (.ireturn, 1) := by decide +kernel
set_option maxRecDepth 20000 in
theorem ggX6_bitsOf_X6_toX : GoodIn wsX6_bitsOf wsX6_toX := goodIn_r _ [7, 8, 1, 2, 9, 16, 17, 18, 19, 20, 21, 22, 23, 24, 25, 26, 27, 28, 29] (by decide +kernel) (by decide +kernel)
set_option maxRecDepth 20000 in
theorem gX6_bitsOf_X6_toX : GoodIn wsX6_bitsOf (wsV RX6 70 RX6 yX6_toX wsX6_toX) := goodIn_app (goodIn_of _ (by decide +kernel)) ggX6_bitsOf_X6_toX
set_option maxRecDepth 20000 in
theorem ggX6_bitsOf_X6_half : GoodIn wsX6_bitsOf wsX6_half := goodIn_r _ [12, 13, 14, 6, 15] (by decide +kernel) (by decide +kernel)
set_option maxRecDepth 20000 in
theorem gX6_bitsOf_X6_half : GoodIn wsX6_bitsOf (va_wsS RX6 74 yX6_half wsX6_half) := goodIn_app (goodIn_of _ (by decide +kernel)) ggX6_bitsOf_X6_half
theorem dX6_bitsOf_0 : decode cX6_bitsOf 0 = .ok (.aload_n 0, 1) := by decide +kernel
theorem dX6_bitsOf_1 : decode cX6_bitsOf 1 = .ok (.iload_n 1, 1) := by decide +kernel
theorem dX6_bitsOf_2 : decode cX6_bitsOf 2 = .ok (.invokevirtual 70, 3) := by decide +kernel
theorem dX6_bitsOf_5 : decode cX6_bitsOf 5 = .ok (.iconst 0, 1) := by decide +kernel
theorem dX6_bitsOf_6 : decode cX6_bitsOf 6 = .ok (.istore_n 2, 1) := by decide +kernel
theorem dX6_bitsOf_7 : decode cX6_bitsOf 7 = .ok (.aload_n 0, 1) := by decide +kernel
theorem dX6_bitsOf_8 : decode cX6_bitsOf 8 = .ok (.getfield 34, 3) := by decide +kernel
theorem dX6_bitsOf_11 : decode cX6_bitsOf 11 = .ok (.ifCond .le 24, 3) := by decide +kernel
theorem dX6_bitsOf_14 : decode cX6_bitsOf 14 = .ok (.aload_n 0, 1) := by decide +kernel
theorem dX6_bitsOf_15 : decode cX6_bitsOf 15 = .ok (.aload_n 0, 1) := by decide +kernel
theorem dX6_bitsOf_16 : decode cX6_bitsOf 16 = .ok (.getfield 22, 3) := by decide +kernel
theorem dX6_bitsOf_19 : decode cX6_bitsOf 19 = .ok (.aload_n 0, 1) := by decide +kernel
theorem dX6_bitsOf_20 : decode cX6_bitsOf 20 = .ok (.getfield 34, 3) := by decide +kernel
theorem dX6_bitsOf_23 : decode cX6_bitsOf 23 = .ok (.invokestatic 74, 3) := by decide +kernel
theorem dX6_bitsOf_26 : decode cX6_bitsOf 26 = .ok (.putfield 34, 3) := by decide +kernel
theorem dX6_bitsOf_29 : decode cX6_bitsOf 29 = .ok (.iinc 2 1, 3) := by decide +kernel
theorem dX6_bitsOf_32 : decode cX6_bitsOf 32 = .ok (.goto (-25), 3) := by decide +kernel
theorem dX6_bitsOf_35 : decode cX6_bitsOf 35 = .ok (.iload_n 2, 1) := by decide +kernel
theorem dX6_bitsOf_36 : decode cX6_bitsOf 36 = .ok (.ireturn, 1) := by decide +kernel
set_option maxRecDepth 20000 in
theorem ggX6_load_X6_isRegister : GoodIn wsX6_load wsX6_isRegister := goodIn_r _ [9] (by decide +kernel) (by decide +kernel)
set_option maxRecDepth 20000 in
theorem gX6_load_X6_isRegister : GoodIn wsX6_load (va_wsS RX6 77 yX6_isRegister wsX6_isRegister) := goodIn_app (goodIn_of _ (by decide +kernel)) ggX6_load_X6_isRegister
theorem dX6_load_0 : decode cX6_load 0 = .ok (.aload_n 0, 1) := by decide +kernel
theorem dX6_load_1 : decode cX6_load 1 = .ok (.iconst 0, 1) := by decide +kernel
theorem dX6_load_2 : decode cX6_load 2 = .ok (.putfield 45, 3) := by decide +kernel
theorem dX6_load_5 : decode cX6_load 5 = .ok (.iload_n 1, 1) := by decide +kernel
theorem dX6_load_6 : decode cX6_load 6 = .ok (.invokestatic 77, 3) := by decide +kernel
theorem dX6_load_9 : decode cX6_load 9 = .ok (.ifCond .ne 5, 3) := by decide +kernel
theorem dX6_load_12 : decode cX6_load 12 = .ok (.iconst 0, 1) := by decide +kernel
theorem dX6_load_13 : decode cX6_load 13 = .ok (.ireturn, 1) := by decide +kernel
theorem dX6_load_14 : decode cX6_load 14 = .ok (.lload_n 2, 1) := by decide +kernel
theorem dX6_load_15 : decode cX6_load 15 = .ok (.lstore 4, 2) := by decide +kernel
theorem dX6_load_17 : decode cX6_load 17 = .ok (.iconst 0, 1) := by decide +kernel
theorem dX6_load_18 : decode cX6_load 18 = .ok (.istore 6, 2) := by decide +kernel
theorem dX6_load_20 : decode cX6_load 20 = .ok (.lload 4, 2) := by decide +kernel
theorem dX6_load_22 : decode cX6_load 22 = .ok (.lconst 0, 1) := by decide +kernel
theorem dX6_load_23 : decode cX6_load 23 = .ok (.lcmp, 1) := by decide +kernel
theorem dX6_load_24 : decode cX6_load 24 = .ok (.ifCond .eq 54, 3) := by decide +kernel
theorem dX6_load_27 : decode cX6_load 27 = .ok (.lload 4, 2) := by decide +kernel
theorem dX6_load_29 : decode cX6_load 29 = .ok (.ldc2_w 81, 3) := by decide +kernel
theorem dX6_load_32 : decode cX6_load 32 = .ok (.lrem, 1) := by decide +kernel
theorem dX6_load_33 : decode cX6_load 33 = .ok (.lstore 7, 2) := by decide +kernel
theorem dX6_load_35 : decode cX6_load 35 = .ok (.aload_n 0, 1) := by decide +kernel
theorem dX6_load_36 : decode cX6_load 36 = .ok (.getfield 7, 3) := by decide +kernel
theorem dX6_load_39 : decode cX6_load 39 = .ok (.sipush 320, 3) := by decide +kernel
theorem dX6_load_42 : decode cX6_load 42 = .ok (.iload_n 1, 1) := by decide +kernel
theorem dX6_load_43 : decode cX6_load 43 = .ok (.imul, 1) := by decide +kernel
theorem dX6_load_44 : decode cX6_load 44 = .ok (.iload 6, 2) := by decide +kernel
theorem dX6_load_46 : decode cX6_load 46 = .ok (.iadd, 1) := by decide +kernel
theorem dX6_load_47 : decode cX6_load 47 = .ok (.lload 7, 2) := by decide +kernel
theorem dX6_load_49 : decode cX6_load 49 = .ok (.lconst 0, 1) := by decide +kernel
theorem dX6_load_50 : decode cX6_load 50 = .ok (.lcmp, 1) := by decide +kernel
theorem dX6_load_51 : decode cX6_load 51 = .ok (.ifCond .ge 9, 3) := by decide +kernel
theorem dX6_load_54 : decode cX6_load 54 = .ok (.lload 7, 2) := by decide +kernel
theorem dX6_load_56 : decode cX6_load 56 = .ok (.lneg, 1) := by decide +kernel
theorem dX6_load_57 : decode cX6_load 57 = .ok (.goto 5, 3) := by decide +kernel
theorem dX6_load_60 : decode cX6_load 60 = .ok (.lload 7, 2) := by decide +kernel
theorem dX6_load_62 : decode cX6_load 62 = .ok (.l2i, 1) := by decide +kernel
theorem dX6_load_63 : decode cX6_load 63 = .ok (.iastore, 1) := by decide +kernel
theorem dX6_load_64 : decode cX6_load 64 = .ok (.lload 4, 2) := by decide +kernel
theorem dX6_load_66 : decode cX6_load 66 = .ok (.ldc2_w 81, 3) := by decide +kernel
theorem dX6_load_69 : decode cX6_load 69 = .ok (.ldiv, 1) := by decide +kernel
theorem dX6_load_70 : decode cX6_load 70 = .ok (.lstore 4, 2) := by decide +kernel
theorem dX6_load_72 : decode cX6_load 72 = .ok (.iinc 6 1, 3) := by decide +kernel
theorem dX6_load_75 : decode cX6_load 75 = .ok (.goto (-55), 3) := by decide +kernel
theorem dX6_load_78 : decode cX6_load 78 = .ok (.aload_n 0, 1) := by decide +kernel
theorem dX6_load_79 : decode cX6_load 79 = .ok (.getfield 13, 3) := by decide +kernel
theorem dX6_load_82 : decode cX6_load 82 = .ok (.iload_n 1, 1) := by decide +kernel
theorem dX6_load_83 : decode cX6_load 83 = .ok (.iload 6, 2) := by decide +kernel
theorem dX6_load_85 : decode cX6_load 85 = .ok (.iastore, 1) := by decide +kernel
theorem dX6_load_86 : decode cX6_load 86 = .ok (.aload_n 0, 1) := by decide +kernel
theorem dX6_load_87 : decode cX6_load 87 = .ok (.getfield 16, 3) := by decide +kernel
theorem dX6_load_90 : decode cX6_load 90 = .ok (.iload_n 1, 1) := by decide +kernel
theorem dX6_load_91 : decode cX6_load 91 = .ok (.lload_n 2, 1) := by decide +kernel
theorem dX6_load_92 : decode cX6_load 92 = .ok (.lconst 0, 1) := by decide +kernel
theorem dX6_load_93 : decode cX6_load 93 = .ok (.lcmp, 1) := by decide +kernel
theorem dX6_load_94 : decode cX6_load 94 = .ok (.ifCond .ge 7, 3) := by decide +kernel
theorem dX6_load_97 : decode cX6_load 97 = .ok (.iconst (-1), 1) := by decide +kernel
theorem dX6_load_98 : decode cX6_load 98 = .ok (.goto 14, 3) := by decide +kernel
theorem dX6_load_101 : decode cX6_load 101 = .ok (.lload_n 2, 1) := by decide +kernel
theorem dX6_load_102 : decode cX6_load 102 = .ok (.lconst 0, 1) := by decide +kernel
theorem dX6_load_103 : decode cX6_load 103 = .ok (.lcmp, 1) := by decide +kernel
theorem dX6_load_104 : decode cX6_load 104 = .ok (.ifCond .le 7, 3) := by decide +kernel
theorem dX6_load_107 : decode cX6_load 107 = .ok (.iconst 1, 1) := by decide +kernel
theorem dX6_load_108 : decode cX6_load 108 = .ok (.goto 4, 3) := by decide +kernel
theorem dX6_load_111 : decode cX6_load 111 = .ok (.iconst 0, 1) := by decide +kernel
theorem dX6_load_112 : decode cX6_load 112 = .ok (.iastore, 1) := by decide +kernel
theorem dX6_load_113 : decode cX6_load 113 = .ok (.iconst 1, 1) := by decide +kernel
theorem dX6_load_114 : decode cX6_load 114 = .ok (.ireturn, 1) := by decide +kernel
set_option maxRecDepth 20000 in
theorem ggX6_sum_X6_added : GoodIn wsX6_sum wsX6_added := goodIn_r _ [8] (by decide +kernel) (by decide +kernel)
set_option maxRecDepth 20000 in
theorem gX6_sum_X6_added : GoodIn wsX6_sum (va_wsS RX6 83 yX6_added wsX6_added) := goodIn_app (goodIn_of _ (by decide +kernel)) ggX6_sum_X6_added
set_option maxRecDepth 20000 in
theorem ggX6_sum_X6_compareRows : GoodIn wsX6_sum wsX6_compareRows := goodIn_r _ [11] (by decide +kernel) (by decide +kernel)
set_option maxRecDepth 20000 in
theorem gX6_sum_X6_compareRows : GoodIn wsX6_sum (va_wsS RX6 58 yX6_compareRows wsX6_compareRows) := goodIn_app (goodIn_of _ (by decide +kernel)) ggX6_sum_X6_compareRows
set_option maxRecDepth 20000 in
theorem ggX6_sum_X6_taken : GoodIn wsX6_sum wsX6_taken := goodIn_r _ [14, 15, 16, 7, 17] (by decide +kernel) (by decide +kernel)
set_option maxRecDepth 20000 in
theorem gX6_sum_X6_taken : GoodIn wsX6_sum (va_wsS RX6 86 yX6_taken wsX6_taken) := goodIn_app (goodIn_of _ (by decide +kernel)) ggX6_sum_X6_taken
theorem dX6_sum_0 : decode cX6_sum 0 = .ok (.iload_n 1, 1) := by decide +kernel
theorem dX6_sum_1 : decode cX6_sum 1 = .ok (.ifCond .eq 12, 3) := by decide +kernel
theorem dX6_sum_4 : decode cX6_sum 4 = .ok (.iload_n 2, 1) := by decide +kernel
theorem dX6_sum_5 : decode cX6_sum 5 = .ok (.ifCond .eq 8, 3) := by decide +kernel
theorem dX6_sum_8 : decode cX6_sum 8 = .ok (.iload_n 1, 1) := by decide +kernel
theorem dX6_sum_9 : decode cX6_sum 9 = .ok (.iload_n 2, 1) := by decide +kernel
theorem dX6_sum_10 : decode cX6_sum 10 = .ok (.if_icmp .ne 36, 3) := by decide +kernel
theorem dX6_sum_13 : decode cX6_sum 13 = .ok (.aload_n 0, 1) := by decide +kernel
theorem dX6_sum_14 : decode cX6_sum 14 = .ok (.aload_n 0, 1) := by decide +kernel
theorem dX6_sum_15 : decode cX6_sum 15 = .ok (.getfield 22, 3) := by decide +kernel
theorem dX6_sum_18 : decode cX6_sum 18 = .ok (.aload_n 0, 1) := by decide +kernel
theorem dX6_sum_19 : decode cX6_sum 19 = .ok (.getfield 34, 3) := by decide +kernel
theorem dX6_sum_22 : decode cX6_sum 22 = .ok (.aload_n 0, 1) := by decide +kernel
theorem dX6_sum_23 : decode cX6_sum 23 = .ok (.getfield 25, 3) := by decide +kernel
theorem dX6_sum_26 : decode cX6_sum 26 = .ok (.aload_n 0, 1) := by decide +kernel
theorem dX6_sum_27 : decode cX6_sum 27 = .ok (.getfield 55, 3) := by decide +kernel
theorem dX6_sum_30 : decode cX6_sum 30 = .ok (.invokestatic 83, 3) := by decide +kernel
theorem dX6_sum_33 : decode cX6_sum 33 = .ok (.putfield 34, 3) := by decide +kernel
theorem dX6_sum_36 : decode cX6_sum 36 = .ok (.iload_n 1, 1) := by decide +kernel
theorem dX6_sum_37 : decode cX6_sum 37 = .ok (.ifCond .ne 7, 3) := by decide +kernel
theorem dX6_sum_40 : decode cX6_sum 40 = .ok (.iload_n 2, 1) := by decide +kernel
theorem dX6_sum_41 : decode cX6_sum 41 = .ok (.goto 4, 3) := by decide +kernel
theorem dX6_sum_44 : decode cX6_sum 44 = .ok (.iload_n 1, 1) := by decide +kernel
theorem dX6_sum_45 : decode cX6_sum 45 = .ok (.ireturn, 1) := by decide +kernel
theorem dX6_sum_46 : decode cX6_sum 46 = .ok (.aload_n 0, 1) := by decide +kernel
theorem dX6_sum_47 : decode cX6_sum 47 = .ok (.getfield 22, 3) := by decide +kernel
theorem dX6_sum_50 : decode cX6_sum 50 = .ok (.aload_n 0, 1) := by decide +kernel
theorem dX6_sum_51 : decode cX6_sum 51 = .ok (.getfield 34, 3) := by decide +kernel
theorem dX6_sum_54 : decode cX6_sum 54 = .ok (.aload_n 0, 1) := by decide +kernel
theorem dX6_sum_55 : decode cX6_sum 55 = .ok (.getfield 25, 3) := by decide +kernel
theorem dX6_sum_58 : decode cX6_sum 58 = .ok (.aload_n 0, 1) := by decide +kernel
theorem dX6_sum_59 : decode cX6_sum 59 = .ok (.getfield 55, 3) := by decide +kernel
theorem dX6_sum_62 : decode cX6_sum 62 = .ok (.invokestatic 58, 3) := by decide +kernel
theorem dX6_sum_65 : decode cX6_sum 65 = .ok (.ifCond .lt 28, 3) := by decide +kernel
theorem dX6_sum_68 : decode cX6_sum 68 = .ok (.aload_n 0, 1) := by decide +kernel
theorem dX6_sum_69 : decode cX6_sum 69 = .ok (.aload_n 0, 1) := by decide +kernel
theorem dX6_sum_70 : decode cX6_sum 70 = .ok (.getfield 22, 3) := by decide +kernel
theorem dX6_sum_73 : decode cX6_sum 73 = .ok (.aload_n 0, 1) := by decide +kernel
theorem dX6_sum_74 : decode cX6_sum 74 = .ok (.getfield 34, 3) := by decide +kernel
theorem dX6_sum_77 : decode cX6_sum 77 = .ok (.aload_n 0, 1) := by decide +kernel
theorem dX6_sum_78 : decode cX6_sum 78 = .ok (.getfield 25, 3) := by decide +kernel
theorem dX6_sum_81 : decode cX6_sum 81 = .ok (.aload_n 0, 1) := by decide +kernel
theorem dX6_sum_82 : decode cX6_sum 82 = .ok (.getfield 55, 3) := by decide +kernel
theorem dX6_sum_85 : decode cX6_sum 85 = .ok (.invokestatic 86, 3) := by decide +kernel
theorem dX6_sum_88 : decode cX6_sum 88 = .ok (.putfield 34, 3) := by decide +kernel
theorem dX6_sum_91 : decode cX6_sum 91 = .ok (.iload_n 1, 1) := by decide +kernel
theorem dX6_sum_92 : decode cX6_sum 92 = .ok (.ireturn, 1) := by decide +kernel
theorem dX6_sum_93 : decode cX6_sum 93 = .ok (.aload_n 0, 1) := by decide +kernel
theorem dX6_sum_94 : decode cX6_sum 94 = .ok (.aload_n 0, 1) := by decide +kernel
theorem dX6_sum_95 : decode cX6_sum 95 = .ok (.getfield 25, 3) := by decide +kernel
theorem dX6_sum_98 : decode cX6_sum 98 = .ok (.aload_n 0, 1) := by decide +kernel
theorem dX6_sum_99 : decode cX6_sum 99 = .ok (.getfield 55, 3) := by decide +kernel
theorem dX6_sum_102 : decode cX6_sum 102 = .ok (.aload_n 0, 1) := by decide +kernel
theorem dX6_sum_103 : decode cX6_sum 103 = .ok (.getfield 22, 3) := by decide +kernel
theorem dX6_sum_106 : decode cX6_sum 106 = .ok (.aload_n 0, 1) := by decide +kernel
theorem dX6_sum_107 : decode cX6_sum 107 = .ok (.getfield 34, 3) := by decide +kernel
theorem dX6_sum_110 : decode cX6_sum 110 = .ok (.invokestatic 86, 3) := by decide +kernel
theorem dX6_sum_113 : decode cX6_sum 113 = .ok (.putfield 55, 3) := by decide +kernel
theorem dX6_sum_116 : decode cX6_sum 116 = .ok (.aload_n 0, 1) := by decide +kernel
theorem dX6_sum_117 : decode cX6_sum 117 = .ok (.aload_n 0, 1) := by decide +kernel
theorem dX6_sum_118 : decode cX6_sum 118 = .ok (.getfield 55, 3) := by decide +kernel
theorem dX6_sum_121 : decode cX6_sum 121 = .ok (.putfield 34, 3) := by decide +kernel
theorem dX6_sum_124 : decode cX6_sum 124 = .ok (.iconst 0, 1) := by decide +kernel
theorem dX6_sum_125 : decode cX6_sum 125 = .ok (.istore_n 3, 1) := by decide +kernel
theorem dX6_sum_126 : decode cX6_sum 126 = .ok (.iload_n 3, 1) := by decide +kernel
theorem dX6_sum_127 : decode cX6_sum 127 = .ok (.aload_n 0, 1) := by decide +kernel
theorem dX6_sum_128 : decode cX6_sum 128 = .ok (.getfield 55, 3) := by decide +kernel
theorem dX6_sum_131 : decode cX6_sum 131 = .ok (.if_icmp .ge 21, 3) := by decide +kernel
theorem dX6_sum_134 : decode cX6_sum 134 = .ok (.aload_n 0, 1) := by decide +kernel
theorem dX6_sum_135 : decode cX6_sum 135 = .ok (.getfield 22, 3) := by decide +kernel
theorem dX6_sum_138 : decode cX6_sum 138 = .ok (.iload_n 3, 1) := by decide +kernel
theorem dX6_sum_139 : decode cX6_sum 139 = .ok (.aload_n 0, 1) := by decide +kernel
theorem dX6_sum_140 : decode cX6_sum 140 = .ok (.getfield 25, 3) := by decide +kernel
theorem dX6_sum_143 : decode cX6_sum 143 = .ok (.iload_n 3, 1) := by decide +kernel
theorem dX6_sum_144 : decode cX6_sum 144 = .ok (.iaload, 1) := by decide +kernel
theorem dX6_sum_145 : decode cX6_sum 145 = .ok (.iastore, 1) := by decide +kernel
theorem dX6_sum_146 : decode cX6_sum 146 = .ok (.iinc 3 1, 3) := by decide +kernel
theorem dX6_sum_149 : decode cX6_sum 149 = .ok (.goto (-23), 3) := by decide +kernel
theorem dX6_sum_152 : decode cX6_sum 152 = .ok (.iload_n 2, 1) := by decide +kernel
theorem dX6_sum_153 : decode cX6_sum 153 = .ok (.ireturn, 1) := by decide +kernel
set_option maxRecDepth 20000 in
theorem ggX6_multiply_X6_shortened : GoodIn wsX6_multiply wsX6_shortened := goodIn_r _ [10] (by decide +kernel) (by decide +kernel)
set_option maxRecDepth 20000 in
theorem gX6_multiply_X6_shortened : GoodIn wsX6_multiply (va_wsS RX6 52 yX6_shortened wsX6_shortened) := goodIn_app (goodIn_of _ (by decide +kernel)) ggX6_multiply_X6_shortened
theorem dX6_multiply_0 : decode cX6_multiply 0 = .ok (.iconst 0, 1) := by decide +kernel
theorem dX6_multiply_1 : decode cX6_multiply 1 = .ok (.istore_n 1, 1) := by decide +kernel
theorem dX6_multiply_2 : decode cX6_multiply 2 = .ok (.iload_n 1, 1) := by decide +kernel
theorem dX6_multiply_3 : decode cX6_multiply 3 = .ok (.aload_n 0, 1) := by decide +kernel
theorem dX6_multiply_4 : decode cX6_multiply 4 = .ok (.getfield 34, 3) := by decide +kernel
theorem dX6_multiply_7 : decode cX6_multiply 7 = .ok (.aload_n 0, 1) := by decide +kernel
theorem dX6_multiply_8 : decode cX6_multiply 8 = .ok (.getfield 55, 3) := by decide +kernel
theorem dX6_multiply_11 : decode cX6_multiply 11 = .ok (.iadd, 1) := by decide +kernel
theorem dX6_multiply_12 : decode cX6_multiply 12 = .ok (.if_icmp .ge 16, 3) := by decide +kernel
theorem dX6_multiply_15 : decode cX6_multiply 15 = .ok (.aload_n 0, 1) := by decide +kernel
theorem dX6_multiply_16 : decode cX6_multiply 16 = .ok (.getfield 28, 3) := by decide +kernel
theorem dX6_multiply_19 : decode cX6_multiply 19 = .ok (.iload_n 1, 1) := by decide +kernel
theorem dX6_multiply_20 : decode cX6_multiply 20 = .ok (.iconst 0, 1) := by decide +kernel
theorem dX6_multiply_21 : decode cX6_multiply 21 = .ok (.iastore, 1) := by decide +kernel
theorem dX6_multiply_22 : decode cX6_multiply 22 = .ok (.iinc 1 1, 3) := by decide +kernel
theorem dX6_multiply_25 : decode cX6_multiply 25 = .ok (.goto (-23), 3) := by decide +kernel
theorem dX6_multiply_28 : decode cX6_multiply 28 = .ok (.iconst 0, 1) := by decide +kernel
theorem dX6_multiply_29 : decode cX6_multiply 29 = .ok (.istore_n 1, 1) := by decide +kernel
theorem dX6_multiply_30 : decode cX6_multiply 30 = .ok (.iload_n 1, 1) := by decide +kernel
theorem dX6_multiply_31 : decode cX6_multiply 31 = .ok (.aload_n 0, 1) := by decide +kernel
theorem dX6_multiply_32 : decode cX6_multiply 32 = .ok (.getfield 34, 3) := by decide +kernel
theorem dX6_multiply_35 : decode cX6_multiply 35 = .ok (.if_icmp .ge 89, 3) := by decide +kernel
theorem dX6_multiply_38 : decode cX6_multiply 38 = .ok (.iconst 0, 1) := by decide +kernel
theorem dX6_multiply_39 : decode cX6_multiply 39 = .ok (.istore_n 2, 1) := by decide +kernel
theorem dX6_multiply_40 : decode cX6_multiply 40 = .ok (.iconst 0, 1) := by decide +kernel
theorem dX6_multiply_41 : decode cX6_multiply 41 = .ok (.istore_n 3, 1) := by decide +kernel
theorem dX6_multiply_42 : decode cX6_multiply 42 = .ok (.iload_n 3, 1) := by decide +kernel
theorem dX6_multiply_43 : decode cX6_multiply 43 = .ok (.aload_n 0, 1) := by decide +kernel
theorem dX6_multiply_44 : decode cX6_multiply 44 = .ok (.getfield 55, 3) := by decide +kernel
theorem dX6_multiply_47 : decode cX6_multiply 47 = .ok (.if_icmp .ge 56, 3) := by decide +kernel
theorem dX6_multiply_50 : decode cX6_multiply 50 = .ok (.aload_n 0, 1) := by decide +kernel
theorem dX6_multiply_51 : decode cX6_multiply 51 = .ok (.getfield 28, 3) := by decide +kernel
theorem dX6_multiply_54 : decode cX6_multiply 54 = .ok (.iload_n 1, 1) := by decide +kernel
theorem dX6_multiply_55 : decode cX6_multiply 55 = .ok (.iload_n 3, 1) := by decide +kernel
theorem dX6_multiply_56 : decode cX6_multiply 56 = .ok (.iadd, 1) := by decide +kernel
theorem dX6_multiply_57 : decode cX6_multiply 57 = .ok (.iaload, 1) := by decide +kernel
theorem dX6_multiply_58 : decode cX6_multiply 58 = .ok (.aload_n 0, 1) := by decide +kernel
theorem dX6_multiply_59 : decode cX6_multiply 59 = .ok (.getfield 22, 3) := by decide +kernel
theorem dX6_multiply_62 : decode cX6_multiply 62 = .ok (.iload_n 1, 1) := by decide +kernel
theorem dX6_multiply_63 : decode cX6_multiply 63 = .ok (.iaload, 1) := by decide +kernel
theorem dX6_multiply_64 : decode cX6_multiply 64 = .ok (.aload_n 0, 1) := by decide +kernel
theorem dX6_multiply_65 : decode cX6_multiply 65 = .ok (.getfield 25, 3) := by decide +kernel
theorem dX6_multiply_68 : decode cX6_multiply 68 = .ok (.iload_n 3, 1) := by decide +kernel
theorem dX6_multiply_69 : decode cX6_multiply 69 = .ok (.iaload, 1) := by decide +kernel
theorem dX6_multiply_70 : decode cX6_multiply 70 = .ok (.imul, 1) := by decide +kernel
theorem dX6_multiply_71 : decode cX6_multiply 71 = .ok (.iadd, 1) := by decide +kernel
theorem dX6_multiply_72 : decode cX6_multiply 72 = .ok (.iload_n 2, 1) := by decide +kernel
theorem dX6_multiply_73 : decode cX6_multiply 73 = .ok (.iadd, 1) := by decide +kernel
theorem dX6_multiply_74 : decode cX6_multiply 74 = .ok (.istore 4, 2) := by decide +kernel
theorem dX6_multiply_76 : decode cX6_multiply 76 = .ok (.aload_n 0, 1) := by decide +kernel
theorem dX6_multiply_77 : decode cX6_multiply 77 = .ok (.getfield 28, 3) := by decide +kernel
theorem dX6_multiply_80 : decode cX6_multiply 80 = .ok (.iload_n 1, 1) := by decide +kernel
theorem dX6_multiply_81 : decode cX6_multiply 81 = .ok (.iload_n 3, 1) := by decide +kernel
theorem dX6_multiply_82 : decode cX6_multiply 82 = .ok (.iadd, 1) := by decide +kernel
theorem dX6_multiply_83 : decode cX6_multiply 83 = .ok (.iload 4, 2) := by decide +kernel
theorem dX6_multiply_85 : decode cX6_multiply 85 = .ok (.sipush 10000, 3) := by decide +kernel
theorem dX6_multiply_88 : decode cX6_multiply 88 = .ok (.irem, 1) := by decide +kernel
theorem dX6_multiply_89 : decode cX6_multiply 89 = .ok (.iastore, 1) := by decide +kernel
theorem dX6_multiply_90 : decode cX6_multiply 90 = .ok (.iload 4, 2) := by decide +kernel
theorem dX6_multiply_92 : decode cX6_multiply 92 = .ok (.sipush 10000, 3) := by decide +kernel
theorem dX6_multiply_95 : decode cX6_multiply 95 = .ok (.idiv, 1) := by decide +kernel
theorem dX6_multiply_96 : decode cX6_multiply 96 = .ok (.istore_n 2, 1) := by decide +kernel
theorem dX6_multiply_97 : decode cX6_multiply 97 = .ok (.iinc 3 1, 3) := by decide +kernel
theorem dX6_multiply_100 : decode cX6_multiply 100 = .ok (.goto (-58), 3) := by decide +kernel
theorem dX6_multiply_103 : decode cX6_multiply 103 = .ok (.aload_n 0, 1) := by decide +kernel
theorem dX6_multiply_104 : decode cX6_multiply 104 = .ok (.getfield 28, 3) := by decide +kernel
theorem dX6_multiply_107 : decode cX6_multiply 107 = .ok (.iload_n 1, 1) := by decide +kernel
theorem dX6_multiply_108 : decode cX6_multiply 108 = .ok (.aload_n 0, 1) := by decide +kernel
theorem dX6_multiply_109 : decode cX6_multiply 109 = .ok (.getfield 55, 3) := by decide +kernel
theorem dX6_multiply_112 : decode cX6_multiply 112 = .ok (.iadd, 1) := by decide +kernel
theorem dX6_multiply_113 : decode cX6_multiply 113 = .ok (.dup2, 1) := by decide +kernel
theorem dX6_multiply_114 : decode cX6_multiply 114 = .ok (.iaload, 1) := by decide +kernel
theorem dX6_multiply_115 : decode cX6_multiply 115 = .ok (.iload_n 2, 1) := by decide +kernel
theorem dX6_multiply_116 : decode cX6_multiply 116 = .ok (.iadd, 1) := by decide +kernel
theorem dX6_multiply_117 : decode cX6_multiply 117 = .ok (.iastore, 1) := by decide +kernel
theorem dX6_multiply_118 : decode cX6_multiply 118 = .ok (.iinc 1 1, 3) := by decide +kernel
theorem dX6_multiply_121 : decode cX6_multiply 121 = .ok (.goto (-91), 3) := by decide +kernel
theorem dX6_multiply_124 : decode cX6_multiply 124 = .ok (.aload_n 0, 1) := by decide +kernel
theorem dX6_multiply_125 : decode cX6_multiply 125 = .ok (.aload_n 0, 1) := by decide +kernel
theorem dX6_multiply_126 : decode cX6_multiply 126 = .ok (.getfield 28, 3) := by decide +kernel
theorem dX6_multiply_129 : decode cX6_multiply 129 = .ok (.aload_n 0, 1) := by decide +kernel
theorem dX6_multiply_130 : decode cX6_multiply 130 = .ok (.getfield 34, 3) := by decide +kernel
theorem dX6_multiply_133 : decode cX6_multiply 133 = .ok (.aload_n 0, 1) := by decide +kernel
theorem dX6_multiply_134 : decode cX6_multiply 134 = .ok (.getfield 55, 3) := by decide +kernel
theorem dX6_multiply_137 : decode cX6_multiply 137 = .ok (.iadd, 1) := by decide +kernel
theorem dX6_multiply_138 : decode cX6_multiply 138 = .ok (.invokestatic 52, 3) := by decide +kernel
theorem dX6_multiply_141 : decode cX6_multiply 141 = .ok (.putfield 89, 3) := by decide +kernel
theorem dX6_multiply_144 : decode cX6_multiply 144 = .ok (.return_, 1) := by decide +kernel
set_option maxRecDepth 20000 in
theorem ggX6_reckon_X6_isRegister : GoodIn wsX6_reckon wsX6_isRegister := goodIn_r _ [10] (by decide +kernel) (by decide +kernel)
set_option maxRecDepth 20000 in
theorem gX6_reckon_X6_isRegister : GoodIn wsX6_reckon (va_wsS RX6 77 yX6_isRegister wsX6_isRegister) := goodIn_app (goodIn_of _ (by decide +kernel)) ggX6_reckon_X6_isRegister
set_option maxRecDepth 20000 in
theorem ggX6_reckon_X6_toX : GoodIn wsX6_reckon wsX6_toX := goodIn_r _ [14, 15, 6, 5, 16, 60, 61, 62, 63, 64, 65, 66, 67, 68, 69, 70, 71, 72, 73] (by decide +kernel) (by decide +kernel)
set_option maxRecDepth 20000 in
theorem gX6_reckon_X6_toX : GoodIn wsX6_reckon (wsV RX6 70 RX6 yX6_toX wsX6_toX) := goodIn_app (goodIn_of _ (by decide +kernel)) ggX6_reckon_X6_toX
set_option maxRecDepth 20000 in
theorem ggX6_reckon_X6_toY : GoodIn wsX6_reckon wsX6_toY := goodIn_r _ [20, 15, 21, 22, 16, 60, 61, 62, 63, 64, 65, 66, 67, 68, 69, 70, 71, 72, 73] (by decide +kernel) (by decide +kernel)
set_option maxRecDepth 20000 in
theorem gX6_reckon_X6_toY : GoodIn wsX6_reckon (wsV RX6 92 RX6 yX6_toY wsX6_toY) := goodIn_app (goodIn_of _ (by decide +kernel)) ggX6_reckon_X6_toY
set_option maxRecDepth 20000 in
theorem ggX6_reckon_X6_multiply : GoodIn wsX6_reckon wsX6_multiply := goodIn_r _ [26, 6, 21, 2, 5, 22, 3, 27, 28, 9, 29, 60, 61, 62, 63, 64, 65, 66, 67, 68, 69, 70, 71, 72, 73] (by decide +kernel) (by decide +kernel)
set_option maxRecDepth 20000 in
theorem gX6_reckon_X6_multiply : GoodIn wsX6_reckon (wsV RX6 95 RX6 yX6_multiply wsX6_multiply) := goodIn_app (goodIn_of _ (by decide +kernel)) ggX6_reckon_X6_multiply
set_option maxRecDepth 20000 in
theorem ggX6_reckon_X6_put : GoodIn wsX6_reckon wsX6_put := goodIn_r _ [33, 15, 4, 16, 34, 35, 36, 9, 37, 38, 39, 40, 41, 42, 43, 44, 45, 46, 6, 5, 11, 12, 13, 14, 47, 48, 49, 27, 28, 29, 60, 61, 62, 63, 64, 65, 66, 67, 68, 69, 70, 71, 72, 73] (by decide +kernel) (by decide +kernel)
set_option maxRecDepth 20000 in
theorem gX6_reckon_X6_put : GoodIn wsX6_reckon (wsV RX6 98 RX6 yX6_put wsX6_put) := goodIn_app (goodIn_of _ (by decide +kernel)) ggX6_reckon_X6_put
set_option maxRecDepth 20000 in
theorem ggX6_reckon_X6_sum : GoodIn wsX6_reckon wsX6_sum := goodIn_r _ [53, 5, 6, 22, 21, 54, 55, 9, 56, 40, 41, 42, 57, 58, 59, 27, 28, 29, 60, 61, 62, 63, 64, 65, 66, 67, 68, 69, 70, 71, 72, 73] (by decide +kernel) (by decide +kernel)
set_option maxRecDepth 20000 in
theorem gX6_reckon_X6_sum : GoodIn wsX6_reckon (wsV RX6 102 RX6 yX6_sum wsX6_sum) := goodIn_app (goodIn_of _ (by decide +kernel)) ggX6_reckon_X6_sum
theorem dX6_reckon_0 : decode cX6_reckon 0 = .ok (.aload_n 0, 1) := by decide +kernel
theorem dX6_reckon_1 : decode cX6_reckon 1 = .ok (.iconst 0, 1) := by decide +kernel
theorem dX6_reckon_2 : decode cX6_reckon 2 = .ok (.putfield 45, 3) := by decide +kernel
theorem dX6_reckon_5 : decode cX6_reckon 5 = .ok (.iload_n 1, 1) := by decide +kernel
theorem dX6_reckon_6 : decode cX6_reckon 6 = .ok (.ifCond .lt 30, 3) := by decide +kernel
theorem dX6_reckon_9 : decode cX6_reckon 9 = .ok (.iload_n 1, 1) := by decide +kernel
theorem dX6_reckon_10 : decode cX6_reckon 10 = .ok (.iconst 2, 1) := by decide +kernel
theorem dX6_reckon_11 : decode cX6_reckon 11 = .ok (.if_icmp .gt 25, 3) := by decide +kernel
theorem dX6_reckon_14 : decode cX6_reckon 14 = .ok (.iload_n 2, 1) := by decide +kernel
theorem dX6_reckon_15 : decode cX6_reckon 15 = .ok (.invokestatic 77, 3) := by decide +kernel
theorem dX6_reckon_18 : decode cX6_reckon 18 = .ok (.ifCond .eq 18, 3) := by decide +kernel
theorem dX6_reckon_21 : decode cX6_reckon 21 = .ok (.iload_n 3, 1) := by decide +kernel
theorem dX6_reckon_22 : decode cX6_reckon 22 = .ok (.invokestatic 77, 3) := by decide +kernel
theorem dX6_reckon_25 : decode cX6_reckon 25 = .ok (.ifCond .eq 11, 3) := by decide +kernel
theorem dX6_reckon_28 : decode cX6_reckon 28 = .ok (.iload 4, 2) := by decide +kernel
theorem dX6_reckon_30 : decode cX6_reckon 30 = .ok (.invokestatic 77, 3) := by decide +kernel
theorem dX6_reckon_33 : decode cX6_reckon 33 = .ok (.ifCond .ne 5, 3) := by decide +kernel
theorem dX6_reckon_36 : decode cX6_reckon 36 = .ok (.iconst (-1), 1) := by decide +kernel
theorem dX6_reckon_37 : decode cX6_reckon 37 = .ok (.ireturn, 1) := by decide +kernel
theorem dX6_reckon_38 : decode cX6_reckon 38 = .ok (.aload_n 0, 1) := by decide +kernel
theorem dX6_reckon_39 : decode cX6_reckon 39 = .ok (.iload_n 3, 1) := by decide +kernel
theorem dX6_reckon_40 : decode cX6_reckon 40 = .ok (.invokevirtual 70, 3) := by decide +kernel
theorem dX6_reckon_43 : decode cX6_reckon 43 = .ok (.aload_n 0, 1) := by decide +kernel
theorem dX6_reckon_44 : decode cX6_reckon 44 = .ok (.iload 4, 2) := by decide +kernel
theorem dX6_reckon_46 : decode cX6_reckon 46 = .ok (.invokevirtual 92, 3) := by decide +kernel
theorem dX6_reckon_49 : decode cX6_reckon 49 = .ok (.iload_n 1, 1) := by decide +kernel
theorem dX6_reckon_50 : decode cX6_reckon 50 = .ok (.iconst 2, 1) := by decide +kernel
theorem dX6_reckon_51 : decode cX6_reckon 51 = .ok (.if_icmp .ne 35, 3) := by decide +kernel
theorem dX6_reckon_54 : decode cX6_reckon 54 = .ok (.aload_n 0, 1) := by decide +kernel
theorem dX6_reckon_55 : decode cX6_reckon 55 = .ok (.invokevirtual 95, 3) := by decide +kernel
theorem dX6_reckon_58 : decode cX6_reckon 58 = .ok (.aload_n 0, 1) := by decide +kernel
theorem dX6_reckon_59 : decode cX6_reckon 59 = .ok (.iload_n 2, 1) := by decide +kernel
theorem dX6_reckon_60 : decode cX6_reckon 60 = .ok (.aload_n 0, 1) := by decide +kernel
theorem dX6_reckon_61 : decode cX6_reckon 61 = .ok (.getfield 28, 3) := by decide +kernel
theorem dX6_reckon_64 : decode cX6_reckon 64 = .ok (.aload_n 0, 1) := by decide +kernel
theorem dX6_reckon_65 : decode cX6_reckon 65 = .ok (.getfield 89, 3) := by decide +kernel
theorem dX6_reckon_68 : decode cX6_reckon 68 = .ok (.aload_n 0, 1) := by decide +kernel
theorem dX6_reckon_69 : decode cX6_reckon 69 = .ok (.getfield 16, 3) := by decide +kernel
theorem dX6_reckon_72 : decode cX6_reckon 72 = .ok (.iload_n 3, 1) := by decide +kernel
theorem dX6_reckon_73 : decode cX6_reckon 73 = .ok (.iaload, 1) := by decide +kernel
theorem dX6_reckon_74 : decode cX6_reckon 74 = .ok (.aload_n 0, 1) := by decide +kernel
theorem dX6_reckon_75 : decode cX6_reckon 75 = .ok (.getfield 16, 3) := by decide +kernel
theorem dX6_reckon_78 : decode cX6_reckon 78 = .ok (.iload 4, 2) := by decide +kernel
theorem dX6_reckon_80 : decode cX6_reckon 80 = .ok (.iaload, 1) := by decide +kernel
theorem dX6_reckon_81 : decode cX6_reckon 81 = .ok (.imul, 1) := by decide +kernel
theorem dX6_reckon_82 : decode cX6_reckon 82 = .ok (.invokevirtual 98, 3) := by decide +kernel
theorem dX6_reckon_85 : decode cX6_reckon 85 = .ok (.ireturn, 1) := by decide +kernel
theorem dX6_reckon_86 : decode cX6_reckon 86 = .ok (.aload_n 0, 1) := by decide +kernel
theorem dX6_reckon_87 : decode cX6_reckon 87 = .ok (.aload_n 0, 1) := by decide +kernel
theorem dX6_reckon_88 : decode cX6_reckon 88 = .ok (.getfield 16, 3) := by decide +kernel
theorem dX6_reckon_91 : decode cX6_reckon 91 = .ok (.iload_n 3, 1) := by decide +kernel
theorem dX6_reckon_92 : decode cX6_reckon 92 = .ok (.iaload, 1) := by decide +kernel
theorem dX6_reckon_93 : decode cX6_reckon 93 = .ok (.iload_n 1, 1) := by decide +kernel
theorem dX6_reckon_94 : decode cX6_reckon 94 = .ok (.ifCond .ne 13, 3) := by decide +kernel
theorem dX6_reckon_97 : decode cX6_reckon 97 = .ok (.aload_n 0, 1) := by decide +kernel
theorem dX6_reckon_98 : decode cX6_reckon 98 = .ok (.getfield 16, 3) := by decide +kernel
theorem dX6_reckon_101 : decode cX6_reckon 101 = .ok (.iload 4, 2) := by decide +kernel
theorem dX6_reckon_103 : decode cX6_reckon 103 = .ok (.iaload, 1) := by decide +kernel
theorem dX6_reckon_104 : decode cX6_reckon 104 = .ok (.goto 11, 3) := by decide +kernel
theorem dX6_reckon_107 : decode cX6_reckon 107 = .ok (.aload_n 0, 1) := by decide +kernel
theorem dX6_reckon_108 : decode cX6_reckon 108 = .ok (.getfield 16, 3) := by decide +kernel
theorem dX6_reckon_111 : decode cX6_reckon 111 = .ok (.iload 4, 2) := by decide +kernel
theorem dX6_reckon_113 : decode cX6_reckon 113 = .ok (.iaload, 1) := by decide +kernel
theorem dX6_reckon_114 : decode cX6_reckon 114 = .ok (.ineg, 1) := by decide +kernel
theorem dX6_reckon_115 : decode cX6_reckon 115 = .ok (.invokevirtual 102, 3) := by decide +kernel
theorem dX6_reckon_118 : decode cX6_reckon 118 = .ok (.istore 5, 2) := by decide +kernel
theorem dX6_reckon_120 : decode cX6_reckon 120 = .ok (.aload_n 0, 1) := by decide +kernel
theorem dX6_reckon_121 : decode cX6_reckon 121 = .ok (.iload_n 2, 1) := by decide +kernel
theorem dX6_reckon_122 : decode cX6_reckon 122 = .ok (.aload_n 0, 1) := by decide +kernel
theorem dX6_reckon_123 : decode cX6_reckon 123 = .ok (.getfield 22, 3) := by decide +kernel
theorem dX6_reckon_126 : decode cX6_reckon 126 = .ok (.aload_n 0, 1) := by decide +kernel
theorem dX6_reckon_127 : decode cX6_reckon 127 = .ok (.getfield 34, 3) := by decide +kernel
theorem dX6_reckon_130 : decode cX6_reckon 130 = .ok (.iload 5, 2) := by decide +kernel
theorem dX6_reckon_132 : decode cX6_reckon 132 = .ok (.invokevirtual 98, 3) := by decide +kernel
theorem dX6_reckon_135 : decode cX6_reckon 135 = .ok (.ireturn, 1) := by decide +kernel
set_option maxRecDepth 20000 in
theorem ggX6_split_X6_compareRows : GoodIn wsX6_split wsX6_compareRows := goodIn_r _ [10] (by decide +kernel) (by decide +kernel)
set_option maxRecDepth 20000 in
theorem gX6_split_X6_compareRows : GoodIn wsX6_split (va_wsS RX6 58 yX6_compareRows wsX6_compareRows) := goodIn_app (goodIn_of _ (by decide +kernel)) ggX6_split_X6_compareRows
set_option maxRecDepth 20000 in
theorem ggX6_split_X6_twice : GoodIn wsX6_split wsX6_twice := goodIn_r _ [13, 14, 15, 9, 16] (by decide +kernel) (by decide +kernel)
set_option maxRecDepth 20000 in
theorem gX6_split_X6_twice : GoodIn wsX6_split (va_wsS RX6 38 yX6_twice wsX6_twice) := goodIn_app (goodIn_of _ (by decide +kernel)) ggX6_split_X6_twice
set_option maxRecDepth 20000 in
theorem ggX6_split_X6_half : GoodIn wsX6_split wsX6_half := goodIn_r _ [19, 20, 21, 9, 22] (by decide +kernel) (by decide +kernel)
set_option maxRecDepth 20000 in
theorem gX6_split_X6_half : GoodIn wsX6_split (va_wsS RX6 74 yX6_half wsX6_half) := goodIn_app (goodIn_of _ (by decide +kernel)) ggX6_split_X6_half
set_option maxRecDepth 20000 in
theorem ggX6_split_X6_taken : GoodIn wsX6_split wsX6_taken := goodIn_r _ [25, 20, 21, 9, 22] (by decide +kernel) (by decide +kernel)
set_option maxRecDepth 20000 in
theorem gX6_split_X6_taken : GoodIn wsX6_split (va_wsS RX6 86 yX6_taken wsX6_taken) := goodIn_app (goodIn_of _ (by decide +kernel)) ggX6_split_X6_taken
set_option maxRecDepth 20000 in
theorem ggX6_split_X6_scaled : GoodIn wsX6_split wsX6_scaled := goodIn_r _ [16] (by decide +kernel) (by decide +kernel)
set_option maxRecDepth 20000 in
theorem gX6_split_X6_scaled : GoodIn wsX6_split (va_wsS RX6 48 yX6_scaled wsX6_scaled) := goodIn_app (goodIn_of _ (by decide +kernel)) ggX6_split_X6_scaled
theorem dX6_split_0 : decode cX6_split 0 = .ok (.iconst 0, 1) := by decide +kernel
theorem dX6_split_1 : decode cX6_split 1 = .ok (.istore_n 1, 1) := by decide +kernel
theorem dX6_split_2 : decode cX6_split 2 = .ok (.aload_n 0, 1) := by decide +kernel
theorem dX6_split_3 : decode cX6_split 3 = .ok (.getfield 25, 3) := by decide +kernel
theorem dX6_split_6 : decode cX6_split 6 = .ok (.aload_n 0, 1) := by decide +kernel
theorem dX6_split_7 : decode cX6_split 7 = .ok (.getfield 55, 3) := by decide +kernel
theorem dX6_split_10 : decode cX6_split 10 = .ok (.aload_n 0, 1) := by decide +kernel
theorem dX6_split_11 : decode cX6_split 11 = .ok (.getfield 22, 3) := by decide +kernel
theorem dX6_split_14 : decode cX6_split 14 = .ok (.aload_n 0, 1) := by decide +kernel
theorem dX6_split_15 : decode cX6_split 15 = .ok (.getfield 34, 3) := by decide +kernel
theorem dX6_split_18 : decode cX6_split 18 = .ok (.invokestatic 58, 3) := by decide +kernel
theorem dX6_split_21 : decode cX6_split 21 = .ok (.ifCond .gt 24, 3) := by decide +kernel
theorem dX6_split_24 : decode cX6_split 24 = .ok (.aload_n 0, 1) := by decide +kernel
theorem dX6_split_25 : decode cX6_split 25 = .ok (.aload_n 0, 1) := by decide +kernel
theorem dX6_split_26 : decode cX6_split 26 = .ok (.getfield 25, 3) := by decide +kernel
theorem dX6_split_29 : decode cX6_split 29 = .ok (.aload_n 0, 1) := by decide +kernel
theorem dX6_split_30 : decode cX6_split 30 = .ok (.getfield 55, 3) := by decide +kernel
theorem dX6_split_33 : decode cX6_split 33 = .ok (.invokestatic 38, 3) := by decide +kernel
theorem dX6_split_36 : decode cX6_split 36 = .ok (.putfield 55, 3) := by decide +kernel
theorem dX6_split_39 : decode cX6_split 39 = .ok (.iinc 1 1, 3) := by decide +kernel
theorem dX6_split_42 : decode cX6_split 42 = .ok (.goto (-40), 3) := by decide +kernel
theorem dX6_split_45 : decode cX6_split 45 = .ok (.aload_n 0, 1) := by decide +kernel
theorem dX6_split_46 : decode cX6_split 46 = .ok (.iconst 0, 1) := by decide +kernel
theorem dX6_split_47 : decode cX6_split 47 = .ok (.putfield 89, 3) := by decide +kernel
theorem dX6_split_50 : decode cX6_split 50 = .ok (.iconst 0, 1) := by decide +kernel
theorem dX6_split_51 : decode cX6_split 51 = .ok (.istore_n 2, 1) := by decide +kernel
theorem dX6_split_52 : decode cX6_split 52 = .ok (.iload_n 2, 1) := by decide +kernel
theorem dX6_split_53 : decode cX6_split 53 = .ok (.iload_n 1, 1) := by decide +kernel
theorem dX6_split_54 : decode cX6_split 54 = .ok (.if_icmp .ge 101, 3) := by decide +kernel
theorem dX6_split_57 : decode cX6_split 57 = .ok (.aload_n 0, 1) := by decide +kernel
theorem dX6_split_58 : decode cX6_split 58 = .ok (.aload_n 0, 1) := by decide +kernel
theorem dX6_split_59 : decode cX6_split 59 = .ok (.getfield 25, 3) := by decide +kernel
theorem dX6_split_62 : decode cX6_split 62 = .ok (.aload_n 0, 1) := by decide +kernel
theorem dX6_split_63 : decode cX6_split 63 = .ok (.getfield 55, 3) := by decide +kernel
theorem dX6_split_66 : decode cX6_split 66 = .ok (.invokestatic 74, 3) := by decide +kernel
theorem dX6_split_69 : decode cX6_split 69 = .ok (.putfield 55, 3) := by decide +kernel
theorem dX6_split_72 : decode cX6_split 72 = .ok (.aload_n 0, 1) := by decide +kernel
theorem dX6_split_73 : decode cX6_split 73 = .ok (.aload_n 0, 1) := by decide +kernel
theorem dX6_split_74 : decode cX6_split 74 = .ok (.getfield 28, 3) := by decide +kernel
theorem dX6_split_77 : decode cX6_split 77 = .ok (.aload_n 0, 1) := by decide +kernel
theorem dX6_split_78 : decode cX6_split 78 = .ok (.getfield 89, 3) := by decide +kernel
theorem dX6_split_81 : decode cX6_split 81 = .ok (.invokestatic 38, 3) := by decide +kernel
theorem dX6_split_84 : decode cX6_split 84 = .ok (.putfield 89, 3) := by decide +kernel
theorem dX6_split_87 : decode cX6_split 87 = .ok (.aload_n 0, 1) := by decide +kernel
theorem dX6_split_88 : decode cX6_split 88 = .ok (.getfield 25, 3) := by decide +kernel
theorem dX6_split_91 : decode cX6_split 91 = .ok (.aload_n 0, 1) := by decide +kernel
theorem dX6_split_92 : decode cX6_split 92 = .ok (.getfield 55, 3) := by decide +kernel
theorem dX6_split_95 : decode cX6_split 95 = .ok (.aload_n 0, 1) := by decide +kernel
theorem dX6_split_96 : decode cX6_split 96 = .ok (.getfield 22, 3) := by decide +kernel
theorem dX6_split_99 : decode cX6_split 99 = .ok (.aload_n 0, 1) := by decide +kernel
theorem dX6_split_100 : decode cX6_split 100 = .ok (.getfield 34, 3) := by decide +kernel
theorem dX6_split_103 : decode cX6_split 103 = .ok (.invokestatic 58, 3) := by decide +kernel
theorem dX6_split_106 : decode cX6_split 106 = .ok (.ifCond .gt 43, 3) := by decide +kernel
theorem dX6_split_109 : decode cX6_split 109 = .ok (.aload_n 0, 1) := by decide +kernel
theorem dX6_split_110 : decode cX6_split 110 = .ok (.aload_n 0, 1) := by decide +kernel
theorem dX6_split_111 : decode cX6_split 111 = .ok (.getfield 22, 3) := by decide +kernel
theorem dX6_split_114 : decode cX6_split 114 = .ok (.aload_n 0, 1) := by decide +kernel
theorem dX6_split_115 : decode cX6_split 115 = .ok (.getfield 34, 3) := by decide +kernel
theorem dX6_split_118 : decode cX6_split 118 = .ok (.aload_n 0, 1) := by decide +kernel
theorem dX6_split_119 : decode cX6_split 119 = .ok (.getfield 25, 3) := by decide +kernel
theorem dX6_split_122 : decode cX6_split 122 = .ok (.aload_n 0, 1) := by decide +kernel
theorem dX6_split_123 : decode cX6_split 123 = .ok (.getfield 55, 3) := by decide +kernel
theorem dX6_split_126 : decode cX6_split 126 = .ok (.invokestatic 86, 3) := by decide +kernel
theorem dX6_split_129 : decode cX6_split 129 = .ok (.putfield 34, 3) := by decide +kernel
theorem dX6_split_132 : decode cX6_split 132 = .ok (.aload_n 0, 1) := by decide +kernel
theorem dX6_split_133 : decode cX6_split 133 = .ok (.aload_n 0, 1) := by decide +kernel
theorem dX6_split_134 : decode cX6_split 134 = .ok (.getfield 28, 3) := by decide +kernel
theorem dX6_split_137 : decode cX6_split 137 = .ok (.aload_n 0, 1) := by decide +kernel
theorem dX6_split_138 : decode cX6_split 138 = .ok (.getfield 89, 3) := by decide +kernel
theorem dX6_split_141 : decode cX6_split 141 = .ok (.iconst 1, 1) := by decide +kernel
theorem dX6_split_142 : decode cX6_split 142 = .ok (.iconst 1, 1) := by decide +kernel
theorem dX6_split_143 : decode cX6_split 143 = .ok (.invokestatic 48, 3) := by decide +kernel
theorem dX6_split_146 : decode cX6_split 146 = .ok (.putfield 89, 3) := by decide +kernel
theorem dX6_split_149 : decode cX6_split 149 = .ok (.iinc 2 1, 3) := by decide +kernel
theorem dX6_split_152 : decode cX6_split 152 = .ok (.goto (-100), 3) := by decide +kernel
theorem dX6_split_155 : decode cX6_split 155 = .ok (.return_, 1) := by decide +kernel
set_option maxRecDepth 20000 in
theorem ggX6_divide_X6_isRegister : GoodIn wsX6_divide wsX6_isRegister := goodIn_r _ [12] (by decide +kernel) (by decide +kernel)
set_option maxRecDepth 20000 in
theorem gX6_divide_X6_isRegister : GoodIn wsX6_divide (va_wsS RX6 77 yX6_isRegister wsX6_isRegister) := goodIn_app (goodIn_of _ (by decide +kernel)) ggX6_divide_X6_isRegister
set_option maxRecDepth 20000 in
theorem ggX6_divide_X6_toX : GoodIn wsX6_divide wsX6_toX := goodIn_r _ [16, 17, 3, 7, 18, 59, 60, 61, 62, 63, 64, 65, 66, 67, 68, 69, 70, 71, 72] (by decide +kernel) (by decide +kernel)
