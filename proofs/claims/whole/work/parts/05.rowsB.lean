theorem dX5_copyRow_5 : decode cX5_copyRow 5 = .ok (.invokestatic 233, 3) := by decide +kernel
theorem dX5_copyRow_8 : decode cX5_copyRow 8 = .ok (.return_, 1) := by decide +kernel
theorem dX6_init_0 : decode cX6_init 0 = .ok (.aload_n 0, 1) := by decide +kernel
theorem dX6_init_1 : decode cX6_init 1 = .ok (.invokespecial 1, 3) := by decide +kernel
theorem dX6_init_4 : decode cX6_init 4 = .ok (.aload_n 0, 1) := by decide +kernel
theorem dX6_init_5 : decode cX6_init 5 = .ok (.iconst 4, 1) := by decide +kernel
theorem dX6_init_6 : decode cX6_init 6 = .ok (.newarray .int, 2) := by decide +kernel
theorem dX6_init_8 : decode cX6_init 8 = .ok (.putfield 7, 3) := by decide +kernel
theorem dX6_init_11 : decode cX6_init 11 = .ok (.aload_n 0, 1) := by decide +kernel
theorem dX6_init_12 : decode cX6_init 12 = .ok (.iconst 4, 1) := by decide +kernel
theorem dX6_init_13 : decode cX6_init 13 = .ok (.newarray .int, 2) := by decide +kernel
theorem dX6_init_15 : decode cX6_init 15 = .ok (.putfield 13, 3) := by decide +kernel
theorem dX6_init_18 : decode cX6_init 18 = .ok (.aload_n 0, 1) := by decide +kernel
theorem dX6_init_19 : decode cX6_init 19 = .ok (.iconst 4, 1) := by decide +kernel
theorem dX6_init_20 : decode cX6_init 20 = .ok (.newarray .int, 2) := by decide +kernel
theorem dX6_init_22 : decode cX6_init 22 = .ok (.putfield 16, 3) := by decide +kernel
theorem dX6_init_25 : decode cX6_init 25 = .ok (.aload_n 0, 1) := by decide +kernel
theorem dX6_init_26 : decode cX6_init 26 = .ok (.iconst 4, 1) := by decide +kernel
theorem dX6_init_27 : decode cX6_init 27 = .ok (.newarray .int, 2) := by decide +kernel
theorem dX6_init_29 : decode cX6_init 29 = .ok (.putfield 19, 3) := by decide +kernel
theorem dX6_init_32 : decode cX6_init 32 = .ok (.aload_n 0, 1) := by decide +kernel
theorem dX6_init_33 : decode cX6_init 33 = .ok (.iconst 4, 1) := by decide +kernel
theorem dX6_init_34 : decode cX6_init 34 = .ok (.newarray .int, 2) := by decide +kernel
theorem dX6_init_36 : decode cX6_init 36 = .ok (.putfield 22, 3) := by decide +kernel
theorem dX6_init_39 : decode cX6_init 39 = .ok (.aload_n 0, 1) := by decide +kernel
theorem dX6_init_40 : decode cX6_init 40 = .ok (.iconst 4, 1) := by decide +kernel
theorem dX6_init_41 : decode cX6_init 41 = .ok (.newarray .int, 2) := by decide +kernel
theorem dX6_init_43 : decode cX6_init 43 = .ok (.putfield 25, 3) := by decide +kernel
theorem dX6_init_46 : decode cX6_init 46 = .ok (.aload_n 0, 1) := by decide +kernel
theorem dX6_init_47 : decode cX6_init 47 = .ok (.iconst 4, 1) := by decide +kernel
theorem dX6_init_48 : decode cX6_init 48 = .ok (.newarray .int, 2) := by decide +kernel
theorem dX6_init_50 : decode cX6_init 50 = .ok (.putfield 28, 3) := by decide +kernel
theorem dX6_init_53 : decode cX6_init 53 = .ok (.aload_n 0, 1) := by decide +kernel
theorem dX6_init_54 : decode cX6_init 54 = .ok (.iconst 4, 1) := by decide +kernel
theorem dX6_init_55 : decode cX6_init 55 = .ok (.newarray .int, 2) := by decide +kernel
theorem dX6_init_57 : decode cX6_init 57 = .ok (.putfield 31, 3) := by decide +kernel
theorem dX6_init_60 : decode cX6_init 60 = .ok (.aload_n 0, 1) := by decide +kernel
theorem dX6_init_61 : decode cX6_init 61 = .ok (.bipush 18, 2) := by decide +kernel
theorem dX6_init_63 : decode cX6_init 63 = .ok (.newarray .byte, 2) := by decide +kernel
theorem dX6_init_65 : decode cX6_init 65 = .ok (.putfield 34, 3) := by decide +kernel
theorem dX6_init_68 : decode cX6_init 68 = .ok (.aload_n 0, 1) := by decide +kernel
theorem dX6_init_69 : decode cX6_init 69 = .ok (.iconst 4, 1) := by decide +kernel
theorem dX6_init_70 : decode cX6_init 70 = .ok (.newarray .int, 2) := by decide +kernel
theorem dX6_init_72 : decode cX6_init 72 = .ok (.putfield 38, 3) := by decide +kernel
theorem dX6_init_75 : decode cX6_init 75 = .ok (.aload_n 0, 1) := by decide +kernel
theorem dX6_init_76 : decode cX6_init 76 = .ok (.bipush 24, 2) := by decide +kernel
theorem dX6_init_78 : decode cX6_init 78 = .ok (.newarray .int, 2) := by decide +kernel
theorem dX6_init_80 : decode cX6_init 80 = .ok (.putfield 41, 3) := by decide +kernel
theorem dX6_init_83 : decode cX6_init 83 = .ok (.return_, 1) := by decide +kernel
theorem dX6_within_0 : decode cX6_within 0 = .ok (.iload_n 0, 1) := by decide +kernel
theorem dX6_within_1 : decode cX6_within 1 = .ok (.iload_n 1, 1) := by decide +kernel
theorem dX6_within_2 : decode cX6_within 2 = .ok (.if_icmp .lt 12, 3) := by decide +kernel
theorem dX6_within_5 : decode cX6_within 5 = .ok (.iload_n 0, 1) := by decide +kernel
theorem dX6_within_6 : decode cX6_within 6 = .ok (.iload_n 2, 1) := by decide +kernel
theorem dX6_within_7 : decode cX6_within 7 = .ok (.if_icmp .gt 7, 3) := by decide +kernel
theorem dX6_within_10 : decode cX6_within 10 = .ok (.iconst 1, 1) := by decide +kernel
theorem dX6_within_11 : decode cX6_within 11 = .ok (.goto 4, 3) := by decide +kernel
theorem dX6_within_14 : decode cX6_within 14 = .ok (.iconst 0, 1) := by decide +kernel
theorem dX6_within_15 : decode cX6_within 15 = .ok (.ireturn, 1) := by decide +kernel
theorem dX6_isIn_0 : decode cX6_isIn 0 = .ok (.iload_n 0, 1) := by decide +kernel
theorem dX6_isIn_1 : decode cX6_isIn 1 = .ok (.iload_n 1, 1) := by decide +kernel
theorem dX6_isIn_2 : decode cX6_isIn 2 = .ok (.ishr, 1) := by decide +kernel
theorem dX6_isIn_3 : decode cX6_isIn 3 = .ok (.iconst 1, 1) := by decide +kernel
theorem dX6_isIn_4 : decode cX6_isIn 4 = .ok (.iand, 1) := by decide +kernel
theorem dX6_isIn_5 : decode cX6_isIn 5 = .ok (.iconst 1, 1) := by decide +kernel
theorem dX6_isIn_6 : decode cX6_isIn 6 = .ok (.if_icmp .ne 7, 3) := by decide +kernel
theorem dX6_isIn_9 : decode cX6_isIn 9 = .ok (.iconst 1, 1) := by decide +kernel
theorem dX6_isIn_10 : decode cX6_isIn 10 = .ok (.goto 4, 3) := by decide +kernel
theorem dX6_isIn_13 : decode cX6_isIn 13 = .ok (.iconst 0, 1) := by decide +kernel
theorem dX6_isIn_14 : decode cX6_isIn 14 = .ok (.ireturn, 1) := by decide +kernel
set_option maxRecDepth 20000 in
theorem ggX6_letter_X6_within : GoodIn wsX6_letter wsX6_within := goodIn_r _ [6] (by decide +kernel) (by decide +kernel)
set_option maxRecDepth 20000 in
theorem gX6_letter_X6_within : GoodIn wsX6_letter (va_wsS RX6 44 yX6_within wsX6_within) := goodIn_app (goodIn_of _ (by decide +kernel)) ggX6_letter_X6_within
theorem dX6_letter_0 : decode cX6_letter 0 = .ok (.iload_n 1, 1) := by decide +kernel
theorem dX6_letter_1 : decode cX6_letter 1 = .ok (.bipush 32, 2) := by decide +kernel
theorem dX6_letter_3 : decode cX6_letter 3 = .ok (.bipush 126, 2) := by decide +kernel
theorem dX6_letter_5 : decode cX6_letter 5 = .ok (.invokestatic 44, 3) := by decide +kernel
theorem dX6_letter_8 : decode cX6_letter 8 = .ok (.ifCond .ne 6, 3) := by decide +kernel
theorem dX6_letter_11 : decode cX6_letter 11 = .ok (.bipush (-102), 2) := by decide +kernel
theorem dX6_letter_13 : decode cX6_letter 13 = .ok (.ireturn, 1) := by decide +kernel
theorem dX6_letter_14 : decode cX6_letter 14 = .ok (.aload_n 0, 1) := by decide +kernel
theorem dX6_letter_15 : decode cX6_letter 15 = .ok (.getfield 48, 3) := by decide +kernel
theorem dX6_letter_18 : decode cX6_letter 18 = .ok (.bipush 18, 2) := by decide +kernel
theorem dX6_letter_20 : decode cX6_letter 20 = .ok (.if_icmp .ne 6, 3) := by decide +kernel
theorem dX6_letter_23 : decode cX6_letter 23 = .ok (.bipush (-104), 2) := by decide +kernel
theorem dX6_letter_25 : decode cX6_letter 25 = .ok (.ireturn, 1) := by decide +kernel
theorem dX6_letter_26 : decode cX6_letter 26 = .ok (.aload_n 0, 1) := by decide +kernel
theorem dX6_letter_27 : decode cX6_letter 27 = .ok (.getfield 34, 3) := by decide +kernel
theorem dX6_letter_30 : decode cX6_letter 30 = .ok (.aload_n 0, 1) := by decide +kernel
theorem dX6_letter_31 : decode cX6_letter 31 = .ok (.getfield 48, 3) := by decide +kernel
theorem dX6_letter_34 : decode cX6_letter 34 = .ok (.iload_n 1, 1) := by decide +kernel
theorem dX6_letter_35 : decode cX6_letter 35 = .ok (.i2b, 1) := by decide +kernel
theorem dX6_letter_36 : decode cX6_letter 36 = .ok (.bastore, 1) := by decide +kernel
theorem dX6_letter_37 : decode cX6_letter 37 = .ok (.aload_n 0, 1) := by decide +kernel
theorem dX6_letter_38 : decode cX6_letter 38 = .ok (.dup, 1) := by decide +kernel
theorem dX6_letter_39 : decode cX6_letter 39 = .ok (.getfield 48, 3) := by decide +kernel
theorem dX6_letter_42 : decode cX6_letter 42 = .ok (.iconst 1, 1) := by decide +kernel
theorem dX6_letter_43 : decode cX6_letter 43 = .ok (.iadd, 1) := by decide +kernel
theorem dX6_letter_44 : decode cX6_letter 44 = .ok (.putfield 48, 3) := by decide +kernel
theorem dX6_letter_47 : decode cX6_letter 47 = .ok (.aload_n 0, 1) := by decide +kernel
theorem dX6_letter_48 : decode cX6_letter 48 = .ok (.getfield 48, 3) := by decide +kernel
theorem dX6_letter_51 : decode cX6_letter 51 = .ok (.ireturn, 1) := by decide +kernel
theorem dX6_blank_0 : decode cX6_blank 0 = .ok (.aload_n 0, 1) := by decide +kernel
theorem dX6_blank_1 : decode cX6_blank 1 = .ok (.getfield 48, 3) := by decide +kernel
theorem dX6_blank_4 : decode cX6_blank 4 = .ok (.istore_n 1, 1) := by decide +kernel
theorem dX6_blank_5 : decode cX6_blank 5 = .ok (.aload_n 0, 1) := by decide +kernel
theorem dX6_blank_6 : decode cX6_blank 6 = .ok (.iconst 0, 1) := by decide +kernel
theorem dX6_blank_7 : decode cX6_blank 7 = .ok (.putfield 48, 3) := by decide +kernel
theorem dX6_blank_10 : decode cX6_blank 10 = .ok (.iload_n 1, 1) := by decide +kernel
theorem dX6_blank_11 : decode cX6_blank 11 = .ok (.ireturn, 1) := by decide +kernel
theorem dX6_kindBy_0 : decode cX6_kindBy 0 = .ok (.iload_n 0, 1) := by decide +kernel
theorem dX6_kindBy_1 : decode cX6_kindBy 1 = .ok (.lookupswitch 61 #[(104, 51), (109, 59), (111, 55), (114, 53), (119, 57)], 51) := by decide +kernel
theorem dX6_kindBy_52 : decode cX6_kindBy 52 = .ok (.iconst 0, 1) := by decide +kernel
theorem dX6_kindBy_53 : decode cX6_kindBy 53 = .ok (.ireturn, 1) := by decide +kernel
theorem dX6_kindBy_54 : decode cX6_kindBy 54 = .ok (.iconst 1, 1) := by decide +kernel
theorem dX6_kindBy_55 : decode cX6_kindBy 55 = .ok (.ireturn, 1) := by decide +kernel
theorem dX6_kindBy_56 : decode cX6_kindBy 56 = .ok (.iconst 2, 1) := by decide +kernel
theorem dX6_kindBy_57 : decode cX6_kindBy 57 = .ok (.ireturn, 1) := by decide +kernel
theorem dX6_kindBy_58 : decode cX6_kindBy 58 = .ok (.iconst 3, 1) := by decide +kernel
theorem dX6_kindBy_59 : decode cX6_kindBy 59 = .ok (.ireturn, 1) := by decide +kernel
theorem dX6_kindBy_60 : decode cX6_kindBy 60 = .ok (.iconst 4, 1) := by decide +kernel
theorem dX6_kindBy_61 : decode cX6_kindBy 61 = .ok (.ireturn, 1) := by decide +kernel
theorem dX6_kindBy_62 : decode cX6_kindBy 62 = .ok (.iconst (-1), 1) := by decide +kernel
theorem dX6_kindBy_63 : decode cX6_kindBy 63 = .ok (.ireturn, 1) := by decide +kernel
set_option maxRecDepth 20000 in
theorem ggX6_isFigure_X6_within : GoodIn wsX6_isFigure wsX6_within := goodIn_r _ [6] (by decide +kernel) (by decide +kernel)
set_option maxRecDepth 20000 in
theorem gX6_isFigure_X6_within : GoodIn wsX6_isFigure (va_wsS RX6 44 yX6_within wsX6_within) := goodIn_app (goodIn_of _ (by decide +kernel)) ggX6_isFigure_X6_within
theorem dX6_isFigure_0 : decode cX6_isFigure 0 = .ok (.iload_n 1, 1) := by decide +kernel
theorem dX6_isFigure_1 : decode cX6_isFigure 1 = .ok (.aload_n 0, 1) := by decide +kernel
theorem dX6_isFigure_2 : decode cX6_isFigure 2 = .ok (.getfield 48, 3) := by decide +kernel
theorem dX6_isFigure_5 : decode cX6_isFigure 5 = .ok (.if_icmp .ge 24, 3) := by decide +kernel
theorem dX6_isFigure_8 : decode cX6_isFigure 8 = .ok (.aload_n 0, 1) := by decide +kernel
theorem dX6_isFigure_9 : decode cX6_isFigure 9 = .ok (.getfield 34, 3) := by decide +kernel
theorem dX6_isFigure_12 : decode cX6_isFigure 12 = .ok (.iload_n 1, 1) := by decide +kernel
theorem dX6_isFigure_13 : decode cX6_isFigure 13 = .ok (.baload, 1) := by decide +kernel
theorem dX6_isFigure_14 : decode cX6_isFigure 14 = .ok (.bipush 48, 2) := by decide +kernel
theorem dX6_isFigure_16 : decode cX6_isFigure 16 = .ok (.isub, 1) := by decide +kernel
theorem dX6_isFigure_17 : decode cX6_isFigure 17 = .ok (.iload_n 2, 1) := by decide +kernel
theorem dX6_isFigure_18 : decode cX6_isFigure 18 = .ok (.iload_n 3, 1) := by decide +kernel
theorem dX6_isFigure_19 : decode cX6_isFigure 19 = .ok (.invokestatic 44, 3) := by decide +kernel
theorem dX6_isFigure_22 : decode cX6_isFigure 22 = .ok (.ifCond .eq 7, 3) := by decide +kernel
theorem dX6_isFigure_25 : decode cX6_isFigure 25 = .ok (.iconst 1, 1) := by decide +kernel
theorem dX6_isFigure_26 : decode cX6_isFigure 26 = .ok (.goto 4, 3) := by decide +kernel
theorem dX6_isFigure_29 : decode cX6_isFigure 29 = .ok (.iconst 0, 1) := by decide +kernel
theorem dX6_isFigure_30 : decode cX6_isFigure 30 = .ok (.ireturn, 1) := by decide +kernel
set_option maxRecDepth 20000 in
theorem ggX6_readOne_X6_kindBy : GoodIn wsX6_readOne wsX6_kindBy := goodIn_r _ [6] (by decide +kernel) (by decide +kernel)
set_option maxRecDepth 20000 in
theorem gX6_readOne_X6_kindBy : GoodIn wsX6_readOne (va_wsS RX6 52 yX6_kindBy wsX6_kindBy) := goodIn_app (goodIn_of _ (by decide +kernel)) ggX6_readOne_X6_kindBy
set_option maxRecDepth 20000 in
theorem ggX6_readOne_X6_isFigure : GoodIn wsX6_readOne wsX6_isFigure := goodIn_r _ [10, 1, 2, 11, 12, 5, 13, 14, 15, 16, 17, 18, 19, 20, 21, 22, 23, 24, 25, 26, 27, 28, 29, 30, 31, 32, 33, 34, 35, 36, 37, 38, 39, 40, 41, 42, 43] (by decide +kernel) (by decide +kernel)
set_option maxRecDepth 20000 in
theorem gX6_readOne_X6_isFigure : GoodIn wsX6_readOne (wsV RX6 56 RX6 yX6_isFigure wsX6_isFigure) := goodIn_app (goodIn_of _ (by decide +kernel)) ggX6_readOne_X6_isFigure
theorem dX6_readOne_0 : decode cX6_readOne 0 = .ok (.iload_n 1, 1) := by decide +kernel
theorem dX6_readOne_1 : decode cX6_readOne 1 = .ok (.aload_n 0, 1) := by decide +kernel
theorem dX6_readOne_2 : decode cX6_readOne 2 = .ok (.getfield 48, 3) := by decide +kernel
theorem dX6_readOne_5 : decode cX6_readOne 5 = .ok (.if_icmp .eq 16, 3) := by decide +kernel
theorem dX6_readOne_8 : decode cX6_readOne 8 = .ok (.aload_n 0, 1) := by decide +kernel
theorem dX6_readOne_9 : decode cX6_readOne 9 = .ok (.getfield 34, 3) := by decide +kernel
theorem dX6_readOne_12 : decode cX6_readOne 12 = .ok (.iload_n 1, 1) := by decide +kernel
theorem dX6_readOne_13 : decode cX6_readOne 13 = .ok (.baload, 1) := by decide +kernel
theorem dX6_readOne_14 : decode cX6_readOne 14 = .ok (.invokestatic 52, 3) := by decide +kernel
theorem dX6_readOne_17 : decode cX6_readOne 17 = .ok (.iconst (-1), 1) := by decide +kernel
theorem dX6_readOne_18 : decode cX6_readOne 18 = .ok (.if_icmp .ne 5, 3) := by decide +kernel
theorem dX6_readOne_21 : decode cX6_readOne 21 = .ok (.iload_n 1, 1) := by decide +kernel
theorem dX6_readOne_22 : decode cX6_readOne 22 = .ok (.ireturn, 1) := by decide +kernel
theorem dX6_readOne_23 : decode cX6_readOne 23 = .ok (.aload_n 0, 1) := by decide +kernel
theorem dX6_readOne_24 : decode cX6_readOne 24 = .ok (.iload_n 1, 1) := by decide +kernel
theorem dX6_readOne_25 : decode cX6_readOne 25 = .ok (.iconst 1, 1) := by decide +kernel
theorem dX6_readOne_26 : decode cX6_readOne 26 = .ok (.iadd, 1) := by decide +kernel
theorem dX6_readOne_27 : decode cX6_readOne 27 = .ok (.iconst 0, 1) := by decide +kernel
theorem dX6_readOne_28 : decode cX6_readOne 28 = .ok (.bipush 9, 2) := by decide +kernel
theorem dX6_readOne_30 : decode cX6_readOne 30 = .ok (.invokevirtual 56, 3) := by decide +kernel
theorem dX6_readOne_33 : decode cX6_readOne 33 = .ok (.ifCond .ne 9, 3) := by decide +kernel
theorem dX6_readOne_36 : decode cX6_readOne 36 = .ok (.iload_n 1, 1) := by decide +kernel
theorem dX6_readOne_37 : decode cX6_readOne 37 = .ok (.iconst 1, 1) := by decide +kernel
theorem dX6_readOne_38 : decode cX6_readOne 38 = .ok (.iadd, 1) := by decide +kernel
theorem dX6_readOne_39 : decode cX6_readOne 39 = .ok (.goto 25, 3) := by decide +kernel
theorem dX6_readOne_42 : decode cX6_readOne 42 = .ok (.aload_n 0, 1) := by decide +kernel
theorem dX6_readOne_43 : decode cX6_readOne 43 = .ok (.iload_n 1, 1) := by decide +kernel
theorem dX6_readOne_44 : decode cX6_readOne 44 = .ok (.iconst 2, 1) := by decide +kernel
theorem dX6_readOne_45 : decode cX6_readOne 45 = .ok (.iadd, 1) := by decide +kernel
theorem dX6_readOne_46 : decode cX6_readOne 46 = .ok (.iconst 1, 1) := by decide +kernel
theorem dX6_readOne_47 : decode cX6_readOne 47 = .ok (.bipush 9, 2) := by decide +kernel
theorem dX6_readOne_49 : decode cX6_readOne 49 = .ok (.invokevirtual 56, 3) := by decide +kernel
theorem dX6_readOne_52 : decode cX6_readOne 52 = .ok (.ifCond .ne 9, 3) := by decide +kernel
theorem dX6_readOne_55 : decode cX6_readOne 55 = .ok (.iload_n 1, 1) := by decide +kernel
theorem dX6_readOne_56 : decode cX6_readOne 56 = .ok (.iconst 2, 1) := by decide +kernel
theorem dX6_readOne_57 : decode cX6_readOne 57 = .ok (.iadd, 1) := by decide +kernel
theorem dX6_readOne_58 : decode cX6_readOne 58 = .ok (.goto 6, 3) := by decide +kernel
theorem dX6_readOne_61 : decode cX6_readOne 61 = .ok (.iload_n 1, 1) := by decide +kernel
theorem dX6_readOne_62 : decode cX6_readOne 62 = .ok (.iconst 3, 1) := by decide +kernel
theorem dX6_readOne_63 : decode cX6_readOne 63 = .ok (.iadd, 1) := by decide +kernel
theorem dX6_readOne_64 : decode cX6_readOne 64 = .ok (.ireturn, 1) := by decide +kernel
set_option maxRecDepth 20000 in
theorem ggX6_read_X6_readOne : GoodIn wsX6_read wsX6_readOne := goodIn_r _ [9, 3, 4, 10, 11, 8, 12, 13, 14, 15, 16, 17, 18, 19, 20, 21, 22, 23, 24, 25, 26, 27, 28, 29, 30, 31, 32, 33, 34, 35, 36, 37, 38, 39, 40, 41, 42, 43, 44, 45, 46, 47, 48, 49] (by decide +kernel) (by decide +kernel)
set_option maxRecDepth 20000 in
theorem gX6_read_X6_readOne : GoodIn wsX6_read (wsV RX6 66 RX6 yX6_readOne wsX6_readOne) := goodIn_app (goodIn_of _ (by decide +kernel)) ggX6_read_X6_readOne
set_option maxRecDepth 20000 in
theorem ggX6_read_X6_isFigure : GoodIn wsX6_read wsX6_isFigure := goodIn_r _ [16, 3, 4, 17, 18, 8, 19, 20, 21, 22, 23, 24, 25, 26, 27, 28, 29, 30, 31, 32, 33, 34, 35, 36, 37, 38, 39, 40, 41, 42, 43, 44, 45, 46, 47, 48, 49] (by decide +kernel) (by decide +kernel)
set_option maxRecDepth 20000 in
theorem gX6_read_X6_isFigure : GoodIn wsX6_read (wsV RX6 56 RX6 yX6_isFigure wsX6_isFigure) := goodIn_app (goodIn_of _ (by decide +kernel)) ggX6_read_X6_isFigure
theorem dX6_read_0 : decode cX6_read 0 = .ok (.aload_n 0, 1) := by decide +kernel
theorem dX6_read_1 : decode cX6_read 1 = .ok (.iconst 0, 1) := by decide +kernel
theorem dX6_read_2 : decode cX6_read 2 = .ok (.putfield 59, 3) := by decide +kernel
theorem dX6_read_5 : decode cX6_read 5 = .ok (.aload_n 0, 1) := by decide +kernel
theorem dX6_read_6 : decode cX6_read 6 = .ok (.iconst 0, 1) := by decide +kernel
theorem dX6_read_7 : decode cX6_read 7 = .ok (.putfield 63, 3) := by decide +kernel
theorem dX6_read_10 : decode cX6_read 10 = .ok (.iconst 0, 1) := by decide +kernel
theorem dX6_read_11 : decode cX6_read 11 = .ok (.istore_n 1, 1) := by decide +kernel
theorem dX6_read_12 : decode cX6_read 12 = .ok (.aload_n 0, 1) := by decide +kernel
theorem dX6_read_13 : decode cX6_read 13 = .ok (.getfield 63, 3) := by decide +kernel
theorem dX6_read_16 : decode cX6_read 16 = .ok (.iconst 4, 1) := by decide +kernel
theorem dX6_read_17 : decode cX6_read 17 = .ok (.if_icmp .ge 145, 3) := by decide +kernel
theorem dX6_read_20 : decode cX6_read 20 = .ok (.aload_n 0, 1) := by decide +kernel
theorem dX6_read_21 : decode cX6_read 21 = .ok (.iload_n 1, 1) := by decide +kernel
theorem dX6_read_22 : decode cX6_read 22 = .ok (.invokevirtual 66, 3) := by decide +kernel
theorem dX6_read_25 : decode cX6_read 25 = .ok (.istore_n 2, 1) := by decide +kernel
theorem dX6_read_26 : decode cX6_read 26 = .ok (.iload_n 2, 1) := by decide +kernel
theorem dX6_read_27 : decode cX6_read 27 = .ok (.iload_n 1, 1) := by decide +kernel
theorem dX6_read_28 : decode cX6_read 28 = .ok (.iconst 3, 1) := by decide +kernel
theorem dX6_read_29 : decode cX6_read 29 = .ok (.iadd, 1) := by decide +kernel
theorem dX6_read_30 : decode cX6_read 30 = .ok (.if_icmp .eq 5, 3) := by decide +kernel
theorem dX6_read_33 : decode cX6_read 33 = .ok (.iload_n 2, 1) := by decide +kernel
theorem dX6_read_34 : decode cX6_read 34 = .ok (.ireturn, 1) := by decide +kernel
theorem dX6_read_35 : decode cX6_read 35 = .ok (.aload_n 0, 1) := by decide +kernel
theorem dX6_read_36 : decode cX6_read 36 = .ok (.dup, 1) := by decide +kernel
theorem dX6_read_37 : decode cX6_read 37 = .ok (.getfield 63, 3) := by decide +kernel
theorem dX6_read_40 : decode cX6_read 40 = .ok (.iconst 1, 1) := by decide +kernel
theorem dX6_read_41 : decode cX6_read 41 = .ok (.iadd, 1) := by decide +kernel
theorem dX6_read_42 : decode cX6_read 42 = .ok (.putfield 63, 3) := by decide +kernel
theorem dX6_read_45 : decode cX6_read 45 = .ok (.iload_n 2, 1) := by decide +kernel
theorem dX6_read_46 : decode cX6_read 46 = .ok (.istore_n 1, 1) := by decide +kernel
theorem dX6_read_47 : decode cX6_read 47 = .ok (.iload_n 1, 1) := by decide +kernel
theorem dX6_read_48 : decode cX6_read 48 = .ok (.aload_n 0, 1) := by decide +kernel
theorem dX6_read_49 : decode cX6_read 49 = .ok (.getfield 48, 3) := by decide +kernel
theorem dX6_read_52 : decode cX6_read 52 = .ok (.if_icmp .ge 75, 3) := by decide +kernel
theorem dX6_read_55 : decode cX6_read 55 = .ok (.aload_n 0, 1) := by decide +kernel
theorem dX6_read_56 : decode cX6_read 56 = .ok (.getfield 34, 3) := by decide +kernel
theorem dX6_read_59 : decode cX6_read 59 = .ok (.iload_n 1, 1) := by decide +kernel
theorem dX6_read_60 : decode cX6_read 60 = .ok (.baload, 1) := by decide +kernel
theorem dX6_read_61 : decode cX6_read 61 = .ok (.bipush 59, 2) := by decide +kernel
theorem dX6_read_63 : decode cX6_read 63 = .ok (.if_icmp .ne 64, 3) := by decide +kernel
theorem dX6_read_66 : decode cX6_read 66 = .ok (.aload_n 0, 1) := by decide +kernel
theorem dX6_read_67 : decode cX6_read 67 = .ok (.getfield 63, 3) := by decide +kernel
theorem dX6_read_70 : decode cX6_read 70 = .ok (.iconst 1, 1) := by decide +kernel
theorem dX6_read_71 : decode cX6_read 71 = .ok (.if_icmp .le 56, 3) := by decide +kernel
theorem dX6_read_74 : decode cX6_read 74 = .ok (.aload_n 0, 1) := by decide +kernel
theorem dX6_read_75 : decode cX6_read 75 = .ok (.aload_n 0, 1) := by decide +kernel
theorem dX6_read_76 : decode cX6_read 76 = .ok (.iload_n 1, 1) := by decide +kernel
theorem dX6_read_77 : decode cX6_read 77 = .ok (.iconst 1, 1) := by decide +kernel
theorem dX6_read_78 : decode cX6_read 78 = .ok (.iadd, 1) := by decide +kernel
theorem dX6_read_79 : decode cX6_read 79 = .ok (.iconst 0, 1) := by decide +kernel
theorem dX6_read_80 : decode cX6_read 80 = .ok (.iconst 3, 1) := by decide +kernel
theorem dX6_read_81 : decode cX6_read 81 = .ok (.invokevirtual 56, 3) := by decide +kernel
theorem dX6_read_84 : decode cX6_read 84 = .ok (.ifCond .eq 17, 3) := by decide +kernel
theorem dX6_read_87 : decode cX6_read 87 = .ok (.iload_n 1, 1) := by decide +kernel
theorem dX6_read_88 : decode cX6_read 88 = .ok (.iconst 2, 1) := by decide +kernel
theorem dX6_read_89 : decode cX6_read 89 = .ok (.iadd, 1) := by decide +kernel
theorem dX6_read_90 : decode cX6_read 90 = .ok (.aload_n 0, 1) := by decide +kernel
theorem dX6_read_91 : decode cX6_read 91 = .ok (.getfield 48, 3) := by decide +kernel
theorem dX6_read_94 : decode cX6_read 94 = .ok (.if_icmp .ne 7, 3) := by decide +kernel
theorem dX6_read_97 : decode cX6_read 97 = .ok (.iconst 1, 1) := by decide +kernel
theorem dX6_read_98 : decode cX6_read 98 = .ok (.goto 4, 3) := by decide +kernel
theorem dX6_read_101 : decode cX6_read 101 = .ok (.iconst 0, 1) := by decide +kernel
theorem dX6_read_102 : decode cX6_read 102 = .ok (.putfield 59, 3) := by decide +kernel
theorem dX6_read_105 : decode cX6_read 105 = .ok (.aload_n 0, 1) := by decide +kernel
theorem dX6_read_106 : decode cX6_read 106 = .ok (.iload_n 1, 1) := by decide +kernel
theorem dX6_read_107 : decode cX6_read 107 = .ok (.iconst 1, 1) := by decide +kernel
theorem dX6_read_108 : decode cX6_read 108 = .ok (.iadd, 1) := by decide +kernel
theorem dX6_read_109 : decode cX6_read 109 = .ok (.iconst 0, 1) := by decide +kernel
theorem dX6_read_110 : decode cX6_read 110 = .ok (.iconst 3, 1) := by decide +kernel
theorem dX6_read_111 : decode cX6_read 111 = .ok (.invokevirtual 56, 3) := by decide +kernel
theorem dX6_read_114 : decode cX6_read 114 = .ok (.ifCond .eq 9, 3) := by decide +kernel
theorem dX6_read_117 : decode cX6_read 117 = .ok (.iload_n 1, 1) := by decide +kernel
theorem dX6_read_118 : decode cX6_read 118 = .ok (.iconst 2, 1) := by decide +kernel
theorem dX6_read_119 : decode cX6_read 119 = .ok (.iadd, 1) := by decide +kernel
theorem dX6_read_120 : decode cX6_read 120 = .ok (.goto 6, 3) := by decide +kernel
theorem dX6_read_123 : decode cX6_read 123 = .ok (.iload_n 1, 1) := by decide +kernel
theorem dX6_read_124 : decode cX6_read 124 = .ok (.iconst 1, 1) := by decide +kernel
theorem dX6_read_125 : decode cX6_read 125 = .ok (.iadd, 1) := by decide +kernel
theorem dX6_read_126 : decode cX6_read 126 = .ok (.ireturn, 1) := by decide +kernel
theorem dX6_read_127 : decode cX6_read 127 = .ok (.iload_n 1, 1) := by decide +kernel
theorem dX6_read_128 : decode cX6_read 128 = .ok (.aload_n 0, 1) := by decide +kernel
theorem dX6_read_129 : decode cX6_read 129 = .ok (.getfield 48, 3) := by decide +kernel
theorem dX6_read_132 : decode cX6_read 132 = .ok (.if_icmp .eq 22, 3) := by decide +kernel
theorem dX6_read_135 : decode cX6_read 135 = .ok (.aload_n 0, 1) := by decide +kernel
theorem dX6_read_136 : decode cX6_read 136 = .ok (.getfield 63, 3) := by decide +kernel
theorem dX6_read_139 : decode cX6_read 139 = .ok (.iconst 4, 1) := by decide +kernel
theorem dX6_read_140 : decode cX6_read 140 = .ok (.if_icmp .eq 14, 3) := by decide +kernel
theorem dX6_read_143 : decode cX6_read 143 = .ok (.aload_n 0, 1) := by decide +kernel
theorem dX6_read_144 : decode cX6_read 144 = .ok (.getfield 34, 3) := by decide +kernel
theorem dX6_read_147 : decode cX6_read 147 = .ok (.iload_n 1, 1) := by decide +kernel
theorem dX6_read_148 : decode cX6_read 148 = .ok (.baload, 1) := by decide +kernel
theorem dX6_read_149 : decode cX6_read 149 = .ok (.bipush 44, 2) := by decide +kernel
theorem dX6_read_151 : decode cX6_read 151 = .ok (.if_icmp .eq 5, 3) := by decide +kernel
theorem dX6_read_154 : decode cX6_read 154 = .ok (.iload_n 1, 1) := by decide +kernel
theorem dX6_read_155 : decode cX6_read 155 = .ok (.ireturn, 1) := by decide +kernel
theorem dX6_read_156 : decode cX6_read 156 = .ok (.iinc 1 1, 3) := by decide +kernel
theorem dX6_read_159 : decode cX6_read 159 = .ok (.goto (-147), 3) := by decide +kernel
theorem dX6_read_162 : decode cX6_read 162 = .ok (.iload_n 1, 1) := by decide +kernel
theorem dX6_read_163 : decode cX6_read 163 = .ok (.ireturn, 1) := by decide +kernel
set_option maxRecDepth 20000 in
theorem ggX6_fault_X6_read : GoodIn wsX6_fault wsX6_read := goodIn_r _ [5, 6, 7, 8, 9, 10, 11, 12, 4, 13, 14, 15, 16, 17, 18, 19, 20, 21, 22, 23, 24, 25, 26, 27, 28, 29, 30, 31, 32, 33, 34, 35, 36, 37, 38, 39, 40, 41, 42, 43, 44, 45, 46, 47, 48, 49, 50, 51, 52, 53] (by decide +kernel) (by decide +kernel)
set_option maxRecDepth 20000 in
theorem gX6_fault_X6_read : GoodIn wsX6_fault (wsV RX6 69 RX6 yX6_read wsX6_read) := goodIn_app (goodIn_of _ (by decide +kernel)) ggX6_fault_X6_read
theorem dX6_fault_0 : decode cX6_fault 0 = .ok (.aload_n 0, 1) := by decide +kernel
theorem dX6_fault_1 : decode cX6_fault 1 = .ok (.invokevirtual 69, 3) := by decide +kernel
theorem dX6_fault_4 : decode cX6_fault 4 = .ok (.ireturn, 1) := by decide +kernel
set_option maxRecDepth 20000 in
theorem ggX6_market_X6_read : GoodIn wsX6_market wsX6_read := goodIn_r _ [24, 1, 2, 19, 4, 25, 26, 27, 23, 28, 29, 30, 31, 32, 33, 34, 35, 36, 37, 38, 39, 40, 41, 42, 43, 44, 45, 46, 47, 48, 49, 50, 51, 52, 53, 54, 55, 56, 57, 58, 59, 60, 61, 62, 63, 64, 65, 66, 67, 68] (by decide +kernel) (by decide +kernel)
set_option maxRecDepth 20000 in
theorem gX6_market_X6_read : GoodIn wsX6_market (wsV RX6 69 RX6 yX6_read wsX6_read) := goodIn_app (goodIn_of _ (by decide +kernel)) ggX6_market_X6_read
set_option maxRecDepth 20000 in
theorem ggX6_market_X6_kindBy : GoodIn wsX6_market wsX6_kindBy := goodIn_r _ [31] (by decide +kernel) (by decide +kernel)
set_option maxRecDepth 20000 in
theorem gX6_market_X6_kindBy : GoodIn wsX6_market (va_wsS RX6 52 yX6_kindBy wsX6_kindBy) := goodIn_app (goodIn_of _ (by decide +kernel)) ggX6_market_X6_kindBy
theorem dX6_market_0 : decode cX6_market 0 = .ok (.aload_n 0, 1) := by decide +kernel
theorem dX6_market_1 : decode cX6_market 1 = .ok (.invokevirtual 69, 3) := by decide +kernel
theorem dX6_market_4 : decode cX6_market 4 = .ok (.istore_n 1, 1) := by decide +kernel
theorem dX6_market_5 : decode cX6_market 5 = .ok (.aload_n 0, 1) := by decide +kernel
theorem dX6_market_6 : decode cX6_market 6 = .ok (.getfield 59, 3) := by decide +kernel
theorem dX6_market_9 : decode cX6_market 9 = .ok (.ifCond .ne 6, 3) := by decide +kernel
theorem dX6_market_12 : decode cX6_market 12 = .ok (.bipush (-103), 2) := by decide +kernel
theorem dX6_market_14 : decode cX6_market 14 = .ok (.ireturn, 1) := by decide +kernel
theorem dX6_market_15 : decode cX6_market 15 = .ok (.aload_n 0, 1) := by decide +kernel
theorem dX6_market_16 : decode cX6_market 16 = .ok (.aload_n 0, 1) := by decide +kernel
theorem dX6_market_17 : decode cX6_market 17 = .ok (.getfield 63, 3) := by decide +kernel
theorem dX6_market_20 : decode cX6_market 20 = .ok (.putfield 73, 3) := by decide +kernel
theorem dX6_market_23 : decode cX6_market 23 = .ok (.aload_n 0, 1) := by decide +kernel
theorem dX6_market_24 : decode cX6_market 24 = .ok (.aload_n 0, 1) := by decide +kernel
theorem dX6_market_25 : decode cX6_market 25 = .ok (.getfield 34, 3) := by decide +kernel
theorem dX6_market_28 : decode cX6_market 28 = .ok (.iload_n 1, 1) := by decide +kernel
theorem dX6_market_29 : decode cX6_market 29 = .ok (.iconst 1, 1) := by decide +kernel
theorem dX6_market_30 : decode cX6_market 30 = .ok (.isub, 1) := by decide +kernel
theorem dX6_market_31 : decode cX6_market 31 = .ok (.baload, 1) := by decide +kernel
theorem dX6_market_32 : decode cX6_market 32 = .ok (.bipush 48, 2) := by decide +kernel
theorem dX6_market_34 : decode cX6_market 34 = .ok (.isub, 1) := by decide +kernel
theorem dX6_market_35 : decode cX6_market 35 = .ok (.putfield 76, 3) := by decide +kernel
theorem dX6_market_38 : decode cX6_market 38 = .ok (.iconst 0, 1) := by decide +kernel
theorem dX6_market_39 : decode cX6_market 39 = .ok (.istore_n 2, 1) := by decide +kernel
theorem dX6_market_40 : decode cX6_market 40 = .ok (.iload_n 2, 1) := by decide +kernel
theorem dX6_market_41 : decode cX6_market 41 = .ok (.aload_n 0, 1) := by decide +kernel
theorem dX6_market_42 : decode cX6_market 42 = .ok (.getfield 73, 3) := by decide +kernel
theorem dX6_market_45 : decode cX6_market 45 = .ok (.if_icmp .ge 102, 3) := by decide +kernel
theorem dX6_market_48 : decode cX6_market 48 = .ok (.aload_n 0, 1) := by decide +kernel
theorem dX6_market_49 : decode cX6_market 49 = .ok (.getfield 7, 3) := by decide +kernel
theorem dX6_market_52 : decode cX6_market 52 = .ok (.iload_n 2, 1) := by decide +kernel
theorem dX6_market_53 : decode cX6_market 53 = .ok (.aload_n 0, 1) := by decide +kernel
theorem dX6_market_54 : decode cX6_market 54 = .ok (.getfield 34, 3) := by decide +kernel
theorem dX6_market_57 : decode cX6_market 57 = .ok (.iconst 4, 1) := by decide +kernel
theorem dX6_market_58 : decode cX6_market 58 = .ok (.iload_n 2, 1) := by decide +kernel
theorem dX6_market_59 : decode cX6_market 59 = .ok (.imul, 1) := by decide +kernel
theorem dX6_market_60 : decode cX6_market 60 = .ok (.baload, 1) := by decide +kernel
theorem dX6_market_61 : decode cX6_market 61 = .ok (.invokestatic 52, 3) := by decide +kernel
theorem dX6_market_64 : decode cX6_market 64 = .ok (.iastore, 1) := by decide +kernel
theorem dX6_market_65 : decode cX6_market 65 = .ok (.aload_n 0, 1) := by decide +kernel
theorem dX6_market_66 : decode cX6_market 66 = .ok (.getfield 13, 3) := by decide +kernel
theorem dX6_market_69 : decode cX6_market 69 = .ok (.iload_n 2, 1) := by decide +kernel
theorem dX6_market_70 : decode cX6_market 70 = .ok (.bipush 10, 2) := by decide +kernel
theorem dX6_market_72 : decode cX6_market 72 = .ok (.aload_n 0, 1) := by decide +kernel
theorem dX6_market_73 : decode cX6_market 73 = .ok (.getfield 34, 3) := by decide +kernel
theorem dX6_market_76 : decode cX6_market 76 = .ok (.iconst 4, 1) := by decide +kernel
theorem dX6_market_77 : decode cX6_market 77 = .ok (.iload_n 2, 1) := by decide +kernel
theorem dX6_market_78 : decode cX6_market 78 = .ok (.imul, 1) := by decide +kernel
theorem dX6_market_79 : decode cX6_market 79 = .ok (.iconst 1, 1) := by decide +kernel
theorem dX6_market_80 : decode cX6_market 80 = .ok (.iadd, 1) := by decide +kernel
theorem dX6_market_81 : decode cX6_market 81 = .ok (.baload, 1) := by decide +kernel
theorem dX6_market_82 : decode cX6_market 82 = .ok (.iadd, 1) := by decide +kernel
theorem dX6_market_83 : decode cX6_market 83 = .ok (.bipush 48, 2) := by decide +kernel
theorem dX6_market_85 : decode cX6_market 85 = .ok (.isub, 1) := by decide +kernel
theorem dX6_market_86 : decode cX6_market 86 = .ok (.iastore, 1) := by decide +kernel
theorem dX6_market_87 : decode cX6_market 87 = .ok (.aload_n 0, 1) := by decide +kernel
theorem dX6_market_88 : decode cX6_market 88 = .ok (.getfield 16, 3) := by decide +kernel
theorem dX6_market_91 : decode cX6_market 91 = .ok (.iload_n 2, 1) := by decide +kernel
theorem dX6_market_92 : decode cX6_market 92 = .ok (.aload_n 0, 1) := by decide +kernel
theorem dX6_market_93 : decode cX6_market 93 = .ok (.getfield 34, 3) := by decide +kernel
theorem dX6_market_96 : decode cX6_market 96 = .ok (.iconst 4, 1) := by decide +kernel
theorem dX6_market_97 : decode cX6_market 97 = .ok (.iload_n 2, 1) := by decide +kernel
theorem dX6_market_98 : decode cX6_market 98 = .ok (.imul, 1) := by decide +kernel
theorem dX6_market_99 : decode cX6_market 99 = .ok (.iconst 2, 1) := by decide +kernel
theorem dX6_market_100 : decode cX6_market 100 = .ok (.iadd, 1) := by decide +kernel
theorem dX6_market_101 : decode cX6_market 101 = .ok (.baload, 1) := by decide +kernel
theorem dX6_market_102 : decode cX6_market 102 = .ok (.bipush 48, 2) := by decide +kernel
theorem dX6_market_104 : decode cX6_market 104 = .ok (.isub, 1) := by decide +kernel
theorem dX6_market_105 : decode cX6_market 105 = .ok (.iastore, 1) := by decide +kernel
theorem dX6_market_106 : decode cX6_market 106 = .ok (.aload_n 0, 1) := by decide +kernel
theorem dX6_market_107 : decode cX6_market 107 = .ok (.getfield 19, 3) := by decide +kernel
theorem dX6_market_110 : decode cX6_market 110 = .ok (.iload_n 2, 1) := by decide +kernel
theorem dX6_market_111 : decode cX6_market 111 = .ok (.iconst 0, 1) := by decide +kernel
theorem dX6_market_112 : decode cX6_market 112 = .ok (.iastore, 1) := by decide +kernel
theorem dX6_market_113 : decode cX6_market 113 = .ok (.aload_n 0, 1) := by decide +kernel
theorem dX6_market_114 : decode cX6_market 114 = .ok (.getfield 22, 3) := by decide +kernel
theorem dX6_market_117 : decode cX6_market 117 = .ok (.iload_n 2, 1) := by decide +kernel
theorem dX6_market_118 : decode cX6_market 118 = .ok (.iconst 0, 1) := by decide +kernel
theorem dX6_market_119 : decode cX6_market 119 = .ok (.iastore, 1) := by decide +kernel
theorem dX6_market_120 : decode cX6_market 120 = .ok (.aload_n 0, 1) := by decide +kernel
theorem dX6_market_121 : decode cX6_market 121 = .ok (.getfield 25, 3) := by decide +kernel
theorem dX6_market_124 : decode cX6_market 124 = .ok (.iload_n 2, 1) := by decide +kernel
theorem dX6_market_125 : decode cX6_market 125 = .ok (.iconst 0, 1) := by decide +kernel
theorem dX6_market_126 : decode cX6_market 126 = .ok (.iastore, 1) := by decide +kernel
theorem dX6_market_127 : decode cX6_market 127 = .ok (.aload_n 0, 1) := by decide +kernel
theorem dX6_market_128 : decode cX6_market 128 = .ok (.getfield 28, 3) := by decide +kernel
theorem dX6_market_131 : decode cX6_market 131 = .ok (.iload_n 2, 1) := by decide +kernel
theorem dX6_market_132 : decode cX6_market 132 = .ok (.iconst 0, 1) := by decide +kernel
theorem dX6_market_133 : decode cX6_market 133 = .ok (.iastore, 1) := by decide +kernel
theorem dX6_market_134 : decode cX6_market 134 = .ok (.aload_n 0, 1) := by decide +kernel
theorem dX6_market_135 : decode cX6_market 135 = .ok (.getfield 31, 3) := by decide +kernel
theorem dX6_market_138 : decode cX6_market 138 = .ok (.iload_n 2, 1) := by decide +kernel
theorem dX6_market_139 : decode cX6_market 139 = .ok (.iconst 0, 1) := by decide +kernel
theorem dX6_market_140 : decode cX6_market 140 = .ok (.iastore, 1) := by decide +kernel
theorem dX6_market_141 : decode cX6_market 141 = .ok (.iinc 2 1, 3) := by decide +kernel
theorem dX6_market_144 : decode cX6_market 144 = .ok (.goto (-104), 3) := by decide +kernel
theorem dX6_market_147 : decode cX6_market 147 = .ok (.aload_n 0, 1) := by decide +kernel
theorem dX6_market_148 : decode cX6_market 148 = .ok (.dup, 1) := by decide +kernel
theorem dX6_market_149 : decode cX6_market 149 = .ok (.getfield 79, 3) := by decide +kernel
theorem dX6_market_152 : decode cX6_market 152 = .ok (.iconst 1, 1) := by decide +kernel
theorem dX6_market_153 : decode cX6_market 153 = .ok (.iadd, 1) := by decide +kernel
theorem dX6_market_154 : decode cX6_market 154 = .ok (.putfield 79, 3) := by decide +kernel
theorem dX6_market_157 : decode cX6_market 157 = .ok (.aload_n 0, 1) := by decide +kernel
theorem dX6_market_158 : decode cX6_market 158 = .ok (.iconst 1, 1) := by decide +kernel
theorem dX6_market_159 : decode cX6_market 159 = .ok (.putfield 82, 3) := by decide +kernel
theorem dX6_market_162 : decode cX6_market 162 = .ok (.aload_n 0, 1) := by decide +kernel
theorem dX6_market_163 : decode cX6_market 163 = .ok (.iconst 0, 1) := by decide +kernel
theorem dX6_market_164 : decode cX6_market 164 = .ok (.putfield 85, 3) := by decide +kernel
theorem dX6_market_167 : decode cX6_market 167 = .ok (.aload_n 0, 1) := by decide +kernel
theorem dX6_market_168 : decode cX6_market 168 = .ok (.iconst 0, 1) := by decide +kernel
theorem dX6_market_169 : decode cX6_market 169 = .ok (.putfield 88, 3) := by decide +kernel
theorem dX6_market_172 : decode cX6_market 172 = .ok (.aload_n 0, 1) := by decide +kernel
theorem dX6_market_173 : decode cX6_market 173 = .ok (.iconst 0, 1) := by decide +kernel
theorem dX6_market_174 : decode cX6_market 174 = .ok (.putfield 91, 3) := by decide +kernel
theorem dX6_market_177 : decode cX6_market 177 = .ok (.aload_n 0, 1) := by decide +kernel
theorem dX6_market_178 : decode cX6_market 178 = .ok (.iconst 0, 1) := by decide +kernel
theorem dX6_market_179 : decode cX6_market 179 = .ok (.putfield 48, 3) := by decide +kernel
theorem dX6_market_182 : decode cX6_market 182 = .ok (.aload_n 0, 1) := by decide +kernel
theorem dX6_market_183 : decode cX6_market 183 = .ok (.getfield 73, 3) := by decide +kernel
theorem dX6_market_186 : decode cX6_market 186 = .ok (.ireturn, 1) := by decide +kernel
set_option maxRecDepth 20000 in
theorem ggX6_isHouse_X6_within : GoodIn wsX6_isHouse wsX6_within := goodIn_r _ [5] (by decide +kernel) (by decide +kernel)
set_option maxRecDepth 20000 in
theorem gX6_isHouse_X6_within : GoodIn wsX6_isHouse (va_wsS RX6 44 yX6_within wsX6_within) := goodIn_app (goodIn_of _ (by decide +kernel)) ggX6_isHouse_X6_within
theorem dX6_isHouse_0 : decode cX6_isHouse 0 = .ok (.iload_n 1, 1) := by decide +kernel
theorem dX6_isHouse_1 : decode cX6_isHouse 1 = .ok (.iconst 0, 1) := by decide +kernel
theorem dX6_isHouse_2 : decode cX6_isHouse 2 = .ok (.aload_n 0, 1) := by decide +kernel
theorem dX6_isHouse_3 : decode cX6_isHouse 3 = .ok (.getfield 73, 3) := by decide +kernel
theorem dX6_isHouse_6 : decode cX6_isHouse 6 = .ok (.iconst 1, 1) := by decide +kernel
theorem dX6_isHouse_7 : decode cX6_isHouse 7 = .ok (.isub, 1) := by decide +kernel
theorem dX6_isHouse_8 : decode cX6_isHouse 8 = .ok (.invokestatic 44, 3) := by decide +kernel
theorem dX6_isHouse_11 : decode cX6_isHouse 11 = .ok (.ireturn, 1) := by decide +kernel
theorem dX6_houseNow_0 : decode cX6_houseNow 0 = .ok (.iload_n 2, 1) := by decide +kernel
theorem dX6_houseNow_1 : decode cX6_houseNow 1 = .ok (.tableswitch 81 0 5 #[39, 46, 53, 60, 67, 74], 39) := by decide +kernel
theorem dX6_houseNow_40 : decode cX6_houseNow 40 = .ok (.aload_n 0, 1) := by decide +kernel
theorem dX6_houseNow_41 : decode cX6_houseNow 41 = .ok (.getfield 7, 3) := by decide +kernel
theorem dX6_houseNow_44 : decode cX6_houseNow 44 = .ok (.iload_n 1, 1) := by decide +kernel
theorem dX6_houseNow_45 : decode cX6_houseNow 45 = .ok (.iaload, 1) := by decide +kernel
theorem dX6_houseNow_46 : decode cX6_houseNow 46 = .ok (.ireturn, 1) := by decide +kernel
theorem dX6_houseNow_47 : decode cX6_houseNow 47 = .ok (.aload_n 0, 1) := by decide +kernel
theorem dX6_houseNow_48 : decode cX6_houseNow 48 = .ok (.getfield 13, 3) := by decide +kernel
theorem dX6_houseNow_51 : decode cX6_houseNow 51 = .ok (.iload_n 1, 1) := by decide +kernel
theorem dX6_houseNow_52 : decode cX6_houseNow 52 = .ok (.iaload, 1) := by decide +kernel
theorem dX6_houseNow_53 : decode cX6_houseNow 53 = .ok (.ireturn, 1) := by decide +kernel
theorem dX6_houseNow_54 : decode cX6_houseNow 54 = .ok (.aload_n 0, 1) := by decide +kernel
theorem dX6_houseNow_55 : decode cX6_houseNow 55 = .ok (.getfield 16, 3) := by decide +kernel
theorem dX6_houseNow_58 : decode cX6_houseNow 58 = .ok (.iload_n 1, 1) := by decide +kernel
theorem dX6_houseNow_59 : decode cX6_houseNow 59 = .ok (.iaload, 1) := by decide +kernel
theorem dX6_houseNow_60 : decode cX6_houseNow 60 = .ok (.ireturn, 1) := by decide +kernel
theorem dX6_houseNow_61 : decode cX6_houseNow 61 = .ok (.aload_n 0, 1) := by decide +kernel
theorem dX6_houseNow_62 : decode cX6_houseNow 62 = .ok (.getfield 19, 3) := by decide +kernel
theorem dX6_houseNow_65 : decode cX6_houseNow 65 = .ok (.iload_n 1, 1) := by decide +kernel
theorem dX6_houseNow_66 : decode cX6_houseNow 66 = .ok (.iaload, 1) := by decide +kernel
theorem dX6_houseNow_67 : decode cX6_houseNow 67 = .ok (.ireturn, 1) := by decide +kernel
theorem dX6_houseNow_68 : decode cX6_houseNow 68 = .ok (.aload_n 0, 1) := by decide +kernel
theorem dX6_houseNow_69 : decode cX6_houseNow 69 = .ok (.getfield 22, 3) := by decide +kernel
theorem dX6_houseNow_72 : decode cX6_houseNow 72 = .ok (.iload_n 1, 1) := by decide +kernel
theorem dX6_houseNow_73 : decode cX6_houseNow 73 = .ok (.iaload, 1) := by decide +kernel
theorem dX6_houseNow_74 : decode cX6_houseNow 74 = .ok (.ireturn, 1) := by decide +kernel
theorem dX6_houseNow_75 : decode cX6_houseNow 75 = .ok (.aload_n 0, 1) := by decide +kernel
theorem dX6_houseNow_76 : decode cX6_houseNow 76 = .ok (.getfield 25, 3) := by decide +kernel
theorem dX6_houseNow_79 : decode cX6_houseNow 79 = .ok (.iload_n 1, 1) := by decide +kernel
theorem dX6_houseNow_80 : decode cX6_houseNow 80 = .ok (.iaload, 1) := by decide +kernel
theorem dX6_houseNow_81 : decode cX6_houseNow 81 = .ok (.ireturn, 1) := by decide +kernel
theorem dX6_houseNow_82 : decode cX6_houseNow 82 = .ok (.aload_n 0, 1) := by decide +kernel
theorem dX6_houseNow_83 : decode cX6_houseNow 83 = .ok (.getfield 28, 3) := by decide +kernel
theorem dX6_houseNow_86 : decode cX6_houseNow 86 = .ok (.iload_n 1, 1) := by decide +kernel
theorem dX6_houseNow_87 : decode cX6_houseNow 87 = .ok (.iaload, 1) := by decide +kernel
theorem dX6_houseNow_88 : decode cX6_houseNow 88 = .ok (.ireturn, 1) := by decide +kernel
set_option maxRecDepth 20000 in
theorem ggX6_about_X6_isHouse : GoodIn wsX6_about wsX6_isHouse := goodIn_r _ [5, 6, 7, 8, 4, 9, 21, 22, 23, 24, 25, 26, 27, 28, 29, 30, 31, 32, 33, 34, 35, 36, 37, 38, 39, 40, 41, 42, 43, 44, 45, 46, 47, 48, 49, 50] (by decide +kernel) (by decide +kernel)
set_option maxRecDepth 20000 in
theorem gX6_about_X6_isHouse : GoodIn wsX6_about (wsV RX6 94 RX6 yX6_isHouse wsX6_isHouse) := goodIn_app (goodIn_of _ (by decide +kernel)) ggX6_about_X6_isHouse
set_option maxRecDepth 20000 in
theorem ggX6_about_X6_within : GoodIn wsX6_about wsX6_within := goodIn_r _ [9] (by decide +kernel) (by decide +kernel)
set_option maxRecDepth 20000 in
theorem gX6_about_X6_within : GoodIn wsX6_about (va_wsS RX6 44 yX6_within wsX6_within) := goodIn_app (goodIn_of _ (by decide +kernel)) ggX6_about_X6_within
set_option maxRecDepth 20000 in
theorem ggX6_about_X6_houseNow : GoodIn wsX6_about wsX6_houseNow := goodIn_r _ [13, 14, 15, 16, 17, 18, 19, 20, 21, 22, 23, 24, 25, 26, 27, 28, 29, 30, 31, 32, 33, 34, 35, 36, 37, 38, 39, 40, 41, 42, 43, 44, 45, 46, 47, 48, 49, 50] (by decide +kernel) (by decide +kernel)
set_option maxRecDepth 20000 in
theorem gX6_about_X6_houseNow : GoodIn wsX6_about (wsV RX6 98 RX6 yX6_houseNow wsX6_houseNow) := goodIn_app (goodIn_of _ (by decide +kernel)) ggX6_about_X6_houseNow
theorem dX6_about_0 : decode cX6_about 0 = .ok (.aload_n 0, 1) := by decide +kernel
theorem dX6_about_1 : decode cX6_about 1 = .ok (.iload_n 1, 1) := by decide +kernel
theorem dX6_about_2 : decode cX6_about 2 = .ok (.invokevirtual 94, 3) := by decide +kernel
theorem dX6_about_5 : decode cX6_about 5 = .ok (.ifCond .ne 8, 3) := by decide +kernel
theorem dX6_about_8 : decode cX6_about 8 = .ok (.bipush (-101), 2) := by decide +kernel
theorem dX6_about_10 : decode cX6_about 10 = .ok (.goto 24, 3) := by decide +kernel
theorem dX6_about_13 : decode cX6_about 13 = .ok (.iload_n 2, 1) := by decide +kernel
theorem dX6_about_14 : decode cX6_about 14 = .ok (.iconst 0, 1) := by decide +kernel
theorem dX6_about_15 : decode cX6_about 15 = .ok (.bipush 6, 2) := by decide +kernel
theorem dX6_about_17 : decode cX6_about 17 = .ok (.invokestatic 44, 3) := by decide +kernel
theorem dX6_about_20 : decode cX6_about 20 = .ok (.ifCond .eq 12, 3) := by decide +kernel
theorem dX6_about_23 : decode cX6_about 23 = .ok (.aload_n 0, 1) := by decide +kernel
theorem dX6_about_24 : decode cX6_about 24 = .ok (.iload_n 1, 1) := by decide +kernel
theorem dX6_about_25 : decode cX6_about 25 = .ok (.iload_n 2, 1) := by decide +kernel
theorem dX6_about_26 : decode cX6_about 26 = .ok (.invokevirtual 98, 3) := by decide +kernel
theorem dX6_about_29 : decode cX6_about 29 = .ok (.goto 5, 3) := by decide +kernel
theorem dX6_about_32 : decode cX6_about 32 = .ok (.bipush (-102), 2) := by decide +kernel
theorem dX6_about_34 : decode cX6_about 34 = .ok (.ireturn, 1) := by decide +kernel
set_option maxRecDepth 20000 in
theorem ggX6_as_X6_isHouse : GoodIn wsX6_as wsX6_isHouse := goodIn_r _ [6, 7, 8, 9, 5, 10, 11, 12, 13, 14, 15, 16, 17, 18, 19, 20, 21, 22, 23, 24, 25, 26, 27, 28, 29, 30, 31, 32, 33, 34, 35, 36, 37, 38, 39, 40] (by decide +kernel) (by decide +kernel)
set_option maxRecDepth 20000 in
theorem gX6_as_X6_isHouse : GoodIn wsX6_as (wsV RX6 94 RX6 yX6_isHouse wsX6_isHouse) := goodIn_app (goodIn_of _ (by decide +kernel)) ggX6_as_X6_isHouse
set_option maxRecDepth 20000 in
theorem ggX6_as_X6_within : GoodIn wsX6_as wsX6_within := goodIn_r _ [10] (by decide +kernel) (by decide +kernel)
set_option maxRecDepth 20000 in
theorem gX6_as_X6_within : GoodIn wsX6_as (va_wsS RX6 44 yX6_within wsX6_within) := goodIn_app (goodIn_of _ (by decide +kernel)) ggX6_as_X6_within
theorem dX6_as_0 : decode cX6_as 0 = .ok (.aload_n 0, 1) := by decide +kernel
theorem dX6_as_1 : decode cX6_as 1 = .ok (.iload_n 1, 1) := by decide +kernel
theorem dX6_as_2 : decode cX6_as 2 = .ok (.invokevirtual 94, 3) := by decide +kernel
theorem dX6_as_5 : decode cX6_as 5 = .ok (.ifCond .ne 6, 3) := by decide +kernel
theorem dX6_as_8 : decode cX6_as 8 = .ok (.bipush (-101), 2) := by decide +kernel
theorem dX6_as_10 : decode cX6_as 10 = .ok (.ireturn, 1) := by decide +kernel
theorem dX6_as_11 : decode cX6_as 11 = .ok (.iload_n 2, 1) := by decide +kernel
theorem dX6_as_12 : decode cX6_as 12 = .ok (.iconst 0, 1) := by decide +kernel
theorem dX6_as_13 : decode cX6_as 13 = .ok (.iconst 4, 1) := by decide +kernel
theorem dX6_as_14 : decode cX6_as 14 = .ok (.invokestatic 44, 3) := by decide +kernel
theorem dX6_as_17 : decode cX6_as 17 = .ok (.ifCond .ne 6, 3) := by decide +kernel
theorem dX6_as_20 : decode cX6_as 20 = .ok (.bipush (-102), 2) := by decide +kernel
theorem dX6_as_22 : decode cX6_as 22 = .ok (.ireturn, 1) := by decide +kernel
theorem dX6_as_23 : decode cX6_as 23 = .ok (.aload_n 0, 1) := by decide +kernel
theorem dX6_as_24 : decode cX6_as 24 = .ok (.getfield 7, 3) := by decide +kernel
theorem dX6_as_27 : decode cX6_as 27 = .ok (.iload_n 1, 1) := by decide +kernel
theorem dX6_as_28 : decode cX6_as 28 = .ok (.iaload, 1) := by decide +kernel
theorem dX6_as_29 : decode cX6_as 29 = .ok (.istore_n 3, 1) := by decide +kernel
theorem dX6_as_30 : decode cX6_as 30 = .ok (.iload_n 2, 1) := by decide +kernel
theorem dX6_as_31 : decode cX6_as 31 = .ok (.ifCond .eq 18, 3) := by decide +kernel
theorem dX6_as_34 : decode cX6_as 34 = .ok (.iload_n 3, 1) := by decide +kernel
theorem dX6_as_35 : decode cX6_as 35 = .ok (.iload_n 2, 1) := by decide +kernel
theorem dX6_as_36 : decode cX6_as 36 = .ok (.if_icmp .eq 13, 3) := by decide +kernel
theorem dX6_as_39 : decode cX6_as 39 = .ok (.iload_n 2, 1) := by decide +kernel
theorem dX6_as_40 : decode cX6_as 40 = .ok (.iconst 1, 1) := by decide +kernel
theorem dX6_as_41 : decode cX6_as 41 = .ok (.if_icmp .ne 12, 3) := by decide +kernel
theorem dX6_as_44 : decode cX6_as 44 = .ok (.iload_n 3, 1) := by decide +kernel
theorem dX6_as_45 : decode cX6_as 45 = .ok (.iconst 4, 1) := by decide +kernel
theorem dX6_as_46 : decode cX6_as 46 = .ok (.if_icmp .ne 7, 3) := by decide +kernel
theorem dX6_as_49 : decode cX6_as 49 = .ok (.iload_n 1, 1) := by decide +kernel
theorem dX6_as_50 : decode cX6_as 50 = .ok (.goto 4, 3) := by decide +kernel
theorem dX6_as_53 : decode cX6_as 53 = .ok (.iconst (-1), 1) := by decide +kernel
theorem dX6_as_54 : decode cX6_as 54 = .ok (.ireturn, 1) := by decide +kernel
theorem dX6_ounces_0 : decode cX6_ounces 0 = .ok (.aload_n 0, 1) := by decide +kernel
theorem dX6_ounces_1 : decode cX6_ounces 1 = .ok (.getfield 13, 3) := by decide +kernel
theorem dX6_ounces_4 : decode cX6_ounces 4 = .ok (.iload_n 2, 1) := by decide +kernel
theorem dX6_ounces_5 : decode cX6_ounces 5 = .ok (.iaload, 1) := by decide +kernel
theorem dX6_ounces_6 : decode cX6_ounces 6 = .ok (.iload_n 3, 1) := by decide +kernel
theorem dX6_ounces_7 : decode cX6_ounces 7 = .ok (.iconst 2, 1) := by decide +kernel
theorem dX6_ounces_8 : decode cX6_ounces 8 = .ok (.irem, 1) := by decide +kernel
theorem dX6_ounces_9 : decode cX6_ounces 9 = .ok (.iconst 1, 1) := by decide +kernel
theorem dX6_ounces_10 : decode cX6_ounces 10 = .ok (.if_icmp .ne 10, 3) := by decide +kernel
theorem dX6_ounces_13 : decode cX6_ounces 13 = .ok (.aload_n 0, 1) := by decide +kernel
theorem dX6_ounces_14 : decode cX6_ounces 14 = .ok (.getfield 76, 3) := by decide +kernel
theorem dX6_ounces_17 : decode cX6_ounces 17 = .ok (.goto 8, 3) := by decide +kernel
theorem dX6_ounces_20 : decode cX6_ounces 20 = .ok (.aload_n 0, 1) := by decide +kernel
theorem dX6_ounces_21 : decode cX6_ounces 21 = .ok (.getfield 76, 3) := by decide +kernel
theorem dX6_ounces_24 : decode cX6_ounces 24 = .ok (.ineg, 1) := by decide +kernel
theorem dX6_ounces_25 : decode cX6_ounces 25 = .ok (.iadd, 1) := by decide +kernel
theorem dX6_ounces_26 : decode cX6_ounces 26 = .ok (.aload_n 0, 1) := by decide +kernel
theorem dX6_ounces_27 : decode cX6_ounces 27 = .ok (.getfield 7, 3) := by decide +kernel
theorem dX6_ounces_30 : decode cX6_ounces 30 = .ok (.iload_n 1, 1) := by decide +kernel
theorem dX6_ounces_31 : decode cX6_ounces 31 = .ok (.iaload, 1) := by decide +kernel
theorem dX6_ounces_32 : decode cX6_ounces 32 = .ok (.iconst 3, 1) := by decide +kernel
theorem dX6_ounces_33 : decode cX6_ounces 33 = .ok (.if_icmp .ne 7, 3) := by decide +kernel
theorem dX6_ounces_36 : decode cX6_ounces 36 = .ok (.iconst 1, 1) := by decide +kernel
theorem dX6_ounces_37 : decode cX6_ounces 37 = .ok (.goto 4, 3) := by decide +kernel
theorem dX6_ounces_40 : decode cX6_ounces 40 = .ok (.iconst 0, 1) := by decide +kernel
theorem dX6_ounces_41 : decode cX6_ounces 41 = .ok (.iadd, 1) := by decide +kernel
theorem dX6_ounces_42 : decode cX6_ounces 42 = .ok (.istore 4, 2) := by decide +kernel
theorem dX6_ounces_44 : decode cX6_ounces 44 = .ok (.iload 4, 2) := by decide +kernel
theorem dX6_ounces_46 : decode cX6_ounces 46 = .ok (.ifCond .ge 7, 3) := by decide +kernel
theorem dX6_ounces_49 : decode cX6_ounces 49 = .ok (.iconst 0, 1) := by decide +kernel
theorem dX6_ounces_50 : decode cX6_ounces 50 = .ok (.goto 5, 3) := by decide +kernel
theorem dX6_ounces_53 : decode cX6_ounces 53 = .ok (.iload 4, 2) := by decide +kernel
theorem dX6_ounces_55 : decode cX6_ounces 55 = .ok (.ireturn, 1) := by decide +kernel
theorem dX6_wear_0 : decode cX6_wear 0 = .ok (.aload_n 0, 1) := by decide +kernel
theorem dX6_wear_1 : decode cX6_wear 1 = .ok (.getfield 7, 3) := by decide +kernel
theorem dX6_wear_4 : decode cX6_wear 4 = .ok (.iload_n 2, 1) := by decide +kernel
theorem dX6_wear_5 : decode cX6_wear 5 = .ok (.iaload, 1) := by decide +kernel
theorem dX6_wear_6 : decode cX6_wear 6 = .ok (.iconst 2, 1) := by decide +kernel
theorem dX6_wear_7 : decode cX6_wear 7 = .ok (.if_icmp .ne 7, 3) := by decide +kernel
theorem dX6_wear_10 : decode cX6_wear 10 = .ok (.iconst 1, 1) := by decide +kernel
theorem dX6_wear_11 : decode cX6_wear 11 = .ok (.goto 4, 3) := by decide +kernel
theorem dX6_wear_14 : decode cX6_wear 14 = .ok (.iconst 0, 1) := by decide +kernel
theorem dX6_wear_15 : decode cX6_wear 15 = .ok (.aload_n 0, 1) := by decide +kernel
theorem dX6_wear_16 : decode cX6_wear 16 = .ok (.getfield 7, 3) := by decide +kernel
theorem dX6_wear_19 : decode cX6_wear 19 = .ok (.iload_n 1, 1) := by decide +kernel
theorem dX6_wear_20 : decode cX6_wear 20 = .ok (.iaload, 1) := by decide +kernel
theorem dX6_wear_21 : decode cX6_wear 21 = .ok (.iconst 1, 1) := by decide +kernel
theorem dX6_wear_22 : decode cX6_wear 22 = .ok (.if_icmp .ne 7, 3) := by decide +kernel
theorem dX6_wear_25 : decode cX6_wear 25 = .ok (.iconst 1, 1) := by decide +kernel
theorem dX6_wear_26 : decode cX6_wear 26 = .ok (.goto 18, 3) := by decide +kernel
theorem dX6_wear_29 : decode cX6_wear 29 = .ok (.aload_n 0, 1) := by decide +kernel
theorem dX6_wear_30 : decode cX6_wear 30 = .ok (.getfield 7, 3) := by decide +kernel
theorem dX6_wear_33 : decode cX6_wear 33 = .ok (.iload_n 1, 1) := by decide +kernel
theorem dX6_wear_34 : decode cX6_wear 34 = .ok (.iaload, 1) := by decide +kernel
theorem dX6_wear_35 : decode cX6_wear 35 = .ok (.iconst 4, 1) := by decide +kernel
theorem dX6_wear_36 : decode cX6_wear 36 = .ok (.if_icmp .ne 7, 3) := by decide +kernel
theorem dX6_wear_39 : decode cX6_wear 39 = .ok (.iconst 2, 1) := by decide +kernel
theorem dX6_wear_40 : decode cX6_wear 40 = .ok (.goto 4, 3) := by decide +kernel
theorem dX6_wear_43 : decode cX6_wear 43 = .ok (.iconst 0, 1) := by decide +kernel
theorem dX6_wear_44 : decode cX6_wear 44 = .ok (.iadd, 1) := by decide +kernel
theorem dX6_wear_45 : decode cX6_wear 45 = .ok (.istore_n 3, 1) := by decide +kernel
theorem dX6_wear_46 : decode cX6_wear 46 = .ok (.aload_n 0, 1) := by decide +kernel
theorem dX6_wear_47 : decode cX6_wear 47 = .ok (.getfield 13, 3) := by decide +kernel
theorem dX6_wear_50 : decode cX6_wear 50 = .ok (.iload_n 2, 1) := by decide +kernel
theorem dX6_wear_51 : decode cX6_wear 51 = .ok (.aload_n 0, 1) := by decide +kernel
theorem dX6_wear_52 : decode cX6_wear 52 = .ok (.getfield 13, 3) := by decide +kernel
theorem dX6_wear_55 : decode cX6_wear 55 = .ok (.iload_n 2, 1) := by decide +kernel
theorem dX6_wear_56 : decode cX6_wear 56 = .ok (.iaload, 1) := by decide +kernel
theorem dX6_wear_57 : decode cX6_wear 57 = .ok (.iload_n 3, 1) := by decide +kernel
theorem dX6_wear_58 : decode cX6_wear 58 = .ok (.isub, 1) := by decide +kernel
theorem dX6_wear_59 : decode cX6_wear 59 = .ok (.iconst 1, 1) := by decide +kernel
theorem dX6_wear_60 : decode cX6_wear 60 = .ok (.if_icmp .ge 7, 3) := by decide +kernel
theorem dX6_wear_63 : decode cX6_wear 63 = .ok (.iconst 1, 1) := by decide +kernel
theorem dX6_wear_64 : decode cX6_wear 64 = .ok (.goto 11, 3) := by decide +kernel
theorem dX6_wear_67 : decode cX6_wear 67 = .ok (.aload_n 0, 1) := by decide +kernel
theorem dX6_wear_68 : decode cX6_wear 68 = .ok (.getfield 13, 3) := by decide +kernel
theorem dX6_wear_71 : decode cX6_wear 71 = .ok (.iload_n 2, 1) := by decide +kernel
theorem dX6_wear_72 : decode cX6_wear 72 = .ok (.iaload, 1) := by decide +kernel
theorem dX6_wear_73 : decode cX6_wear 73 = .ok (.iload_n 3, 1) := by decide +kernel
theorem dX6_wear_74 : decode cX6_wear 74 = .ok (.isub, 1) := by decide +kernel
theorem dX6_wear_75 : decode cX6_wear 75 = .ok (.iastore, 1) := by decide +kernel
theorem dX6_wear_76 : decode cX6_wear 76 = .ok (.return_, 1) := by decide +kernel
set_option maxRecDepth 20000 in
theorem ggX6_isSale_X6_isHouse : GoodIn wsX6_isSale wsX6_isHouse := goodIn_r _ [5, 6, 7, 8, 4, 9, 10, 11, 12, 13, 14, 15, 16, 17, 18, 19, 20, 21, 22, 23, 24, 25, 26, 27, 28, 29, 30, 31, 32, 33, 34, 35, 36, 37, 38, 39] (by decide +kernel) (by decide +kernel)
set_option maxRecDepth 20000 in
theorem gX6_isSale_X6_isHouse : GoodIn wsX6_isSale (wsV RX6 94 RX6 yX6_isHouse wsX6_isHouse) := goodIn_app (goodIn_of _ (by decide +kernel)) ggX6_isSale_X6_isHouse
theorem dX6_isSale_0 : decode cX6_isSale 0 = .ok (.aload_n 0, 1) := by decide +kernel
theorem dX6_isSale_1 : decode cX6_isSale 1 = .ok (.iload_n 1, 1) := by decide +kernel
theorem dX6_isSale_2 : decode cX6_isSale 2 = .ok (.invokevirtual 94, 3) := by decide +kernel
theorem dX6_isSale_5 : decode cX6_isSale 5 = .ok (.ifCond .eq 28, 3) := by decide +kernel
theorem dX6_isSale_8 : decode cX6_isSale 8 = .ok (.aload_n 0, 1) := by decide +kernel
theorem dX6_isSale_9 : decode cX6_isSale 9 = .ok (.iload_n 2, 1) := by decide +kernel
theorem dX6_isSale_10 : decode cX6_isSale 10 = .ok (.invokevirtual 94, 3) := by decide +kernel
theorem dX6_isSale_13 : decode cX6_isSale 13 = .ok (.ifCond .eq 20, 3) := by decide +kernel
theorem dX6_isSale_16 : decode cX6_isSale 16 = .ok (.aload_n 0, 1) := by decide +kernel
theorem dX6_isSale_17 : decode cX6_isSale 17 = .ok (.iload_n 3, 1) := by decide +kernel
theorem dX6_isSale_18 : decode cX6_isSale 18 = .ok (.invokevirtual 94, 3) := by decide +kernel
theorem dX6_isSale_21 : decode cX6_isSale 21 = .ok (.ifCond .eq 12, 3) := by decide +kernel
theorem dX6_isSale_24 : decode cX6_isSale 24 = .ok (.iload_n 1, 1) := by decide +kernel
theorem dX6_isSale_25 : decode cX6_isSale 25 = .ok (.iload_n 2, 1) := by decide +kernel
theorem dX6_isSale_26 : decode cX6_isSale 26 = .ok (.if_icmp .eq 7, 3) := by decide +kernel
theorem dX6_isSale_29 : decode cX6_isSale 29 = .ok (.iconst 1, 1) := by decide +kernel
theorem dX6_isSale_30 : decode cX6_isSale 30 = .ok (.goto 4, 3) := by decide +kernel
theorem dX6_isSale_33 : decode cX6_isSale 33 = .ok (.iconst 0, 1) := by decide +kernel
theorem dX6_isSale_34 : decode cX6_isSale 34 = .ok (.ireturn, 1) := by decide +kernel
set_option maxRecDepth 20000 in
theorem ggX6_measure_X6_isSale : GoodIn wsX6_measure wsX6_isSale := goodIn_r _ [6, 7, 8, 9, 5, 10, 11, 12, 13, 14, 22, 23, 24, 25, 26, 27, 28, 29, 30, 31, 32, 33, 34, 35, 36, 37, 38, 39, 40, 41, 42, 43, 44, 45, 46, 47, 48, 49, 50, 51] (by decide +kernel) (by decide +kernel)
set_option maxRecDepth 20000 in
theorem gX6_measure_X6_isSale : GoodIn wsX6_measure (wsV RX6 102 RX6 yX6_isSale wsX6_isSale) := goodIn_app (goodIn_of _ (by decide +kernel)) ggX6_measure_X6_isSale
set_option maxRecDepth 20000 in
theorem ggX6_measure_X6_ounces : GoodIn wsX6_measure wsX6_ounces := goodIn_r _ [18, 19, 20, 21, 22, 23, 24, 25, 26, 27, 28, 29, 30, 31, 32, 33, 34, 35, 36, 37, 38, 39, 40, 41, 42, 43, 44, 45, 46, 47, 48, 49, 50, 51] (by decide +kernel) (by decide +kernel)
set_option maxRecDepth 20000 in
theorem gX6_measure_X6_ounces : GoodIn wsX6_measure (wsV RX6 105 RX6 yX6_ounces wsX6_ounces) := goodIn_app (goodIn_of _ (by decide +kernel)) ggX6_measure_X6_ounces
theorem dX6_measure_0 : decode cX6_measure 0 = .ok (.aload_n 0, 1) := by decide +kernel
theorem dX6_measure_1 : decode cX6_measure 1 = .ok (.iload_n 1, 1) := by decide +kernel
theorem dX6_measure_2 : decode cX6_measure 2 = .ok (.iload_n 2, 1) := by decide +kernel
theorem dX6_measure_3 : decode cX6_measure 3 = .ok (.iload_n 3, 1) := by decide +kernel
theorem dX6_measure_4 : decode cX6_measure 4 = .ok (.invokevirtual 102, 3) := by decide +kernel
theorem dX6_measure_7 : decode cX6_measure 7 = .ok (.ifCond .eq 16, 3) := by decide +kernel
theorem dX6_measure_10 : decode cX6_measure 10 = .ok (.aload_n 0, 1) := by decide +kernel
theorem dX6_measure_11 : decode cX6_measure 11 = .ok (.iload_n 1, 1) := by decide +kernel
theorem dX6_measure_12 : decode cX6_measure 12 = .ok (.iload_n 3, 1) := by decide +kernel
theorem dX6_measure_13 : decode cX6_measure 13 = .ok (.aload_n 0, 1) := by decide +kernel
theorem dX6_measure_14 : decode cX6_measure 14 = .ok (.getfield 82, 3) := by decide +kernel
theorem dX6_measure_17 : decode cX6_measure 17 = .ok (.invokevirtual 105, 3) := by decide +kernel
theorem dX6_measure_20 : decode cX6_measure 20 = .ok (.goto 5, 3) := by decide +kernel
theorem dX6_measure_23 : decode cX6_measure 23 = .ok (.bipush (-101), 2) := by decide +kernel
theorem dX6_measure_25 : decode cX6_measure 25 = .ok (.ireturn, 1) := by decide +kernel
set_option maxRecDepth 20000 in
theorem ggX6_buy_X6_isSale : GoodIn wsX6_buy wsX6_isSale := goodIn_r _ [12, 13, 14, 15, 11, 16, 17, 18, 19, 20, 32, 33, 34, 35, 36, 37, 38, 39, 40, 41, 42, 43, 44, 45, 46, 47, 48, 49, 50, 51, 52, 53, 54, 55, 56, 57, 58, 59, 60, 61] (by decide +kernel) (by decide +kernel)
set_option maxRecDepth 20000 in
theorem gX6_buy_X6_isSale : GoodIn wsX6_buy (wsV RX6 102 RX6 yX6_isSale wsX6_isSale) := goodIn_app (goodIn_of _ (by decide +kernel)) ggX6_buy_X6_isSale
set_option maxRecDepth 20000 in
theorem ggX6_buy_X6_ounces : GoodIn wsX6_buy wsX6_ounces := goodIn_r _ [24, 25, 26, 27, 32, 33, 34, 35, 36, 37, 38, 39, 40, 41, 42, 43, 44, 45, 46, 47, 48, 49, 50, 51, 52, 53, 54, 55, 56, 57, 58, 59, 60, 61] (by decide +kernel) (by decide +kernel)
set_option maxRecDepth 20000 in
theorem gX6_buy_X6_ounces : GoodIn wsX6_buy (wsV RX6 105 RX6 yX6_ounces wsX6_ounces) := goodIn_app (goodIn_of _ (by decide +kernel)) ggX6_buy_X6_ounces
set_option maxRecDepth 20000 in
theorem ggX6_buy_X6_wear : GoodIn wsX6_buy wsX6_wear := goodIn_r _ [31, 27, 25, 32, 33, 34, 35, 36, 37, 38, 39, 40, 41, 42, 43, 44, 45, 46, 47, 48, 49, 50, 51, 52, 53, 54, 55, 56, 57, 58, 59, 60, 61] (by decide +kernel) (by decide +kernel)
set_option maxRecDepth 20000 in
theorem gX6_buy_X6_wear : GoodIn wsX6_buy (wsV RX6 109 RX6 yX6_wear wsX6_wear) := goodIn_app (goodIn_of _ (by decide +kernel)) ggX6_buy_X6_wear
theorem dX6_buy_0 : decode cX6_buy 0 = .ok (.aload_n 0, 1) := by decide +kernel
theorem dX6_buy_1 : decode cX6_buy 1 = .ok (.iload_n 1, 1) := by decide +kernel
theorem dX6_buy_2 : decode cX6_buy 2 = .ok (.iload_n 2, 1) := by decide +kernel
theorem dX6_buy_3 : decode cX6_buy 3 = .ok (.iload_n 3, 1) := by decide +kernel
theorem dX6_buy_4 : decode cX6_buy 4 = .ok (.invokevirtual 102, 3) := by decide +kernel
theorem dX6_buy_7 : decode cX6_buy 7 = .ok (.ifCond .ne 6, 3) := by decide +kernel
theorem dX6_buy_10 : decode cX6_buy 10 = .ok (.bipush (-101), 2) := by decide +kernel
theorem dX6_buy_12 : decode cX6_buy 12 = .ok (.ireturn, 1) := by decide +kernel
theorem dX6_buy_13 : decode cX6_buy 13 = .ok (.aload_n 0, 1) := by decide +kernel
theorem dX6_buy_14 : decode cX6_buy 14 = .ok (.getfield 85, 3) := by decide +kernel
theorem dX6_buy_17 : decode cX6_buy 17 = .ok (.bipush 100, 2) := by decide +kernel
theorem dX6_buy_19 : decode cX6_buy 19 = .ok (.if_icmp .ne 6, 3) := by decide +kernel
theorem dX6_buy_22 : decode cX6_buy 22 = .ok (.bipush (-104), 2) := by decide +kernel
theorem dX6_buy_24 : decode cX6_buy 24 = .ok (.ireturn, 1) := by decide +kernel
theorem dX6_buy_25 : decode cX6_buy 25 = .ok (.aload_n 0, 1) := by decide +kernel
theorem dX6_buy_26 : decode cX6_buy 26 = .ok (.iload_n 1, 1) := by decide +kernel
theorem dX6_buy_27 : decode cX6_buy 27 = .ok (.iload_n 3, 1) := by decide +kernel
theorem dX6_buy_28 : decode cX6_buy 28 = .ok (.aload_n 0, 1) := by decide +kernel
theorem dX6_buy_29 : decode cX6_buy 29 = .ok (.getfield 82, 3) := by decide +kernel
theorem dX6_buy_32 : decode cX6_buy 32 = .ok (.invokevirtual 105, 3) := by decide +kernel
theorem dX6_buy_35 : decode cX6_buy 35 = .ok (.istore 4, 2) := by decide +kernel
theorem dX6_buy_37 : decode cX6_buy 37 = .ok (.aload_n 0, 1) := by decide +kernel
theorem dX6_buy_38 : decode cX6_buy 38 = .ok (.getfield 19, 3) := by decide +kernel
theorem dX6_buy_41 : decode cX6_buy 41 = .ok (.iload_n 1, 1) := by decide +kernel
theorem dX6_buy_42 : decode cX6_buy 42 = .ok (.dup2, 1) := by decide +kernel
theorem dX6_buy_43 : decode cX6_buy 43 = .ok (.iaload, 1) := by decide +kernel
theorem dX6_buy_44 : decode cX6_buy 44 = .ok (.iload 4, 2) := by decide +kernel
theorem dX6_buy_46 : decode cX6_buy 46 = .ok (.iadd, 1) := by decide +kernel
theorem dX6_buy_47 : decode cX6_buy 47 = .ok (.iastore, 1) := by decide +kernel
theorem dX6_buy_48 : decode cX6_buy 48 = .ok (.aload_n 0, 1) := by decide +kernel
theorem dX6_buy_49 : decode cX6_buy 49 = .ok (.getfield 22, 3) := by decide +kernel
theorem dX6_buy_52 : decode cX6_buy 52 = .ok (.iload_n 1, 1) := by decide +kernel
theorem dX6_buy_53 : decode cX6_buy 53 = .ok (.dup2, 1) := by decide +kernel
theorem dX6_buy_54 : decode cX6_buy 54 = .ok (.iaload, 1) := by decide +kernel
theorem dX6_buy_55 : decode cX6_buy 55 = .ok (.aload_n 0, 1) := by decide +kernel
theorem dX6_buy_56 : decode cX6_buy 56 = .ok (.getfield 16, 3) := by decide +kernel
theorem dX6_buy_59 : decode cX6_buy 59 = .ok (.iload_n 2, 1) := by decide +kernel
theorem dX6_buy_60 : decode cX6_buy 60 = .ok (.iaload, 1) := by decide +kernel
theorem dX6_buy_61 : decode cX6_buy 61 = .ok (.iadd, 1) := by decide +kernel
theorem dX6_buy_62 : decode cX6_buy 62 = .ok (.iastore, 1) := by decide +kernel
theorem dX6_buy_63 : decode cX6_buy 63 = .ok (.aload_n 0, 1) := by decide +kernel
theorem dX6_buy_64 : decode cX6_buy 64 = .ok (.getfield 25, 3) := by decide +kernel
theorem dX6_buy_67 : decode cX6_buy 67 = .ok (.iload_n 2, 1) := by decide +kernel
theorem dX6_buy_68 : decode cX6_buy 68 = .ok (.dup2, 1) := by decide +kernel
theorem dX6_buy_69 : decode cX6_buy 69 = .ok (.iaload, 1) := by decide +kernel
theorem dX6_buy_70 : decode cX6_buy 70 = .ok (.iconst 1, 1) := by decide +kernel
theorem dX6_buy_71 : decode cX6_buy 71 = .ok (.iadd, 1) := by decide +kernel
theorem dX6_buy_72 : decode cX6_buy 72 = .ok (.iastore, 1) := by decide +kernel
theorem dX6_buy_73 : decode cX6_buy 73 = .ok (.aload_n 0, 1) := by decide +kernel
theorem dX6_buy_74 : decode cX6_buy 74 = .ok (.getfield 28, 3) := by decide +kernel
theorem dX6_buy_77 : decode cX6_buy 77 = .ok (.iload_n 3, 1) := by decide +kernel
theorem dX6_buy_78 : decode cX6_buy 78 = .ok (.dup2, 1) := by decide +kernel
theorem dX6_buy_79 : decode cX6_buy 79 = .ok (.iaload, 1) := by decide +kernel
theorem dX6_buy_80 : decode cX6_buy 80 = .ok (.iconst 1, 1) := by decide +kernel
theorem dX6_buy_81 : decode cX6_buy 81 = .ok (.iadd, 1) := by decide +kernel
theorem dX6_buy_82 : decode cX6_buy 82 = .ok (.iastore, 1) := by decide +kernel
theorem dX6_buy_83 : decode cX6_buy 83 = .ok (.aload_n 0, 1) := by decide +kernel
theorem dX6_buy_84 : decode cX6_buy 84 = .ok (.iload_n 2, 1) := by decide +kernel
theorem dX6_buy_85 : decode cX6_buy 85 = .ok (.iload_n 3, 1) := by decide +kernel
theorem dX6_buy_86 : decode cX6_buy 86 = .ok (.invokevirtual 109, 3) := by decide +kernel
theorem dX6_buy_89 : decode cX6_buy 89 = .ok (.aload_n 0, 1) := by decide +kernel
theorem dX6_buy_90 : decode cX6_buy 90 = .ok (.dup, 1) := by decide +kernel
theorem dX6_buy_91 : decode cX6_buy 91 = .ok (.getfield 85, 3) := by decide +kernel
theorem dX6_buy_94 : decode cX6_buy 94 = .ok (.iconst 1, 1) := by decide +kernel
theorem dX6_buy_95 : decode cX6_buy 95 = .ok (.iadd, 1) := by decide +kernel
theorem dX6_buy_96 : decode cX6_buy 96 = .ok (.putfield 85, 3) := by decide +kernel
theorem dX6_buy_99 : decode cX6_buy 99 = .ok (.iload 4, 2) := by decide +kernel
theorem dX6_buy_101 : decode cX6_buy 101 = .ok (.ireturn, 1) := by decide +kernel
theorem dX6_hour_0 : decode cX6_hour 0 = .ok (.aload_n 0, 1) := by decide +kernel
theorem dX6_hour_1 : decode cX6_hour 1 = .ok (.getfield 73, 3) := by decide +kernel
theorem dX6_hour_4 : decode cX6_hour 4 = .ok (.ifCond .ne 6, 3) := by decide +kernel
theorem dX6_hour_7 : decode cX6_hour 7 = .ok (.bipush (-103), 2) := by decide +kernel
theorem dX6_hour_9 : decode cX6_hour 9 = .ok (.ireturn, 1) := by decide +kernel
theorem dX6_hour_10 : decode cX6_hour 10 = .ok (.aload_n 0, 1) := by decide +kernel
theorem dX6_hour_11 : decode cX6_hour 11 = .ok (.dup, 1) := by decide +kernel
theorem dX6_hour_12 : decode cX6_hour 12 = .ok (.getfield 82, 3) := by decide +kernel
theorem dX6_hour_15 : decode cX6_hour 15 = .ok (.iconst 1, 1) := by decide +kernel
theorem dX6_hour_16 : decode cX6_hour 16 = .ok (.iadd, 1) := by decide +kernel
theorem dX6_hour_17 : decode cX6_hour 17 = .ok (.putfield 82, 3) := by decide +kernel
theorem dX6_hour_20 : decode cX6_hour 20 = .ok (.aload_n 0, 1) := by decide +kernel
theorem dX6_hour_21 : decode cX6_hour 21 = .ok (.getfield 82, 3) := by decide +kernel
theorem dX6_hour_24 : decode cX6_hour 24 = .ok (.ireturn, 1) := by decide +kernel
theorem dX6_save_0 : decode cX6_save 0 = .ok (.iconst 0, 1) := by decide +kernel
theorem dX6_save_1 : decode cX6_save 1 = .ok (.istore_n 1, 1) := by decide +kernel
theorem dX6_save_2 : decode cX6_save 2 = .ok (.iload_n 1, 1) := by decide +kernel
theorem dX6_save_3 : decode cX6_save 3 = .ok (.iconst 4, 1) := by decide +kernel
theorem dX6_save_4 : decode cX6_save 4 = .ok (.if_icmp .ge 21, 3) := by decide +kernel
theorem dX6_save_7 : decode cX6_save 7 = .ok (.aload_n 0, 1) := by decide +kernel
theorem dX6_save_8 : decode cX6_save 8 = .ok (.getfield 38, 3) := by decide +kernel
theorem dX6_save_11 : decode cX6_save 11 = .ok (.iload_n 1, 1) := by decide +kernel
theorem dX6_save_12 : decode cX6_save 12 = .ok (.aload_n 0, 1) := by decide +kernel
theorem dX6_save_13 : decode cX6_save 13 = .ok (.getfield 13, 3) := by decide +kernel
theorem dX6_save_16 : decode cX6_save 16 = .ok (.iload_n 1, 1) := by decide +kernel
theorem dX6_save_17 : decode cX6_save 17 = .ok (.iaload, 1) := by decide +kernel
theorem dX6_save_18 : decode cX6_save 18 = .ok (.iastore, 1) := by decide +kernel
theorem dX6_save_19 : decode cX6_save 19 = .ok (.iinc 1 1, 3) := by decide +kernel
theorem dX6_save_22 : decode cX6_save 22 = .ok (.goto (-20), 3) := by decide +kernel
theorem dX6_save_25 : decode cX6_save 25 = .ok (.return_, 1) := by decide +kernel
theorem dX6_load_0 : decode cX6_load 0 = .ok (.iconst 0, 1) := by decide +kernel
theorem dX6_load_1 : decode cX6_load 1 = .ok (.istore_n 1, 1) := by decide +kernel
theorem dX6_load_2 : decode cX6_load 2 = .ok (.iload_n 1, 1) := by decide +kernel
theorem dX6_load_3 : decode cX6_load 3 = .ok (.iconst 4, 1) := by decide +kernel
theorem dX6_load_4 : decode cX6_load 4 = .ok (.if_icmp .ge 21, 3) := by decide +kernel
theorem dX6_load_7 : decode cX6_load 7 = .ok (.aload_n 0, 1) := by decide +kernel
theorem dX6_load_8 : decode cX6_load 8 = .ok (.getfield 13, 3) := by decide +kernel
theorem dX6_load_11 : decode cX6_load 11 = .ok (.iload_n 1, 1) := by decide +kernel
theorem dX6_load_12 : decode cX6_load 12 = .ok (.aload_n 0, 1) := by decide +kernel
theorem dX6_load_13 : decode cX6_load 13 = .ok (.getfield 38, 3) := by decide +kernel
theorem dX6_load_16 : decode cX6_load 16 = .ok (.iload_n 1, 1) := by decide +kernel
theorem dX6_load_17 : decode cX6_load 17 = .ok (.iaload, 1) := by decide +kernel
theorem dX6_load_18 : decode cX6_load 18 = .ok (.iastore, 1) := by decide +kernel
theorem dX6_load_19 : decode cX6_load 19 = .ok (.iinc 1 1, 3) := by decide +kernel
theorem dX6_load_22 : decode cX6_load 22 = .ok (.goto (-20), 3) := by decide +kernel
theorem dX6_load_25 : decode cX6_load 25 = .ok (.return_, 1) := by decide +kernel
set_option maxRecDepth 20000 in
theorem ggX6_paidBy_X6_isSale : GoodIn wsX6_paidBy wsX6_isSale := goodIn_r _ [8, 9, 10, 11, 7, 12, 13, 14, 15, 16, 33, 34, 35, 36, 37, 38, 39, 40, 41, 42, 43, 44, 45, 46, 47, 48, 49, 50, 51, 52, 53, 54, 55, 56, 57, 58, 59, 60, 61, 62] (by decide +kernel) (by decide +kernel)
set_option maxRecDepth 20000 in
theorem gX6_paidBy_X6_isSale : GoodIn wsX6_paidBy (wsV RX6 102 RX6 yX6_isSale wsX6_isSale) := goodIn_app (goodIn_of _ (by decide +kernel)) ggX6_paidBy_X6_isSale
set_option maxRecDepth 20000 in
theorem ggX6_paidBy_X6_ounces : GoodIn wsX6_paidBy wsX6_ounces := goodIn_r _ [20, 21, 22, 23, 33, 34, 35, 36, 37, 38, 39, 40, 41, 42, 43, 44, 45, 46, 47, 48, 49, 50, 51, 52, 53, 54, 55, 56, 57, 58, 59, 60, 61, 62] (by decide +kernel) (by decide +kernel)
set_option maxRecDepth 20000 in
theorem gX6_paidBy_X6_ounces : GoodIn wsX6_paidBy (wsV RX6 105 RX6 yX6_ounces wsX6_ounces) := goodIn_app (goodIn_of _ (by decide +kernel)) ggX6_paidBy_X6_ounces
set_option maxRecDepth 20000 in
theorem ggX6_paidBy_X6_wear : GoodIn wsX6_paidBy wsX6_wear := goodIn_r _ [27, 23, 21, 33, 34, 35, 36, 37, 38, 39, 40, 41, 42, 43, 44, 45, 46, 47, 48, 49, 50, 51, 52, 53, 54, 55, 56, 57, 58, 59, 60, 61, 62] (by decide +kernel) (by decide +kernel)
set_option maxRecDepth 20000 in
theorem gX6_paidBy_X6_wear : GoodIn wsX6_paidBy (wsV RX6 109 RX6 yX6_wear wsX6_wear) := goodIn_app (goodIn_of _ (by decide +kernel)) ggX6_paidBy_X6_wear
set_option maxRecDepth 20000 in
theorem ggX6_paidBy_X6_load : GoodIn wsX6_paidBy wsX6_load := goodIn_r _ [31, 21, 32, 33, 34, 35, 36, 37, 38, 39, 40, 41, 42, 43, 44, 45, 46, 47, 48, 49, 50, 51, 52, 53, 54, 55, 56, 57, 58, 59, 60, 61, 62] (by decide +kernel) (by decide +kernel)
set_option maxRecDepth 20000 in
theorem gX6_paidBy_X6_load : GoodIn wsX6_paidBy (wsV RX6 113 RX6 yX6_load wsX6_load) := goodIn_app (goodIn_of _ (by decide +kernel)) ggX6_paidBy_X6_load
theorem dX6_paidBy_0 : decode cX6_paidBy 0 = .ok (.iconst 0, 1) := by decide +kernel
theorem dX6_paidBy_1 : decode cX6_paidBy 1 = .ok (.istore 5, 2) := by decide +kernel
theorem dX6_paidBy_3 : decode cX6_paidBy 3 = .ok (.iconst 0, 1) := by decide +kernel
theorem dX6_paidBy_4 : decode cX6_paidBy 4 = .ok (.istore 6, 2) := by decide +kernel
theorem dX6_paidBy_6 : decode cX6_paidBy 6 = .ok (.iconst 1, 1) := by decide +kernel
theorem dX6_paidBy_7 : decode cX6_paidBy 7 = .ok (.istore 7, 2) := by decide +kernel
theorem dX6_paidBy_9 : decode cX6_paidBy 9 = .ok (.iload_n 3, 1) := by decide +kernel
theorem dX6_paidBy_10 : decode cX6_paidBy 10 = .ok (.iconst 1, 1) := by decide +kernel
theorem dX6_paidBy_11 : decode cX6_paidBy 11 = .ok (.isub, 1) := by decide +kernel
theorem dX6_paidBy_12 : decode cX6_paidBy 12 = .ok (.istore 8, 2) := by decide +kernel
theorem dX6_paidBy_14 : decode cX6_paidBy 14 = .ok (.iload 8, 2) := by decide +kernel
theorem dX6_paidBy_16 : decode cX6_paidBy 16 = .ok (.ifCond .lt 98, 3) := by decide +kernel
theorem dX6_paidBy_19 : decode cX6_paidBy 19 = .ok (.iload 4, 2) := by decide +kernel
theorem dX6_paidBy_21 : decode cX6_paidBy 21 = .ok (.iconst 4, 1) := by decide +kernel
theorem dX6_paidBy_22 : decode cX6_paidBy 22 = .ok (.iload 8, 2) := by decide +kernel
theorem dX6_paidBy_24 : decode cX6_paidBy 24 = .ok (.imul, 1) := by decide +kernel
theorem dX6_paidBy_25 : decode cX6_paidBy 25 = .ok (.ishr, 1) := by decide +kernel
theorem dX6_paidBy_26 : decode cX6_paidBy 26 = .ok (.bipush 15, 2) := by decide +kernel
theorem dX6_paidBy_28 : decode cX6_paidBy 28 = .ok (.iand, 1) := by decide +kernel
theorem dX6_paidBy_29 : decode cX6_paidBy 29 = .ok (.istore 9, 2) := by decide +kernel
theorem dX6_paidBy_31 : decode cX6_paidBy 31 = .ok (.iload 9, 2) := by decide +kernel
theorem dX6_paidBy_33 : decode cX6_paidBy 33 = .ok (.iconst 4, 1) := by decide +kernel
theorem dX6_paidBy_34 : decode cX6_paidBy 34 = .ok (.idiv, 1) := by decide +kernel
theorem dX6_paidBy_35 : decode cX6_paidBy 35 = .ok (.istore 10, 2) := by decide +kernel
theorem dX6_paidBy_37 : decode cX6_paidBy 37 = .ok (.iload 9, 2) := by decide +kernel
theorem dX6_paidBy_39 : decode cX6_paidBy 39 = .ok (.iconst 4, 1) := by decide +kernel
theorem dX6_paidBy_40 : decode cX6_paidBy 40 = .ok (.irem, 1) := by decide +kernel
theorem dX6_paidBy_41 : decode cX6_paidBy 41 = .ok (.istore 11, 2) := by decide +kernel
theorem dX6_paidBy_43 : decode cX6_paidBy 43 = .ok (.iload 7, 2) := by decide +kernel
theorem dX6_paidBy_45 : decode cX6_paidBy 45 = .ok (.ifCond .eq 19, 3) := by decide +kernel
theorem dX6_paidBy_48 : decode cX6_paidBy 48 = .ok (.aload_n 0, 1) := by decide +kernel
theorem dX6_paidBy_49 : decode cX6_paidBy 49 = .ok (.iload_n 1, 1) := by decide +kernel
theorem dX6_paidBy_50 : decode cX6_paidBy 50 = .ok (.iload 10, 2) := by decide +kernel
theorem dX6_paidBy_52 : decode cX6_paidBy 52 = .ok (.iload 11, 2) := by decide +kernel
theorem dX6_paidBy_54 : decode cX6_paidBy 54 = .ok (.invokevirtual 102, 3) := by decide +kernel
theorem dX6_paidBy_57 : decode cX6_paidBy 57 = .ok (.ifCond .eq 7, 3) := by decide +kernel
theorem dX6_paidBy_60 : decode cX6_paidBy 60 = .ok (.iconst 1, 1) := by decide +kernel
theorem dX6_paidBy_61 : decode cX6_paidBy 61 = .ok (.goto 4, 3) := by decide +kernel
theorem dX6_paidBy_64 : decode cX6_paidBy 64 = .ok (.iconst 0, 1) := by decide +kernel
theorem dX6_paidBy_65 : decode cX6_paidBy 65 = .ok (.istore 7, 2) := by decide +kernel
theorem dX6_paidBy_67 : decode cX6_paidBy 67 = .ok (.iload 7, 2) := by decide +kernel
theorem dX6_paidBy_69 : decode cX6_paidBy 69 = .ok (.ifCond .eq 39, 3) := by decide +kernel
theorem dX6_paidBy_72 : decode cX6_paidBy 72 = .ok (.iload 5, 2) := by decide +kernel
theorem dX6_paidBy_74 : decode cX6_paidBy 74 = .ok (.aload_n 0, 1) := by decide +kernel
theorem dX6_paidBy_75 : decode cX6_paidBy 75 = .ok (.iload_n 1, 1) := by decide +kernel
theorem dX6_paidBy_76 : decode cX6_paidBy 76 = .ok (.iload 11, 2) := by decide +kernel
theorem dX6_paidBy_78 : decode cX6_paidBy 78 = .ok (.aload_n 0, 1) := by decide +kernel
theorem dX6_paidBy_79 : decode cX6_paidBy 79 = .ok (.getfield 82, 3) := by decide +kernel
theorem dX6_paidBy_82 : decode cX6_paidBy 82 = .ok (.invokevirtual 105, 3) := by decide +kernel
theorem dX6_paidBy_85 : decode cX6_paidBy 85 = .ok (.iadd, 1) := by decide +kernel
theorem dX6_paidBy_86 : decode cX6_paidBy 86 = .ok (.istore 5, 2) := by decide +kernel
theorem dX6_paidBy_88 : decode cX6_paidBy 88 = .ok (.iload 6, 2) := by decide +kernel
theorem dX6_paidBy_90 : decode cX6_paidBy 90 = .ok (.aload_n 0, 1) := by decide +kernel
theorem dX6_paidBy_91 : decode cX6_paidBy 91 = .ok (.getfield 16, 3) := by decide +kernel
theorem dX6_paidBy_94 : decode cX6_paidBy 94 = .ok (.iload 10, 2) := by decide +kernel
theorem dX6_paidBy_96 : decode cX6_paidBy 96 = .ok (.iaload, 1) := by decide +kernel
theorem dX6_paidBy_97 : decode cX6_paidBy 97 = .ok (.iadd, 1) := by decide +kernel
theorem dX6_paidBy_98 : decode cX6_paidBy 98 = .ok (.istore 6, 2) := by decide +kernel
theorem dX6_paidBy_100 : decode cX6_paidBy 100 = .ok (.aload_n 0, 1) := by decide +kernel
theorem dX6_paidBy_101 : decode cX6_paidBy 101 = .ok (.iload 10, 2) := by decide +kernel
theorem dX6_paidBy_103 : decode cX6_paidBy 103 = .ok (.iload 11, 2) := by decide +kernel
theorem dX6_paidBy_105 : decode cX6_paidBy 105 = .ok (.invokevirtual 109, 3) := by decide +kernel
theorem dX6_paidBy_108 : decode cX6_paidBy 108 = .ok (.iinc 8 (-1), 3) := by decide +kernel
theorem dX6_paidBy_111 : decode cX6_paidBy 111 = .ok (.goto (-97), 3) := by decide +kernel
theorem dX6_paidBy_114 : decode cX6_paidBy 114 = .ok (.aload_n 0, 1) := by decide +kernel
theorem dX6_paidBy_115 : decode cX6_paidBy 115 = .ok (.invokevirtual 113, 3) := by decide +kernel
theorem dX6_paidBy_118 : decode cX6_paidBy 118 = .ok (.iload 7, 2) := by decide +kernel
theorem dX6_paidBy_120 : decode cX6_paidBy 120 = .ok (.ifCond .eq 14, 3) := by decide +kernel
theorem dX6_paidBy_123 : decode cX6_paidBy 123 = .ok (.iload 5, 2) := by decide +kernel
theorem dX6_paidBy_125 : decode cX6_paidBy 125 = .ok (.iload_n 2, 1) := by decide +kernel
theorem dX6_paidBy_126 : decode cX6_paidBy 126 = .ok (.if_icmp .lt 8, 3) := by decide +kernel
theorem dX6_paidBy_129 : decode cX6_paidBy 129 = .ok (.iload 6, 2) := by decide +kernel
theorem dX6_paidBy_131 : decode cX6_paidBy 131 = .ok (.goto 5, 3) := by decide +kernel
theorem dX6_paidBy_134 : decode cX6_paidBy 134 = .ok (.ldc 116, 2) := by decide +kernel
theorem dX6_paidBy_136 : decode cX6_paidBy 136 = .ok (.ireturn, 1) := by decide +kernel
set_option maxRecDepth 20000 in
theorem ggX6_planNow_X6_save : GoodIn wsX6_planNow wsX6_save := goodIn_r _ [6, 7, 8, 41, 42, 43, 44, 45, 46, 47, 48, 49, 50, 51, 52, 53, 54, 55, 56, 57, 58, 59, 60, 61, 62, 63, 64, 65, 66, 67, 68, 69, 70] (by decide +kernel) (by decide +kernel)
set_option maxRecDepth 20000 in
theorem gX6_planNow_X6_save : GoodIn wsX6_planNow (wsV RX6 117 RX6 yX6_save wsX6_save) := goodIn_app (goodIn_of _ (by decide +kernel)) ggX6_planNow_X6_save
set_option maxRecDepth 20000 in
theorem ggX6_planNow_X6_paidBy : GoodIn wsX6_planNow wsX6_paidBy := goodIn_r _ [12, 13, 14, 1, 15, 16, 17, 5, 18, 19, 20, 21, 22, 23, 24, 25, 26, 27, 28, 29, 30, 8, 31, 32, 33, 34, 35, 36, 37, 38, 39, 40, 7, 41, 42, 43, 44, 45, 46, 47, 48, 49, 50, 51, 52, 53, 54, 55, 56, 57, 58, 59, 60, 61, 62, 63, 64, 65, 66, 67, 68, 69, 70] (by decide +kernel) (by decide +kernel)
set_option maxRecDepth 20000 in
theorem gX6_planNow_X6_paidBy : GoodIn wsX6_planNow (wsV RX6 120 RX6 yX6_paidBy wsX6_paidBy) := goodIn_app (goodIn_of _ (by decide +kernel)) ggX6_planNow_X6_paidBy
theorem dX6_planNow_0 : decode cX6_planNow 0 = .ok (.aload_n 0, 1) := by decide +kernel
theorem dX6_planNow_1 : decode cX6_planNow 1 = .ok (.invokevirtual 117, 3) := by decide +kernel
theorem dX6_planNow_4 : decode cX6_planNow 4 = .ok (.iconst (-1), 1) := by decide +kernel
theorem dX6_planNow_5 : decode cX6_planNow 5 = .ok (.istore 4, 2) := by decide +kernel
theorem dX6_planNow_7 : decode cX6_planNow 7 = .ok (.iconst 0, 1) := by decide +kernel
theorem dX6_planNow_8 : decode cX6_planNow 8 = .ok (.istore 5, 2) := by decide +kernel
theorem dX6_planNow_10 : decode cX6_planNow 10 = .ok (.ldc 116, 2) := by decide +kernel
theorem dX6_planNow_12 : decode cX6_planNow 12 = .ok (.istore 6, 2) := by decide +kernel
theorem dX6_planNow_14 : decode cX6_planNow 14 = .ok (.iconst 1, 1) := by decide +kernel
theorem dX6_planNow_15 : decode cX6_planNow 15 = .ok (.istore 7, 2) := by decide +kernel
theorem dX6_planNow_17 : decode cX6_planNow 17 = .ok (.iload 7, 2) := by decide +kernel
theorem dX6_planNow_19 : decode cX6_planNow 19 = .ok (.iconst 3, 1) := by decide +kernel
theorem dX6_planNow_20 : decode cX6_planNow 20 = .ok (.if_icmp .gt 89, 3) := by decide +kernel
theorem dX6_planNow_23 : decode cX6_planNow 23 = .ok (.iconst 0, 1) := by decide +kernel
theorem dX6_planNow_24 : decode cX6_planNow 24 = .ok (.istore 8, 2) := by decide +kernel
theorem dX6_planNow_26 : decode cX6_planNow 26 = .ok (.iload 8, 2) := by decide +kernel
theorem dX6_planNow_28 : decode cX6_planNow 28 = .ok (.iconst 1, 1) := by decide +kernel
theorem dX6_planNow_29 : decode cX6_planNow 29 = .ok (.iconst 4, 1) := by decide +kernel
theorem dX6_planNow_30 : decode cX6_planNow 30 = .ok (.iload 7, 2) := by decide +kernel
theorem dX6_planNow_32 : decode cX6_planNow 32 = .ok (.imul, 1) := by decide +kernel
theorem dX6_planNow_33 : decode cX6_planNow 33 = .ok (.ishl, 1) := by decide +kernel
theorem dX6_planNow_34 : decode cX6_planNow 34 = .ok (.if_icmp .ge 69, 3) := by decide +kernel
theorem dX6_planNow_37 : decode cX6_planNow 37 = .ok (.aload_n 0, 1) := by decide +kernel
theorem dX6_planNow_38 : decode cX6_planNow 38 = .ok (.iload_n 1, 1) := by decide +kernel
theorem dX6_planNow_39 : decode cX6_planNow 39 = .ok (.iload_n 2, 1) := by decide +kernel
theorem dX6_planNow_40 : decode cX6_planNow 40 = .ok (.iload 7, 2) := by decide +kernel
theorem dX6_planNow_42 : decode cX6_planNow 42 = .ok (.iload 8, 2) := by decide +kernel
theorem dX6_planNow_44 : decode cX6_planNow 44 = .ok (.invokevirtual 120, 3) := by decide +kernel
theorem dX6_planNow_47 : decode cX6_planNow 47 = .ok (.istore 9, 2) := by decide +kernel
theorem dX6_planNow_49 : decode cX6_planNow 49 = .ok (.iload 9, 2) := by decide +kernel
theorem dX6_planNow_51 : decode cX6_planNow 51 = .ok (.iload 6, 2) := by decide +kernel
theorem dX6_planNow_53 : decode cX6_planNow 53 = .ok (.if_icmp .ge 8, 3) := by decide +kernel
theorem dX6_planNow_56 : decode cX6_planNow 56 = .ok (.iload 8, 2) := by decide +kernel
theorem dX6_planNow_58 : decode cX6_planNow 58 = .ok (.goto 5, 3) := by decide +kernel
theorem dX6_planNow_61 : decode cX6_planNow 61 = .ok (.iload 4, 2) := by decide +kernel
theorem dX6_planNow_63 : decode cX6_planNow 63 = .ok (.istore 4, 2) := by decide +kernel
theorem dX6_planNow_65 : decode cX6_planNow 65 = .ok (.iload 9, 2) := by decide +kernel
theorem dX6_planNow_67 : decode cX6_planNow 67 = .ok (.iload 6, 2) := by decide +kernel
theorem dX6_planNow_69 : decode cX6_planNow 69 = .ok (.if_icmp .ge 8, 3) := by decide +kernel
theorem dX6_planNow_72 : decode cX6_planNow 72 = .ok (.iload 7, 2) := by decide +kernel
theorem dX6_planNow_74 : decode cX6_planNow 74 = .ok (.goto 5, 3) := by decide +kernel
theorem dX6_planNow_77 : decode cX6_planNow 77 = .ok (.iload 5, 2) := by decide +kernel
theorem dX6_planNow_79 : decode cX6_planNow 79 = .ok (.istore 5, 2) := by decide +kernel
theorem dX6_planNow_81 : decode cX6_planNow 81 = .ok (.iload 9, 2) := by decide +kernel
theorem dX6_planNow_83 : decode cX6_planNow 83 = .ok (.iload 6, 2) := by decide +kernel
theorem dX6_planNow_85 : decode cX6_planNow 85 = .ok (.if_icmp .ge 8, 3) := by decide +kernel
theorem dX6_planNow_88 : decode cX6_planNow 88 = .ok (.iload 9, 2) := by decide +kernel
theorem dX6_planNow_90 : decode cX6_planNow 90 = .ok (.goto 5, 3) := by decide +kernel
theorem dX6_planNow_93 : decode cX6_planNow 93 = .ok (.iload 6, 2) := by decide +kernel
theorem dX6_planNow_95 : decode cX6_planNow 95 = .ok (.istore 6, 2) := by decide +kernel
theorem dX6_planNow_97 : decode cX6_planNow 97 = .ok (.iinc 8 1, 3) := by decide +kernel
theorem dX6_planNow_100 : decode cX6_planNow 100 = .ok (.goto (-74), 3) := by decide +kernel
theorem dX6_planNow_103 : decode cX6_planNow 103 = .ok (.iinc 7 1, 3) := by decide +kernel
theorem dX6_planNow_106 : decode cX6_planNow 106 = .ok (.goto (-89), 3) := by decide +kernel
theorem dX6_planNow_109 : decode cX6_planNow 109 = .ok (.iload 4, 2) := by decide +kernel
theorem dX6_planNow_111 : decode cX6_planNow 111 = .ok (.iconst (-1), 1) := by decide +kernel
theorem dX6_planNow_112 : decode cX6_planNow 112 = .ok (.if_icmp .eq 7, 3) := by decide +kernel
theorem dX6_planNow_115 : decode cX6_planNow 115 = .ok (.iload_n 3, 1) := by decide +kernel
theorem dX6_planNow_116 : decode cX6_planNow 116 = .ok (.ifCond .ne 16, 3) := by decide +kernel
theorem dX6_planNow_119 : decode cX6_planNow 119 = .ok (.iload 4, 2) := by decide +kernel
theorem dX6_planNow_121 : decode cX6_planNow 121 = .ok (.iconst (-1), 1) := by decide +kernel
theorem dX6_planNow_122 : decode cX6_planNow 122 = .ok (.if_icmp .ne 7, 3) := by decide +kernel
theorem dX6_planNow_125 : decode cX6_planNow 125 = .ok (.iconst (-1), 1) := by decide +kernel
theorem dX6_planNow_126 : decode cX6_planNow 126 = .ok (.goto 5, 3) := by decide +kernel
theorem dX6_planNow_129 : decode cX6_planNow 129 = .ok (.iload 6, 2) := by decide +kernel
theorem dX6_planNow_131 : decode cX6_planNow 131 = .ok (.ireturn, 1) := by decide +kernel
theorem dX6_planNow_132 : decode cX6_planNow 132 = .ok (.iload_n 3, 1) := by decide +kernel
theorem dX6_planNow_133 : decode cX6_planNow 133 = .ok (.iconst 1, 1) := by decide +kernel
theorem dX6_planNow_134 : decode cX6_planNow 134 = .ok (.if_icmp .ne 6, 3) := by decide +kernel
theorem dX6_planNow_137 : decode cX6_planNow 137 = .ok (.iload 5, 2) := by decide +kernel
theorem dX6_planNow_139 : decode cX6_planNow 139 = .ok (.ireturn, 1) := by decide +kernel
theorem dX6_planNow_140 : decode cX6_planNow 140 = .ok (.iload_n 3, 1) := by decide +kernel
theorem dX6_planNow_141 : decode cX6_planNow 141 = .ok (.bipush 10, 2) := by decide +kernel
theorem dX6_planNow_143 : decode cX6_planNow 143 = .ok (.isub, 1) := by decide +kernel
theorem dX6_planNow_144 : decode cX6_planNow 144 = .ok (.iload 5, 2) := by decide +kernel
theorem dX6_planNow_146 : decode cX6_planNow 146 = .ok (.if_icmp .ge 23, 3) := by decide +kernel
theorem dX6_planNow_149 : decode cX6_planNow 149 = .ok (.iload 4, 2) := by decide +kernel
theorem dX6_planNow_151 : decode cX6_planNow 151 = .ok (.iconst 4, 1) := by decide +kernel
theorem dX6_planNow_152 : decode cX6_planNow 152 = .ok (.iload 5, 2) := by decide +kernel
theorem dX6_planNow_154 : decode cX6_planNow 154 = .ok (.iconst 1, 1) := by decide +kernel
theorem dX6_planNow_155 : decode cX6_planNow 155 = .ok (.isub, 1) := by decide +kernel
theorem dX6_planNow_156 : decode cX6_planNow 156 = .ok (.iload_n 3, 1) := by decide +kernel
theorem dX6_planNow_157 : decode cX6_planNow 157 = .ok (.bipush 10, 2) := by decide +kernel
theorem dX6_planNow_159 : decode cX6_planNow 159 = .ok (.isub, 1) := by decide +kernel
theorem dX6_planNow_160 : decode cX6_planNow 160 = .ok (.isub, 1) := by decide +kernel
theorem dX6_planNow_161 : decode cX6_planNow 161 = .ok (.imul, 1) := by decide +kernel
theorem dX6_planNow_162 : decode cX6_planNow 162 = .ok (.ishr, 1) := by decide +kernel
theorem dX6_planNow_163 : decode cX6_planNow 163 = .ok (.bipush 15, 2) := by decide +kernel
theorem dX6_planNow_165 : decode cX6_planNow 165 = .ok (.iand, 1) := by decide +kernel
theorem dX6_planNow_166 : decode cX6_planNow 166 = .ok (.goto 4, 3) := by decide +kernel
theorem dX6_planNow_169 : decode cX6_planNow 169 = .ok (.iconst (-1), 1) := by decide +kernel
theorem dX6_planNow_170 : decode cX6_planNow 170 = .ok (.istore 7, 2) := by decide +kernel
theorem dX6_planNow_172 : decode cX6_planNow 172 = .ok (.iload 7, 2) := by decide +kernel
theorem dX6_planNow_174 : decode cX6_planNow 174 = .ok (.iconst (-1), 1) := by decide +kernel
theorem dX6_planNow_175 : decode cX6_planNow 175 = .ok (.if_icmp .ne 7, 3) := by decide +kernel
theorem dX6_planNow_178 : decode cX6_planNow 178 = .ok (.iconst (-1), 1) := by decide +kernel
theorem dX6_planNow_179 : decode cX6_planNow 179 = .ok (.goto 15, 3) := by decide +kernel
theorem dX6_planNow_182 : decode cX6_planNow 182 = .ok (.bipush 10, 2) := by decide +kernel
theorem dX6_planNow_184 : decode cX6_planNow 184 = .ok (.iload 7, 2) := by decide +kernel
theorem dX6_planNow_186 : decode cX6_planNow 186 = .ok (.iconst 4, 1) := by decide +kernel
theorem dX6_planNow_187 : decode cX6_planNow 187 = .ok (.idiv, 1) := by decide +kernel
theorem dX6_planNow_188 : decode cX6_planNow 188 = .ok (.imul, 1) := by decide +kernel
theorem dX6_planNow_189 : decode cX6_planNow 189 = .ok (.iload 7, 2) := by decide +kernel
theorem dX6_planNow_191 : decode cX6_planNow 191 = .ok (.iconst 4, 1) := by decide +kernel
theorem dX6_planNow_192 : decode cX6_planNow 192 = .ok (.irem, 1) := by decide +kernel
theorem dX6_planNow_193 : decode cX6_planNow 193 = .ok (.iadd, 1) := by decide +kernel
theorem dX6_planNow_194 : decode cX6_planNow 194 = .ok (.ireturn, 1) := by decide +kernel
set_option maxRecDepth 20000 in
theorem ggX6_plan_X6_isHouse : GoodIn wsX6_plan wsX6_isHouse := goodIn_r _ [6, 7, 8, 9, 5, 10, 46, 47, 48, 49, 50, 51, 52, 53, 54, 55, 56, 57, 58, 59, 60, 61, 62, 63, 64, 65, 66, 67, 68, 69, 70, 71, 72, 73, 74, 75] (by decide +kernel) (by decide +kernel)
set_option maxRecDepth 20000 in
theorem gX6_plan_X6_isHouse : GoodIn wsX6_plan (wsV RX6 94 RX6 yX6_isHouse wsX6_isHouse) := goodIn_app (goodIn_of _ (by decide +kernel)) ggX6_plan_X6_isHouse
set_option maxRecDepth 20000 in
theorem ggX6_plan_X6_within : GoodIn wsX6_plan wsX6_within := goodIn_r _ [10] (by decide +kernel) (by decide +kernel)
set_option maxRecDepth 20000 in
theorem gX6_plan_X6_within : GoodIn wsX6_plan (va_wsS RX6 44 yX6_within wsX6_within) := goodIn_app (goodIn_of _ (by decide +kernel)) ggX6_plan_X6_within
set_option maxRecDepth 20000 in
theorem ggX6_plan_X6_planNow : GoodIn wsX6_plan wsX6_planNow := goodIn_r _ [14, 15, 16, 17, 18, 5, 19, 20, 21, 22, 23, 24, 25, 26, 27, 28, 29, 30, 31, 2, 3, 4, 6, 7, 8, 9, 10, 32, 33, 34, 35, 36, 37, 38, 39, 40, 41, 42, 43, 44, 45, 46, 47, 48, 49, 50, 51, 52, 53, 54, 55, 56, 57, 58, 59, 60, 61, 62, 63, 64, 65, 66, 67, 68, 69, 70, 71, 72, 73, 74, 75] (by decide +kernel) (by decide +kernel)
set_option maxRecDepth 20000 in
theorem gX6_plan_X6_planNow : GoodIn wsX6_plan (wsV RX6 127 RX6 yX6_planNow wsX6_planNow) := goodIn_app (goodIn_of _ (by decide +kernel)) ggX6_plan_X6_planNow
theorem dX6_plan_0 : decode cX6_plan 0 = .ok (.aload_n 0, 1) := by decide +kernel
theorem dX6_plan_1 : decode cX6_plan 1 = .ok (.iload_n 1, 1) := by decide +kernel
theorem dX6_plan_2 : decode cX6_plan 2 = .ok (.invokevirtual 94, 3) := by decide +kernel
theorem dX6_plan_5 : decode cX6_plan 5 = .ok (.ifCond .ne 6, 3) := by decide +kernel
theorem dX6_plan_8 : decode cX6_plan 8 = .ok (.bipush (-101), 2) := by decide +kernel
theorem dX6_plan_10 : decode cX6_plan 10 = .ok (.ireturn, 1) := by decide +kernel
theorem dX6_plan_11 : decode cX6_plan 11 = .ok (.iload_n 2, 1) := by decide +kernel
theorem dX6_plan_12 : decode cX6_plan 12 = .ok (.iconst 1, 1) := by decide +kernel
theorem dX6_plan_13 : decode cX6_plan 13 = .ok (.bipush 60, 2) := by decide +kernel
theorem dX6_plan_15 : decode cX6_plan 15 = .ok (.invokestatic 44, 3) := by decide +kernel
theorem dX6_plan_18 : decode cX6_plan 18 = .ok (.ifCond .eq 23, 3) := by decide +kernel
theorem dX6_plan_21 : decode cX6_plan 21 = .ok (.iload_n 3, 1) := by decide +kernel
theorem dX6_plan_22 : decode cX6_plan 22 = .ok (.iconst 0, 1) := by decide +kernel
theorem dX6_plan_23 : decode cX6_plan 23 = .ok (.iconst 1, 1) := by decide +kernel
theorem dX6_plan_24 : decode cX6_plan 24 = .ok (.invokestatic 44, 3) := by decide +kernel
theorem dX6_plan_27 : decode cX6_plan 27 = .ok (.ifCond .ne 17, 3) := by decide +kernel
theorem dX6_plan_30 : decode cX6_plan 30 = .ok (.iload_n 3, 1) := by decide +kernel
theorem dX6_plan_31 : decode cX6_plan 31 = .ok (.bipush 10, 2) := by decide +kernel
theorem dX6_plan_33 : decode cX6_plan 33 = .ok (.bipush 12, 2) := by decide +kernel
theorem dX6_plan_35 : decode cX6_plan 35 = .ok (.invokestatic 44, 3) := by decide +kernel
theorem dX6_plan_38 : decode cX6_plan 38 = .ok (.ifCond .ne 6, 3) := by decide +kernel
theorem dX6_plan_41 : decode cX6_plan 41 = .ok (.bipush (-102), 2) := by decide +kernel
theorem dX6_plan_43 : decode cX6_plan 43 = .ok (.ireturn, 1) := by decide +kernel
theorem dX6_plan_44 : decode cX6_plan 44 = .ok (.aload_n 0, 1) := by decide +kernel
theorem dX6_plan_45 : decode cX6_plan 45 = .ok (.getfield 124, 3) := by decide +kernel
theorem dX6_plan_48 : decode cX6_plan 48 = .ok (.bipush 40, 2) := by decide +kernel
theorem dX6_plan_50 : decode cX6_plan 50 = .ok (.if_icmp .ne 6, 3) := by decide +kernel
theorem dX6_plan_53 : decode cX6_plan 53 = .ok (.bipush (-103), 2) := by decide +kernel
theorem dX6_plan_55 : decode cX6_plan 55 = .ok (.ireturn, 1) := by decide +kernel
theorem dX6_plan_56 : decode cX6_plan 56 = .ok (.aload_n 0, 1) := by decide +kernel
theorem dX6_plan_57 : decode cX6_plan 57 = .ok (.dup, 1) := by decide +kernel
theorem dX6_plan_58 : decode cX6_plan 58 = .ok (.getfield 124, 3) := by decide +kernel
theorem dX6_plan_61 : decode cX6_plan 61 = .ok (.iconst 1, 1) := by decide +kernel
theorem dX6_plan_62 : decode cX6_plan 62 = .ok (.iadd, 1) := by decide +kernel
theorem dX6_plan_63 : decode cX6_plan 63 = .ok (.putfield 124, 3) := by decide +kernel
theorem dX6_plan_66 : decode cX6_plan 66 = .ok (.aload_n 0, 1) := by decide +kernel
theorem dX6_plan_67 : decode cX6_plan 67 = .ok (.iload_n 1, 1) := by decide +kernel
theorem dX6_plan_68 : decode cX6_plan 68 = .ok (.iload_n 2, 1) := by decide +kernel
theorem dX6_plan_69 : decode cX6_plan 69 = .ok (.iload_n 3, 1) := by decide +kernel
theorem dX6_plan_70 : decode cX6_plan 70 = .ok (.invokevirtual 127, 3) := by decide +kernel
theorem dX6_plan_73 : decode cX6_plan 73 = .ok (.ireturn, 1) := by decide +kernel
set_option maxRecDepth 20000 in
theorem ggX6_fairNow_X6_ounces : GoodIn wsX6_fairNow wsX6_ounces := goodIn_r _ [8, 9, 10, 11, 12, 13, 14, 15, 16, 17, 18, 19, 20, 21, 22, 23, 24, 25, 26, 27, 28, 29, 30, 31, 32, 33, 34, 35, 36, 37, 38, 39, 40, 41] (by decide +kernel) (by decide +kernel)
set_option maxRecDepth 20000 in
theorem gX6_fairNow_X6_ounces : GoodIn wsX6_fairNow (wsV RX6 105 RX6 yX6_ounces wsX6_ounces) := goodIn_app (goodIn_of _ (by decide +kernel)) ggX6_fairNow_X6_ounces
theorem dX6_fairNow_0 : decode cX6_fairNow 0 = .ok (.aload_n 0, 1) := by decide +kernel
theorem dX6_fairNow_1 : decode cX6_fairNow 1 = .ok (.iload_n 2, 1) := by decide +kernel
theorem dX6_fairNow_2 : decode cX6_fairNow 2 = .ok (.iload_n 2, 1) := by decide +kernel
theorem dX6_fairNow_3 : decode cX6_fairNow 3 = .ok (.aload_n 0, 1) := by decide +kernel
theorem dX6_fairNow_4 : decode cX6_fairNow 4 = .ok (.getfield 82, 3) := by decide +kernel
theorem dX6_fairNow_7 : decode cX6_fairNow 7 = .ok (.invokevirtual 105, 3) := by decide +kernel
theorem dX6_fairNow_10 : decode cX6_fairNow 10 = .ok (.istore_n 3, 1) := by decide +kernel
theorem dX6_fairNow_11 : decode cX6_fairNow 11 = .ok (.iconst 1, 1) := by decide +kernel
theorem dX6_fairNow_12 : decode cX6_fairNow 12 = .ok (.istore 4, 2) := by decide +kernel
theorem dX6_fairNow_14 : decode cX6_fairNow 14 = .ok (.iconst 0, 1) := by decide +kernel
theorem dX6_fairNow_15 : decode cX6_fairNow 15 = .ok (.istore 5, 2) := by decide +kernel
theorem dX6_fairNow_17 : decode cX6_fairNow 17 = .ok (.iload 5, 2) := by decide +kernel
theorem dX6_fairNow_19 : decode cX6_fairNow 19 = .ok (.aload_n 0, 1) := by decide +kernel
theorem dX6_fairNow_20 : decode cX6_fairNow 20 = .ok (.getfield 73, 3) := by decide +kernel
theorem dX6_fairNow_23 : decode cX6_fairNow 23 = .ok (.if_icmp .ge 47, 3) := by decide +kernel
theorem dX6_fairNow_26 : decode cX6_fairNow 26 = .ok (.iload 4, 2) := by decide +kernel
theorem dX6_fairNow_28 : decode cX6_fairNow 28 = .ok (.ifCond .eq 33, 3) := by decide +kernel
theorem dX6_fairNow_31 : decode cX6_fairNow 31 = .ok (.iload 5, 2) := by decide +kernel
theorem dX6_fairNow_33 : decode cX6_fairNow 33 = .ok (.iload_n 2, 1) := by decide +kernel
theorem dX6_fairNow_34 : decode cX6_fairNow 34 = .ok (.if_icmp .eq 23, 3) := by decide +kernel
theorem dX6_fairNow_37 : decode cX6_fairNow 37 = .ok (.iload_n 3, 1) := by decide +kernel
theorem dX6_fairNow_38 : decode cX6_fairNow 38 = .ok (.aload_n 0, 1) := by decide +kernel
theorem dX6_fairNow_39 : decode cX6_fairNow 39 = .ok (.getfield 16, 3) := by decide +kernel
theorem dX6_fairNow_42 : decode cX6_fairNow 42 = .ok (.iload 5, 2) := by decide +kernel
theorem dX6_fairNow_44 : decode cX6_fairNow 44 = .ok (.iaload, 1) := by decide +kernel
theorem dX6_fairNow_45 : decode cX6_fairNow 45 = .ok (.imul, 1) := by decide +kernel
theorem dX6_fairNow_46 : decode cX6_fairNow 46 = .ok (.iload_n 3, 1) := by decide +kernel
theorem dX6_fairNow_47 : decode cX6_fairNow 47 = .ok (.aload_n 0, 1) := by decide +kernel
theorem dX6_fairNow_48 : decode cX6_fairNow 48 = .ok (.getfield 16, 3) := by decide +kernel
theorem dX6_fairNow_51 : decode cX6_fairNow 51 = .ok (.iload_n 1, 1) := by decide +kernel
theorem dX6_fairNow_52 : decode cX6_fairNow 52 = .ok (.iaload, 1) := by decide +kernel
theorem dX6_fairNow_53 : decode cX6_fairNow 53 = .ok (.imul, 1) := by decide +kernel
theorem dX6_fairNow_54 : decode cX6_fairNow 54 = .ok (.if_icmp .lt 7, 3) := by decide +kernel
theorem dX6_fairNow_57 : decode cX6_fairNow 57 = .ok (.iconst 1, 1) := by decide +kernel
theorem dX6_fairNow_58 : decode cX6_fairNow 58 = .ok (.goto 4, 3) := by decide +kernel
theorem dX6_fairNow_61 : decode cX6_fairNow 61 = .ok (.iconst 0, 1) := by decide +kernel
theorem dX6_fairNow_62 : decode cX6_fairNow 62 = .ok (.istore 4, 2) := by decide +kernel
theorem dX6_fairNow_64 : decode cX6_fairNow 64 = .ok (.iinc 5 1, 3) := by decide +kernel
theorem dX6_fairNow_67 : decode cX6_fairNow 67 = .ok (.goto (-50), 3) := by decide +kernel
theorem dX6_fairNow_70 : decode cX6_fairNow 70 = .ok (.iload 4, 2) := by decide +kernel
theorem dX6_fairNow_72 : decode cX6_fairNow 72 = .ok (.ifCond .eq 7, 3) := by decide +kernel
theorem dX6_fairNow_75 : decode cX6_fairNow 75 = .ok (.iconst 1, 1) := by decide +kernel
theorem dX6_fairNow_76 : decode cX6_fairNow 76 = .ok (.goto 4, 3) := by decide +kernel
theorem dX6_fairNow_79 : decode cX6_fairNow 79 = .ok (.iconst 0, 1) := by decide +kernel
theorem dX6_fairNow_80 : decode cX6_fairNow 80 = .ok (.ireturn, 1) := by decide +kernel
set_option maxRecDepth 20000 in
theorem ggX6_fair_X6_isHouse : GoodIn wsX6_fair wsX6_isHouse := goodIn_r _ [5, 6, 7, 8, 4, 9, 23, 24, 25, 26, 27, 28, 29, 30, 31, 32, 33, 34, 35, 36, 37, 38, 39, 40, 41, 42, 43, 44, 45, 46, 47, 48, 49, 50, 51, 52] (by decide +kernel) (by decide +kernel)
set_option maxRecDepth 20000 in
theorem gX6_fair_X6_isHouse : GoodIn wsX6_fair (wsV RX6 94 RX6 yX6_isHouse wsX6_isHouse) := goodIn_app (goodIn_of _ (by decide +kernel)) ggX6_fair_X6_isHouse
set_option maxRecDepth 20000 in
theorem ggX6_fair_X6_fairNow : GoodIn wsX6_fair wsX6_fairNow := goodIn_r _ [13, 14, 6, 15, 16, 17, 18, 4, 19, 20, 21, 22, 23, 24, 25, 26, 27, 28, 29, 30, 31, 32, 33, 34, 35, 36, 37, 38, 39, 40, 41, 42, 43, 44, 45, 46, 47, 48, 49, 50, 51, 52] (by decide +kernel) (by decide +kernel)
set_option maxRecDepth 20000 in
theorem gX6_fair_X6_fairNow : GoodIn wsX6_fair (wsV RX6 130 RX6 yX6_fairNow wsX6_fairNow) := goodIn_app (goodIn_of _ (by decide +kernel)) ggX6_fair_X6_fairNow
theorem dX6_fair_0 : decode cX6_fair 0 = .ok (.aload_n 0, 1) := by decide +kernel
theorem dX6_fair_1 : decode cX6_fair 1 = .ok (.iload_n 1, 1) := by decide +kernel
theorem dX6_fair_2 : decode cX6_fair 2 = .ok (.invokevirtual 94, 3) := by decide +kernel
theorem dX6_fair_5 : decode cX6_fair 5 = .ok (.ifCond .eq 25, 3) := by decide +kernel
theorem dX6_fair_8 : decode cX6_fair 8 = .ok (.aload_n 0, 1) := by decide +kernel
theorem dX6_fair_9 : decode cX6_fair 9 = .ok (.iload_n 2, 1) := by decide +kernel
theorem dX6_fair_10 : decode cX6_fair 10 = .ok (.invokevirtual 94, 3) := by decide +kernel
theorem dX6_fair_13 : decode cX6_fair 13 = .ok (.ifCond .eq 17, 3) := by decide +kernel
theorem dX6_fair_16 : decode cX6_fair 16 = .ok (.iload_n 1, 1) := by decide +kernel
theorem dX6_fair_17 : decode cX6_fair 17 = .ok (.iload_n 2, 1) := by decide +kernel
theorem dX6_fair_18 : decode cX6_fair 18 = .ok (.if_icmp .eq 12, 3) := by decide +kernel
theorem dX6_fair_21 : decode cX6_fair 21 = .ok (.aload_n 0, 1) := by decide +kernel
theorem dX6_fair_22 : decode cX6_fair 22 = .ok (.iload_n 1, 1) := by decide +kernel
theorem dX6_fair_23 : decode cX6_fair 23 = .ok (.iload_n 2, 1) := by decide +kernel
theorem dX6_fair_24 : decode cX6_fair 24 = .ok (.invokevirtual 130, 3) := by decide +kernel
theorem dX6_fair_27 : decode cX6_fair 27 = .ok (.goto 5, 3) := by decide +kernel
theorem dX6_fair_30 : decode cX6_fair 30 = .ok (.bipush (-101), 2) := by decide +kernel
theorem dX6_fair_32 : decode cX6_fair 32 = .ok (.ireturn, 1) := by decide +kernel
set_option maxRecDepth 20000 in
theorem ggX6_pass_X6_isHouse : GoodIn wsX6_pass wsX6_isHouse := goodIn_r _ [7, 8, 9, 10, 6, 11, 12, 13, 14, 15, 16, 17, 18, 19, 20, 21, 22, 23, 24, 25, 26, 27, 28, 29, 30, 31, 32, 33, 34, 35, 36, 37, 38, 39, 40, 41] (by decide +kernel) (by decide +kernel)
set_option maxRecDepth 20000 in
theorem gX6_pass_X6_isHouse : GoodIn wsX6_pass (wsV RX6 94 RX6 yX6_isHouse wsX6_isHouse) := goodIn_app (goodIn_of _ (by decide +kernel)) ggX6_pass_X6_isHouse
theorem dX6_pass_0 : decode cX6_pass 0 = .ok (.aload_n 0, 1) := by decide +kernel
theorem dX6_pass_1 : decode cX6_pass 1 = .ok (.iload_n 1, 1) := by decide +kernel
theorem dX6_pass_2 : decode cX6_pass 2 = .ok (.invokevirtual 94, 3) := by decide +kernel
theorem dX6_pass_5 : decode cX6_pass 5 = .ok (.ifCond .ne 6, 3) := by decide +kernel
theorem dX6_pass_8 : decode cX6_pass 8 = .ok (.bipush (-101), 2) := by decide +kernel
theorem dX6_pass_10 : decode cX6_pass 10 = .ok (.ireturn, 1) := by decide +kernel
theorem dX6_pass_11 : decode cX6_pass 11 = .ok (.aload_n 0, 1) := by decide +kernel
theorem dX6_pass_12 : decode cX6_pass 12 = .ok (.getfield 88, 3) := by decide +kernel
theorem dX6_pass_15 : decode cX6_pass 15 = .ok (.bipush 8, 2) := by decide +kernel
theorem dX6_pass_17 : decode cX6_pass 17 = .ok (.if_icmp .ne 6, 3) := by decide +kernel
theorem dX6_pass_20 : decode cX6_pass 20 = .ok (.bipush (-104), 2) := by decide +kernel
theorem dX6_pass_22 : decode cX6_pass 22 = .ok (.ireturn, 1) := by decide +kernel
theorem dX6_pass_23 : decode cX6_pass 23 = .ok (.aload_n 0, 1) := by decide +kernel
theorem dX6_pass_24 : decode cX6_pass 24 = .ok (.getfield 31, 3) := by decide +kernel
theorem dX6_pass_27 : decode cX6_pass 27 = .ok (.iload_n 1, 1) := by decide +kernel
theorem dX6_pass_28 : decode cX6_pass 28 = .ok (.dup2, 1) := by decide +kernel
theorem dX6_pass_29 : decode cX6_pass 29 = .ok (.iaload, 1) := by decide +kernel
theorem dX6_pass_30 : decode cX6_pass 30 = .ok (.iconst 1, 1) := by decide +kernel
theorem dX6_pass_31 : decode cX6_pass 31 = .ok (.iadd, 1) := by decide +kernel
theorem dX6_pass_32 : decode cX6_pass 32 = .ok (.iastore, 1) := by decide +kernel
theorem dX6_pass_33 : decode cX6_pass 33 = .ok (.aload_n 0, 1) := by decide +kernel
theorem dX6_pass_34 : decode cX6_pass 34 = .ok (.dup, 1) := by decide +kernel
theorem dX6_pass_35 : decode cX6_pass 35 = .ok (.getfield 88, 3) := by decide +kernel
theorem dX6_pass_38 : decode cX6_pass 38 = .ok (.iconst 1, 1) := by decide +kernel
theorem dX6_pass_39 : decode cX6_pass 39 = .ok (.iadd, 1) := by decide +kernel
theorem dX6_pass_40 : decode cX6_pass 40 = .ok (.putfield 88, 3) := by decide +kernel
theorem dX6_pass_43 : decode cX6_pass 43 = .ok (.aload_n 0, 1) := by decide +kernel
theorem dX6_pass_44 : decode cX6_pass 44 = .ok (.getfield 88, 3) := by decide +kernel
theorem dX6_pass_47 : decode cX6_pass 47 = .ok (.ireturn, 1) := by decide +kernel
set_option maxRecDepth 20000 in
theorem ggX6_lose_X6_within : GoodIn wsX6_lose wsX6_within := goodIn_r _ [5] (by decide +kernel) (by decide +kernel)
set_option maxRecDepth 20000 in
theorem gX6_lose_X6_within : GoodIn wsX6_lose (va_wsS RX6 44 yX6_within wsX6_within) := goodIn_app (goodIn_of _ (by decide +kernel)) ggX6_lose_X6_within
theorem dX6_lose_0 : decode cX6_lose 0 = .ok (.iload_n 1, 1) := by decide +kernel
theorem dX6_lose_1 : decode cX6_lose 1 = .ok (.iconst 0, 1) := by decide +kernel
theorem dX6_lose_2 : decode cX6_lose 2 = .ok (.bipush 20, 2) := by decide +kernel
theorem dX6_lose_4 : decode cX6_lose 4 = .ok (.invokestatic 44, 3) := by decide +kernel
theorem dX6_lose_7 : decode cX6_lose 7 = .ok (.ifCond .ne 6, 3) := by decide +kernel
theorem dX6_lose_10 : decode cX6_lose 10 = .ok (.bipush (-102), 2) := by decide +kernel
theorem dX6_lose_12 : decode cX6_lose 12 = .ok (.ireturn, 1) := by decide +kernel
theorem dX6_lose_13 : decode cX6_lose 13 = .ok (.aload_n 0, 1) := by decide +kernel
theorem dX6_lose_14 : decode cX6_lose 14 = .ok (.getfield 91, 3) := by decide +kernel
theorem dX6_lose_17 : decode cX6_lose 17 = .ok (.istore_n 2, 1) := by decide +kernel
theorem dX6_lose_18 : decode cX6_lose 18 = .ok (.aload_n 0, 1) := by decide +kernel
theorem dX6_lose_19 : decode cX6_lose 19 = .ok (.iload_n 1, 1) := by decide +kernel
theorem dX6_lose_20 : decode cX6_lose 20 = .ok (.putfield 91, 3) := by decide +kernel
theorem dX6_lose_23 : decode cX6_lose 23 = .ok (.iload_n 2, 1) := by decide +kernel
theorem dX6_lose_24 : decode cX6_lose 24 = .ok (.ireturn, 1) := by decide +kernel
theorem dX6_clear_0 : decode cX6_clear 0 = .ok (.aload_n 0, 1) := by decide +kernel
theorem dX6_clear_1 : decode cX6_clear 1 = .ok (.getfield 88, 3) := by decide +kernel
theorem dX6_clear_4 : decode cX6_clear 4 = .ok (.istore_n 1, 1) := by decide +kernel
theorem dX6_clear_5 : decode cX6_clear 5 = .ok (.aload_n 0, 1) := by decide +kernel
theorem dX6_clear_6 : decode cX6_clear 6 = .ok (.iconst 0, 1) := by decide +kernel
theorem dX6_clear_7 : decode cX6_clear 7 = .ok (.putfield 88, 3) := by decide +kernel
theorem dX6_clear_10 : decode cX6_clear 10 = .ok (.aload_n 0, 1) := by decide +kernel
theorem dX6_clear_11 : decode cX6_clear 11 = .ok (.iconst 0, 1) := by decide +kernel
theorem dX6_clear_12 : decode cX6_clear 12 = .ok (.putfield 91, 3) := by decide +kernel
theorem dX6_clear_15 : decode cX6_clear 15 = .ok (.iconst 0, 1) := by decide +kernel
theorem dX6_clear_16 : decode cX6_clear 16 = .ok (.istore_n 2, 1) := by decide +kernel
theorem dX6_clear_17 : decode cX6_clear 17 = .ok (.iload_n 2, 1) := by decide +kernel
theorem dX6_clear_18 : decode cX6_clear 18 = .ok (.iconst 4, 1) := by decide +kernel
theorem dX6_clear_19 : decode cX6_clear 19 = .ok (.if_icmp .ge 16, 3) := by decide +kernel
theorem dX6_clear_22 : decode cX6_clear 22 = .ok (.aload_n 0, 1) := by decide +kernel
theorem dX6_clear_23 : decode cX6_clear 23 = .ok (.getfield 31, 3) := by decide +kernel
theorem dX6_clear_26 : decode cX6_clear 26 = .ok (.iload_n 2, 1) := by decide +kernel
theorem dX6_clear_27 : decode cX6_clear 27 = .ok (.iconst 0, 1) := by decide +kernel
theorem dX6_clear_28 : decode cX6_clear 28 = .ok (.iastore, 1) := by decide +kernel
theorem dX6_clear_29 : decode cX6_clear 29 = .ok (.iinc 2 1, 3) := by decide +kernel
theorem dX6_clear_32 : decode cX6_clear 32 = .ok (.goto (-15), 3) := by decide +kernel
theorem dX6_clear_35 : decode cX6_clear 35 = .ok (.iload_n 1, 1) := by decide +kernel
theorem dX6_clear_36 : decode cX6_clear 36 = .ok (.ireturn, 1) := by decide +kernel
set_option maxRecDepth 20000 in
theorem ggX6_isRubbed_X6_isIn : GoodIn wsX6_isRubbed wsX6_isIn := goodIn_r _ [7] (by decide +kernel) (by decide +kernel)
set_option maxRecDepth 20000 in
theorem gX6_isRubbed_X6_isIn : GoodIn wsX6_isRubbed (va_wsS RX6 133 yX6_isIn wsX6_isIn) := goodIn_app (goodIn_of _ (by decide +kernel)) ggX6_isRubbed_X6_isIn
theorem dX6_isRubbed_0 : decode cX6_isRubbed 0 = .ok (.iconst 0, 1) := by decide +kernel
theorem dX6_isRubbed_1 : decode cX6_isRubbed 1 = .ok (.istore_n 2, 1) := by decide +kernel
theorem dX6_isRubbed_2 : decode cX6_isRubbed 2 = .ok (.iconst 0, 1) := by decide +kernel
theorem dX6_isRubbed_3 : decode cX6_isRubbed 3 = .ok (.istore_n 3, 1) := by decide +kernel
theorem dX6_isRubbed_4 : decode cX6_isRubbed 4 = .ok (.iload_n 3, 1) := by decide +kernel
theorem dX6_isRubbed_5 : decode cX6_isRubbed 5 = .ok (.aload_n 0, 1) := by decide +kernel
theorem dX6_isRubbed_6 : decode cX6_isRubbed 6 = .ok (.getfield 73, 3) := by decide +kernel
theorem dX6_isRubbed_9 : decode cX6_isRubbed 9 = .ok (.if_icmp .ge 30, 3) := by decide +kernel
theorem dX6_isRubbed_12 : decode cX6_isRubbed 12 = .ok (.iload_n 2, 1) := by decide +kernel
theorem dX6_isRubbed_13 : decode cX6_isRubbed 13 = .ok (.iload_n 1, 1) := by decide +kernel
theorem dX6_isRubbed_14 : decode cX6_isRubbed 14 = .ok (.iload_n 3, 1) := by decide +kernel
theorem dX6_isRubbed_15 : decode cX6_isRubbed 15 = .ok (.invokestatic 133, 3) := by decide +kernel
theorem dX6_isRubbed_18 : decode cX6_isRubbed 18 = .ok (.ifCond .eq 12, 3) := by decide +kernel
theorem dX6_isRubbed_21 : decode cX6_isRubbed 21 = .ok (.aload_n 0, 1) := by decide +kernel
theorem dX6_isRubbed_22 : decode cX6_isRubbed 22 = .ok (.getfield 31, 3) := by decide +kernel
theorem dX6_isRubbed_25 : decode cX6_isRubbed 25 = .ok (.iload_n 3, 1) := by decide +kernel
theorem dX6_isRubbed_26 : decode cX6_isRubbed 26 = .ok (.iaload, 1) := by decide +kernel
theorem dX6_isRubbed_27 : decode cX6_isRubbed 27 = .ok (.goto 4, 3) := by decide +kernel
theorem dX6_isRubbed_30 : decode cX6_isRubbed 30 = .ok (.iconst 0, 1) := by decide +kernel
theorem dX6_isRubbed_31 : decode cX6_isRubbed 31 = .ok (.iadd, 1) := by decide +kernel
theorem dX6_isRubbed_32 : decode cX6_isRubbed 32 = .ok (.istore_n 2, 1) := by decide +kernel
theorem dX6_isRubbed_33 : decode cX6_isRubbed 33 = .ok (.iinc 3 1, 3) := by decide +kernel
theorem dX6_isRubbed_36 : decode cX6_isRubbed 36 = .ok (.goto (-32), 3) := by decide +kernel
theorem dX6_isRubbed_39 : decode cX6_isRubbed 39 = .ok (.iload_n 2, 1) := by decide +kernel
theorem dX6_isRubbed_40 : decode cX6_isRubbed 40 = .ok (.aload_n 0, 1) := by decide +kernel
theorem dX6_isRubbed_41 : decode cX6_isRubbed 41 = .ok (.getfield 91, 3) := by decide +kernel
theorem dX6_isRubbed_44 : decode cX6_isRubbed 44 = .ok (.if_icmp .ne 7, 3) := by decide +kernel
theorem dX6_isRubbed_47 : decode cX6_isRubbed 47 = .ok (.iconst 1, 1) := by decide +kernel
theorem dX6_isRubbed_48 : decode cX6_isRubbed 48 = .ok (.goto 4, 3) := by decide +kernel
theorem dX6_isRubbed_51 : decode cX6_isRubbed 51 = .ok (.iconst 0, 1) := by decide +kernel
theorem dX6_isRubbed_52 : decode cX6_isRubbed 52 = .ok (.ireturn, 1) := by decide +kernel
set_option maxRecDepth 20000 in
theorem ggX6_rubbedNow_X6_isRubbed : GoodIn wsX6_rubbedNow wsX6_isRubbed := goodIn_r _ [6, 1, 7, 8, 9, 10, 5, 11, 12, 13, 14, 15, 16, 17, 18, 19, 20, 21, 22, 23, 24, 25, 26, 27, 28, 29, 30, 31, 32, 33, 34, 35, 36, 37, 38, 39, 40, 41] (by decide +kernel) (by decide +kernel)
set_option maxRecDepth 20000 in
theorem gX6_rubbedNow_X6_isRubbed : GoodIn wsX6_rubbedNow (wsV RX6 137 RX6 yX6_isRubbed wsX6_isRubbed) := goodIn_app (goodIn_of _ (by decide +kernel)) ggX6_rubbedNow_X6_isRubbed
theorem dX6_rubbedNow_0 : decode cX6_rubbedNow 0 = .ok (.iconst 0, 1) := by decide +kernel
theorem dX6_rubbedNow_1 : decode cX6_rubbedNow 1 = .ok (.istore_n 2, 1) := by decide +kernel
theorem dX6_rubbedNow_2 : decode cX6_rubbedNow 2 = .ok (.iconst (-1), 1) := by decide +kernel
theorem dX6_rubbedNow_3 : decode cX6_rubbedNow 3 = .ok (.istore_n 3, 1) := by decide +kernel
theorem dX6_rubbedNow_4 : decode cX6_rubbedNow 4 = .ok (.iconst 1, 1) := by decide +kernel
theorem dX6_rubbedNow_5 : decode cX6_rubbedNow 5 = .ok (.aload_n 0, 1) := by decide +kernel
theorem dX6_rubbedNow_6 : decode cX6_rubbedNow 6 = .ok (.getfield 73, 3) := by decide +kernel
theorem dX6_rubbedNow_9 : decode cX6_rubbedNow 9 = .ok (.ishl, 1) := by decide +kernel
theorem dX6_rubbedNow_10 : decode cX6_rubbedNow 10 = .ok (.iconst 1, 1) := by decide +kernel
theorem dX6_rubbedNow_11 : decode cX6_rubbedNow 11 = .ok (.isub, 1) := by decide +kernel
theorem dX6_rubbedNow_12 : decode cX6_rubbedNow 12 = .ok (.istore 4, 2) := by decide +kernel
theorem dX6_rubbedNow_14 : decode cX6_rubbedNow 14 = .ok (.iconst 1, 1) := by decide +kernel
theorem dX6_rubbedNow_15 : decode cX6_rubbedNow 15 = .ok (.aload_n 0, 1) := by decide +kernel
theorem dX6_rubbedNow_16 : decode cX6_rubbedNow 16 = .ok (.getfield 73, 3) := by decide +kernel
theorem dX6_rubbedNow_19 : decode cX6_rubbedNow 19 = .ok (.ishl, 1) := by decide +kernel
theorem dX6_rubbedNow_20 : decode cX6_rubbedNow 20 = .ok (.iconst 1, 1) := by decide +kernel
theorem dX6_rubbedNow_21 : decode cX6_rubbedNow 21 = .ok (.isub, 1) := by decide +kernel
theorem dX6_rubbedNow_22 : decode cX6_rubbedNow 22 = .ok (.istore 5, 2) := by decide +kernel
theorem dX6_rubbedNow_24 : decode cX6_rubbedNow 24 = .ok (.iload 5, 2) := by decide +kernel
theorem dX6_rubbedNow_26 : decode cX6_rubbedNow 26 = .ok (.ifCond .lt 59, 3) := by decide +kernel
theorem dX6_rubbedNow_29 : decode cX6_rubbedNow 29 = .ok (.aload_n 0, 1) := by decide +kernel
theorem dX6_rubbedNow_30 : decode cX6_rubbedNow 30 = .ok (.iload 5, 2) := by decide +kernel
theorem dX6_rubbedNow_32 : decode cX6_rubbedNow 32 = .ok (.invokevirtual 137, 3) := by decide +kernel
theorem dX6_rubbedNow_35 : decode cX6_rubbedNow 35 = .ok (.istore 6, 2) := by decide +kernel
theorem dX6_rubbedNow_37 : decode cX6_rubbedNow 37 = .ok (.iload_n 2, 1) := by decide +kernel
theorem dX6_rubbedNow_38 : decode cX6_rubbedNow 38 = .ok (.iload 6, 2) := by decide +kernel
theorem dX6_rubbedNow_40 : decode cX6_rubbedNow 40 = .ok (.ifCond .eq 7, 3) := by decide +kernel
theorem dX6_rubbedNow_43 : decode cX6_rubbedNow 43 = .ok (.iconst 1, 1) := by decide +kernel
theorem dX6_rubbedNow_44 : decode cX6_rubbedNow 44 = .ok (.goto 4, 3) := by decide +kernel
theorem dX6_rubbedNow_47 : decode cX6_rubbedNow 47 = .ok (.iconst 0, 1) := by decide +kernel
theorem dX6_rubbedNow_48 : decode cX6_rubbedNow 48 = .ok (.iadd, 1) := by decide +kernel
theorem dX6_rubbedNow_49 : decode cX6_rubbedNow 49 = .ok (.istore_n 2, 1) := by decide +kernel
theorem dX6_rubbedNow_50 : decode cX6_rubbedNow 50 = .ok (.iload 6, 2) := by decide +kernel
theorem dX6_rubbedNow_52 : decode cX6_rubbedNow 52 = .ok (.ifCond .eq 8, 3) := by decide +kernel
theorem dX6_rubbedNow_55 : decode cX6_rubbedNow 55 = .ok (.iload 5, 2) := by decide +kernel
theorem dX6_rubbedNow_57 : decode cX6_rubbedNow 57 = .ok (.goto 4, 3) := by decide +kernel
theorem dX6_rubbedNow_60 : decode cX6_rubbedNow 60 = .ok (.iload_n 3, 1) := by decide +kernel
theorem dX6_rubbedNow_61 : decode cX6_rubbedNow 61 = .ok (.istore_n 3, 1) := by decide +kernel
theorem dX6_rubbedNow_62 : decode cX6_rubbedNow 62 = .ok (.iload 6, 2) := by decide +kernel
theorem dX6_rubbedNow_64 : decode cX6_rubbedNow 64 = .ok (.ifCond .eq 11, 3) := by decide +kernel
theorem dX6_rubbedNow_67 : decode cX6_rubbedNow 67 = .ok (.iload 4, 2) := by decide +kernel
theorem dX6_rubbedNow_69 : decode cX6_rubbedNow 69 = .ok (.iload 5, 2) := by decide +kernel
theorem dX6_rubbedNow_71 : decode cX6_rubbedNow 71 = .ok (.iand, 1) := by decide +kernel
theorem dX6_rubbedNow_72 : decode cX6_rubbedNow 72 = .ok (.goto 5, 3) := by decide +kernel
theorem dX6_rubbedNow_75 : decode cX6_rubbedNow 75 = .ok (.iload 4, 2) := by decide +kernel
theorem dX6_rubbedNow_77 : decode cX6_rubbedNow 77 = .ok (.istore 4, 2) := by decide +kernel
theorem dX6_rubbedNow_79 : decode cX6_rubbedNow 79 = .ok (.iinc 5 (-1), 3) := by decide +kernel
theorem dX6_rubbedNow_82 : decode cX6_rubbedNow 82 = .ok (.goto (-58), 3) := by decide +kernel
theorem dX6_rubbedNow_85 : decode cX6_rubbedNow 85 = .ok (.iload_n 1, 1) := by decide +kernel
theorem dX6_rubbedNow_86 : decode cX6_rubbedNow 86 = .ok (.ifCond .ne 7, 3) := by decide +kernel
theorem dX6_rubbedNow_89 : decode cX6_rubbedNow 89 = .ok (.iload_n 2, 1) := by decide +kernel
theorem dX6_rubbedNow_90 : decode cX6_rubbedNow 90 = .ok (.goto 22, 3) := by decide +kernel
theorem dX6_rubbedNow_93 : decode cX6_rubbedNow 93 = .ok (.iload_n 2, 1) := by decide +kernel
theorem dX6_rubbedNow_94 : decode cX6_rubbedNow 94 = .ok (.ifCond .ne 7, 3) := by decide +kernel
theorem dX6_rubbedNow_97 : decode cX6_rubbedNow 97 = .ok (.iconst (-1), 1) := by decide +kernel
theorem dX6_rubbedNow_98 : decode cX6_rubbedNow 98 = .ok (.goto 14, 3) := by decide +kernel
theorem dX6_rubbedNow_101 : decode cX6_rubbedNow 101 = .ok (.iload_n 1, 1) := by decide +kernel
theorem dX6_rubbedNow_102 : decode cX6_rubbedNow 102 = .ok (.iconst 1, 1) := by decide +kernel
theorem dX6_rubbedNow_103 : decode cX6_rubbedNow 103 = .ok (.if_icmp .ne 7, 3) := by decide +kernel
theorem dX6_rubbedNow_106 : decode cX6_rubbedNow 106 = .ok (.iload_n 3, 1) := by decide +kernel
theorem dX6_rubbedNow_107 : decode cX6_rubbedNow 107 = .ok (.goto 5, 3) := by decide +kernel
theorem dX6_rubbedNow_110 : decode cX6_rubbedNow 110 = .ok (.iload 4, 2) := by decide +kernel
theorem dX6_rubbedNow_112 : decode cX6_rubbedNow 112 = .ok (.ireturn, 1) := by decide +kernel
set_option maxRecDepth 20000 in
theorem ggX6_rubbed_X6_within : GoodIn wsX6_rubbed wsX6_within := goodIn_r _ [5] (by decide +kernel) (by decide +kernel)
set_option maxRecDepth 20000 in
theorem gX6_rubbed_X6_within : GoodIn wsX6_rubbed (va_wsS RX6 44 yX6_within wsX6_within) := goodIn_app (goodIn_of _ (by decide +kernel)) ggX6_rubbed_X6_within
set_option maxRecDepth 20000 in
theorem ggX6_rubbed_X6_rubbedNow : GoodIn wsX6_rubbed wsX6_rubbedNow := goodIn_r _ [9, 1, 10, 11, 12, 4, 13, 14, 15, 16, 17, 18, 19, 20, 21, 22, 23, 24, 25, 26, 27, 28, 29, 30, 31, 32, 33, 34, 35, 36, 37, 38, 39, 40, 41, 42, 43, 44, 45, 46, 47, 48] (by decide +kernel) (by decide +kernel)
set_option maxRecDepth 20000 in
theorem gX6_rubbed_X6_rubbedNow : GoodIn wsX6_rubbed (wsV RX6 140 RX6 yX6_rubbedNow wsX6_rubbedNow) := goodIn_app (goodIn_of _ (by decide +kernel)) ggX6_rubbed_X6_rubbedNow
theorem dX6_rubbed_0 : decode cX6_rubbed 0 = .ok (.iload_n 1, 1) := by decide +kernel
theorem dX6_rubbed_1 : decode cX6_rubbed 1 = .ok (.iconst 0, 1) := by decide +kernel
theorem dX6_rubbed_2 : decode cX6_rubbed 2 = .ok (.iconst 2, 1) := by decide +kernel
theorem dX6_rubbed_3 : decode cX6_rubbed 3 = .ok (.invokestatic 44, 3) := by decide +kernel
theorem dX6_rubbed_6 : decode cX6_rubbed 6 = .ok (.ifCond .ne 6, 3) := by decide +kernel
theorem dX6_rubbed_9 : decode cX6_rubbed 9 = .ok (.bipush (-102), 2) := by decide +kernel
theorem dX6_rubbed_11 : decode cX6_rubbed 11 = .ok (.ireturn, 1) := by decide +kernel
theorem dX6_rubbed_12 : decode cX6_rubbed 12 = .ok (.aload_n 0, 1) := by decide +kernel
theorem dX6_rubbed_13 : decode cX6_rubbed 13 = .ok (.getfield 73, 3) := by decide +kernel
theorem dX6_rubbed_16 : decode cX6_rubbed 16 = .ok (.ifCond .ne 8, 3) := by decide +kernel
theorem dX6_rubbed_19 : decode cX6_rubbed 19 = .ok (.bipush (-103), 2) := by decide +kernel
theorem dX6_rubbed_21 : decode cX6_rubbed 21 = .ok (.goto 8, 3) := by decide +kernel
theorem dX6_rubbed_24 : decode cX6_rubbed 24 = .ok (.aload_n 0, 1) := by decide +kernel
theorem dX6_rubbed_25 : decode cX6_rubbed 25 = .ok (.iload_n 1, 1) := by decide +kernel
theorem dX6_rubbed_26 : decode cX6_rubbed 26 = .ok (.invokevirtual 140, 3) := by decide +kernel
theorem dX6_rubbed_29 : decode cX6_rubbed 29 = .ok (.ireturn, 1) := by decide +kernel
set_option maxRecDepth 20000 in
theorem ggX6_watchNow_X6_rubbedNow : GoodIn wsX6_watchNow wsX6_rubbedNow := goodIn_r _ [7, 2, 8, 9, 10, 6, 11, 12, 13, 14, 15, 16, 17, 18, 19, 20, 21, 22, 23, 24, 25, 26, 27, 28, 29, 30, 31, 32, 33, 34, 35, 36, 37, 38, 39, 40, 41, 42, 43, 44, 45, 46] (by decide +kernel) (by decide +kernel)
set_option maxRecDepth 20000 in
theorem gX6_watchNow_X6_rubbedNow : GoodIn wsX6_watchNow (wsV RX6 140 RX6 yX6_rubbedNow wsX6_rubbedNow) := goodIn_app (goodIn_of _ (by decide +kernel)) ggX6_watchNow_X6_rubbedNow
set_option maxRecDepth 20000 in
theorem ggX6_watchNow_X6_isIn : GoodIn wsX6_watchNow wsX6_isIn := goodIn_r _ [16] (by decide +kernel) (by decide +kernel)
set_option maxRecDepth 20000 in
theorem gX6_watchNow_X6_isIn : GoodIn wsX6_watchNow (va_wsS RX6 133 yX6_isIn wsX6_isIn) := goodIn_app (goodIn_of _ (by decide +kernel)) ggX6_watchNow_X6_isIn
set_option maxRecDepth 20000 in
theorem ggX6_watchNow_X6_isRubbed : GoodIn wsX6_watchNow wsX6_isRubbed := goodIn_r _ [11, 2, 12, 13, 14, 15, 6, 16, 17, 18, 19, 20, 21, 22, 23, 24, 25, 26, 27, 28, 29, 30, 31, 32, 33, 34, 35, 36, 37, 38, 39, 40, 41, 42, 43, 44, 45, 46] (by decide +kernel) (by decide +kernel)
set_option maxRecDepth 20000 in
theorem gX6_watchNow_X6_isRubbed : GoodIn wsX6_watchNow (wsV RX6 137 RX6 yX6_isRubbed wsX6_isRubbed) := goodIn_app (goodIn_of _ (by decide +kernel)) ggX6_watchNow_X6_isRubbed
theorem dX6_watchNow_0 : decode cX6_watchNow 0 = .ok (.aload_n 0, 1) := by decide +kernel
theorem dX6_watchNow_1 : decode cX6_watchNow 1 = .ok (.iconst 0, 1) := by decide +kernel
theorem dX6_watchNow_2 : decode cX6_watchNow 2 = .ok (.invokevirtual 140, 3) := by decide +kernel
theorem dX6_watchNow_5 : decode cX6_watchNow 5 = .ok (.istore_n 1, 1) := by decide +kernel
theorem dX6_watchNow_6 : decode cX6_watchNow 6 = .ok (.iconst (-1), 1) := by decide +kernel
theorem dX6_watchNow_7 : decode cX6_watchNow 7 = .ok (.istore_n 2, 1) := by decide +kernel
theorem dX6_watchNow_8 : decode cX6_watchNow 8 = .ok (.ldc 116, 2) := by decide +kernel
theorem dX6_watchNow_10 : decode cX6_watchNow 10 = .ok (.istore_n 3, 1) := by decide +kernel
theorem dX6_watchNow_11 : decode cX6_watchNow 11 = .ok (.iconst 0, 1) := by decide +kernel
theorem dX6_watchNow_12 : decode cX6_watchNow 12 = .ok (.istore 4, 2) := by decide +kernel
theorem dX6_watchNow_14 : decode cX6_watchNow 14 = .ok (.iload 4, 2) := by decide +kernel
theorem dX6_watchNow_16 : decode cX6_watchNow 16 = .ok (.aload_n 0, 1) := by decide +kernel
theorem dX6_watchNow_17 : decode cX6_watchNow 17 = .ok (.getfield 73, 3) := by decide +kernel
theorem dX6_watchNow_20 : decode cX6_watchNow 20 = .ok (.if_icmp .ge 111, 3) := by decide +kernel
theorem dX6_watchNow_23 : decode cX6_watchNow 23 = .ok (.iload_n 1, 1) := by decide +kernel
theorem dX6_watchNow_24 : decode cX6_watchNow 24 = .ok (.ifCond .le 107, 3) := by decide +kernel
theorem dX6_watchNow_27 : decode cX6_watchNow 27 = .ok (.iconst 0, 1) := by decide +kernel
theorem dX6_watchNow_28 : decode cX6_watchNow 28 = .ok (.istore 5, 2) := by decide +kernel
theorem dX6_watchNow_30 : decode cX6_watchNow 30 = .ok (.iconst 0, 1) := by decide +kernel
theorem dX6_watchNow_31 : decode cX6_watchNow 31 = .ok (.istore 6, 2) := by decide +kernel
theorem dX6_watchNow_33 : decode cX6_watchNow 33 = .ok (.iload 6, 2) := by decide +kernel
theorem dX6_watchNow_35 : decode cX6_watchNow 35 = .ok (.iconst 1, 1) := by decide +kernel
theorem dX6_watchNow_36 : decode cX6_watchNow 36 = .ok (.aload_n 0, 1) := by decide +kernel
theorem dX6_watchNow_37 : decode cX6_watchNow 37 = .ok (.getfield 73, 3) := by decide +kernel
theorem dX6_watchNow_40 : decode cX6_watchNow 40 = .ok (.ishl, 1) := by decide +kernel
theorem dX6_watchNow_41 : decode cX6_watchNow 41 = .ok (.if_icmp .ge 38, 3) := by decide +kernel
theorem dX6_watchNow_44 : decode cX6_watchNow 44 = .ok (.iload 5, 2) := by decide +kernel
theorem dX6_watchNow_46 : decode cX6_watchNow 46 = .ok (.iload 6, 2) := by decide +kernel
theorem dX6_watchNow_48 : decode cX6_watchNow 48 = .ok (.iload 4, 2) := by decide +kernel
theorem dX6_watchNow_50 : decode cX6_watchNow 50 = .ok (.invokestatic 133, 3) := by decide +kernel
theorem dX6_watchNow_53 : decode cX6_watchNow 53 = .ok (.ifCond .eq 16, 3) := by decide +kernel
theorem dX6_watchNow_56 : decode cX6_watchNow 56 = .ok (.aload_n 0, 1) := by decide +kernel
theorem dX6_watchNow_57 : decode cX6_watchNow 57 = .ok (.iload 6, 2) := by decide +kernel
theorem dX6_watchNow_59 : decode cX6_watchNow 59 = .ok (.invokevirtual 137, 3) := by decide +kernel
theorem dX6_watchNow_62 : decode cX6_watchNow 62 = .ok (.ifCond .eq 7, 3) := by decide +kernel
theorem dX6_watchNow_65 : decode cX6_watchNow 65 = .ok (.iconst 1, 1) := by decide +kernel
theorem dX6_watchNow_66 : decode cX6_watchNow 66 = .ok (.goto 4, 3) := by decide +kernel
theorem dX6_watchNow_69 : decode cX6_watchNow 69 = .ok (.iconst 0, 1) := by decide +kernel
theorem dX6_watchNow_70 : decode cX6_watchNow 70 = .ok (.iadd, 1) := by decide +kernel
theorem dX6_watchNow_71 : decode cX6_watchNow 71 = .ok (.istore 5, 2) := by decide +kernel
theorem dX6_watchNow_73 : decode cX6_watchNow 73 = .ok (.iinc 6 1, 3) := by decide +kernel
theorem dX6_watchNow_76 : decode cX6_watchNow 76 = .ok (.goto (-43), 3) := by decide +kernel
theorem dX6_watchNow_79 : decode cX6_watchNow 79 = .ok (.iload 5, 2) := by decide +kernel
theorem dX6_watchNow_81 : decode cX6_watchNow 81 = .ok (.iload_n 1, 1) := by decide +kernel
theorem dX6_watchNow_82 : decode cX6_watchNow 82 = .ok (.iload 5, 2) := by decide +kernel
theorem dX6_watchNow_84 : decode cX6_watchNow 84 = .ok (.isub, 1) := by decide +kernel
theorem dX6_watchNow_85 : decode cX6_watchNow 85 = .ok (.if_icmp .le 8, 3) := by decide +kernel
theorem dX6_watchNow_88 : decode cX6_watchNow 88 = .ok (.iload 5, 2) := by decide +kernel
theorem dX6_watchNow_90 : decode cX6_watchNow 90 = .ok (.goto 7, 3) := by decide +kernel
theorem dX6_watchNow_93 : decode cX6_watchNow 93 = .ok (.iload_n 1, 1) := by decide +kernel
theorem dX6_watchNow_94 : decode cX6_watchNow 94 = .ok (.iload 5, 2) := by decide +kernel
theorem dX6_watchNow_96 : decode cX6_watchNow 96 = .ok (.isub, 1) := by decide +kernel
theorem dX6_watchNow_97 : decode cX6_watchNow 97 = .ok (.istore 6, 2) := by decide +kernel
theorem dX6_watchNow_99 : decode cX6_watchNow 99 = .ok (.iload 6, 2) := by decide +kernel
theorem dX6_watchNow_101 : decode cX6_watchNow 101 = .ok (.iload_n 3, 1) := by decide +kernel
theorem dX6_watchNow_102 : decode cX6_watchNow 102 = .ok (.if_icmp .ge 8, 3) := by decide +kernel
theorem dX6_watchNow_105 : decode cX6_watchNow 105 = .ok (.iload 4, 2) := by decide +kernel
theorem dX6_watchNow_107 : decode cX6_watchNow 107 = .ok (.goto 4, 3) := by decide +kernel
theorem dX6_watchNow_110 : decode cX6_watchNow 110 = .ok (.iload_n 2, 1) := by decide +kernel
theorem dX6_watchNow_111 : decode cX6_watchNow 111 = .ok (.istore_n 2, 1) := by decide +kernel
theorem dX6_watchNow_112 : decode cX6_watchNow 112 = .ok (.iload 6, 2) := by decide +kernel
theorem dX6_watchNow_114 : decode cX6_watchNow 114 = .ok (.iload_n 3, 1) := by decide +kernel
theorem dX6_watchNow_115 : decode cX6_watchNow 115 = .ok (.if_icmp .ge 8, 3) := by decide +kernel
theorem dX6_watchNow_118 : decode cX6_watchNow 118 = .ok (.iload 6, 2) := by decide +kernel
theorem dX6_watchNow_120 : decode cX6_watchNow 120 = .ok (.goto 4, 3) := by decide +kernel
theorem dX6_watchNow_123 : decode cX6_watchNow 123 = .ok (.iload_n 3, 1) := by decide +kernel
theorem dX6_watchNow_124 : decode cX6_watchNow 124 = .ok (.istore_n 3, 1) := by decide +kernel
theorem dX6_watchNow_125 : decode cX6_watchNow 125 = .ok (.iinc 4 1, 3) := by decide +kernel
theorem dX6_watchNow_128 : decode cX6_watchNow 128 = .ok (.goto (-114), 3) := by decide +kernel
theorem dX6_watchNow_131 : decode cX6_watchNow 131 = .ok (.iload_n 2, 1) := by decide +kernel
theorem dX6_watchNow_132 : decode cX6_watchNow 132 = .ok (.ireturn, 1) := by decide +kernel
set_option maxRecDepth 20000 in
theorem ggX6_watch_X6_watchNow : GoodIn wsX6_watch wsX6_watchNow := goodIn_r _ [6, 7, 1, 8, 9, 10, 5, 11, 12, 13, 14, 15, 16, 17, 18, 19, 20, 21, 22, 23, 24, 25, 26, 27, 28, 29, 30, 31, 32, 33, 34, 35, 36, 37, 38, 39, 40, 41, 42, 43, 44, 45, 46, 47, 48, 49, 50] (by decide +kernel) (by decide +kernel)
set_option maxRecDepth 20000 in
theorem gX6_watch_X6_watchNow : GoodIn wsX6_watch (wsV RX6 143 RX6 yX6_watchNow wsX6_watchNow) := goodIn_app (goodIn_of _ (by decide +kernel)) ggX6_watch_X6_watchNow
theorem dX6_watch_0 : decode cX6_watch 0 = .ok (.aload_n 0, 1) := by decide +kernel
theorem dX6_watch_1 : decode cX6_watch 1 = .ok (.getfield 73, 3) := by decide +kernel
theorem dX6_watch_4 : decode cX6_watch 4 = .ok (.ifCond .ne 8, 3) := by decide +kernel
theorem dX6_watch_7 : decode cX6_watch 7 = .ok (.bipush (-103), 2) := by decide +kernel
theorem dX6_watch_9 : decode cX6_watch 9 = .ok (.goto 7, 3) := by decide +kernel
theorem dX6_watch_12 : decode cX6_watch 12 = .ok (.aload_n 0, 1) := by decide +kernel
theorem dX6_watch_13 : decode cX6_watch 13 = .ok (.invokevirtual 143, 3) := by decide +kernel
theorem dX6_watch_16 : decode cX6_watch 16 = .ok (.ireturn, 1) := by decide +kernel
theorem dX6_draw_0 : decode cX6_draw 0 = .ok (.aload_n 0, 1) := by decide +kernel
theorem dX6_draw_1 : decode cX6_draw 1 = .ok (.ldc2_w 146, 3) := by decide +kernel
theorem dX6_draw_4 : decode cX6_draw 4 = .ok (.aload_n 0, 1) := by decide +kernel
theorem dX6_draw_5 : decode cX6_draw 5 = .ok (.getfield 148, 3) := by decide +kernel
theorem dX6_draw_8 : decode cX6_draw 8 = .ok (.lmul, 1) := by decide +kernel
theorem dX6_draw_9 : decode cX6_draw 9 = .ok (.ldc2_w 152, 3) := by decide +kernel
theorem dX6_draw_12 : decode cX6_draw 12 = .ok (.ladd, 1) := by decide +kernel
theorem dX6_draw_13 : decode cX6_draw 13 = .ok (.ldc2_w 154, 3) := by decide +kernel
theorem dX6_draw_16 : decode cX6_draw 16 = .ok (.land, 1) := by decide +kernel
theorem dX6_draw_17 : decode cX6_draw 17 = .ok (.putfield 148, 3) := by decide +kernel
theorem dX6_draw_20 : decode cX6_draw 20 = .ok (.aload_n 0, 1) := by decide +kernel
theorem dX6_draw_21 : decode cX6_draw 21 = .ok (.getfield 148, 3) := by decide +kernel
theorem dX6_draw_24 : decode cX6_draw 24 = .ok (.ldc2_w 156, 3) := by decide +kernel
theorem dX6_draw_27 : decode cX6_draw 27 = .ok (.ldiv, 1) := by decide +kernel
theorem dX6_draw_28 : decode cX6_draw 28 = .ok (.iload_n 1, 1) := by decide +kernel
theorem dX6_draw_29 : decode cX6_draw 29 = .ok (.i2l, 1) := by decide +kernel
theorem dX6_draw_30 : decode cX6_draw 30 = .ok (.lrem, 1) := by decide +kernel
theorem dX6_draw_31 : decode cX6_draw 31 = .ok (.l2i, 1) := by decide +kernel
theorem dX6_draw_32 : decode cX6_draw 32 = .ok (.ireturn, 1) := by decide +kernel
theorem dX6_weighsAll_0 : decode cX6_weighsAll 0 = .ok (.iconst 0, 1) := by decide +kernel
theorem dX6_weighsAll_1 : decode cX6_weighsAll 1 = .ok (.istore_n 1, 1) := by decide +kernel
theorem dX6_weighsAll_2 : decode cX6_weighsAll 2 = .ok (.iconst 0, 1) := by decide +kernel
theorem dX6_weighsAll_3 : decode cX6_weighsAll 3 = .ok (.istore_n 2, 1) := by decide +kernel
theorem dX6_weighsAll_4 : decode cX6_weighsAll 4 = .ok (.iload_n 2, 1) := by decide +kernel
theorem dX6_weighsAll_5 : decode cX6_weighsAll 5 = .ok (.aload_n 0, 1) := by decide +kernel
theorem dX6_weighsAll_6 : decode cX6_weighsAll 6 = .ok (.getfield 73, 3) := by decide +kernel
theorem dX6_weighsAll_9 : decode cX6_weighsAll 9 = .ok (.if_icmp .ge 18, 3) := by decide +kernel
theorem dX6_weighsAll_12 : decode cX6_weighsAll 12 = .ok (.iload_n 1, 1) := by decide +kernel
theorem dX6_weighsAll_13 : decode cX6_weighsAll 13 = .ok (.aload_n 0, 1) := by decide +kernel
theorem dX6_weighsAll_14 : decode cX6_weighsAll 14 = .ok (.getfield 13, 3) := by decide +kernel
theorem dX6_weighsAll_17 : decode cX6_weighsAll 17 = .ok (.iload_n 2, 1) := by decide +kernel
theorem dX6_weighsAll_18 : decode cX6_weighsAll 18 = .ok (.iaload, 1) := by decide +kernel
theorem dX6_weighsAll_19 : decode cX6_weighsAll 19 = .ok (.iadd, 1) := by decide +kernel
theorem dX6_weighsAll_20 : decode cX6_weighsAll 20 = .ok (.istore_n 1, 1) := by decide +kernel
theorem dX6_weighsAll_21 : decode cX6_weighsAll 21 = .ok (.iinc 2 1, 3) := by decide +kernel
theorem dX6_weighsAll_24 : decode cX6_weighsAll 24 = .ok (.goto (-20), 3) := by decide +kernel
theorem dX6_weighsAll_27 : decode cX6_weighsAll 27 = .ok (.iload_n 1, 1) := by decide +kernel
theorem dX6_weighsAll_28 : decode cX6_weighsAll 28 = .ok (.ireturn, 1) := by decide +kernel
set_option maxRecDepth 20000 in
theorem ggX6_marketsNow_X6_save : GoodIn wsX6_marketsNow wsX6_save := goodIn_r _ [8, 9, 10, 37, 38, 39, 40, 41, 42, 43, 44, 45, 46, 47, 48, 49, 50, 51, 52, 53, 54, 55, 56, 57, 58, 59, 60, 61, 62, 63, 64, 65, 66] (by decide +kernel) (by decide +kernel)
set_option maxRecDepth 20000 in
theorem gX6_marketsNow_X6_save : GoodIn wsX6_marketsNow (wsV RX6 117 RX6 yX6_save wsX6_save) := goodIn_app (goodIn_of _ (by decide +kernel)) ggX6_marketsNow_X6_save
set_option maxRecDepth 20000 in
theorem ggX6_marketsNow_X6_draw : GoodIn wsX6_marketsNow wsX6_draw := goodIn_r _ [14, 15, 1, 16, 17, 18, 37, 38, 39, 40, 41, 42, 43, 44, 45, 46, 47, 48, 49, 50, 51, 52, 53, 54, 55, 56, 57, 58, 59, 60, 61, 62, 63, 64, 65, 66] (by decide +kernel) (by decide +kernel)
set_option maxRecDepth 20000 in
theorem gX6_marketsNow_X6_draw : GoodIn wsX6_marketsNow (wsV RX6 158 RX6 yX6_draw wsX6_draw) := goodIn_app (goodIn_of _ (by decide +kernel)) ggX6_marketsNow_X6_draw
set_option maxRecDepth 20000 in
theorem ggX6_marketsNow_X6_ounces : GoodIn wsX6_marketsNow wsX6_ounces := goodIn_r _ [22, 10, 23, 24, 37, 38, 39, 40, 41, 42, 43, 44, 45, 46, 47, 48, 49, 50, 51, 52, 53, 54, 55, 56, 57, 58, 59, 60, 61, 62, 63, 64, 65, 66] (by decide +kernel) (by decide +kernel)
set_option maxRecDepth 20000 in
theorem gX6_marketsNow_X6_ounces : GoodIn wsX6_marketsNow (wsV RX6 105 RX6 yX6_ounces wsX6_ounces) := goodIn_app (goodIn_of _ (by decide +kernel)) ggX6_marketsNow_X6_ounces
set_option maxRecDepth 20000 in
theorem ggX6_marketsNow_X6_wear : GoodIn wsX6_marketsNow wsX6_wear := goodIn_r _ [28, 24, 10, 37, 38, 39, 40, 41, 42, 43, 44, 45, 46, 47, 48, 49, 50, 51, 52, 53, 54, 55, 56, 57, 58, 59, 60, 61, 62, 63, 64, 65, 66] (by decide +kernel) (by decide +kernel)
set_option maxRecDepth 20000 in
theorem gX6_marketsNow_X6_wear : GoodIn wsX6_marketsNow (wsV RX6 109 RX6 yX6_wear wsX6_wear) := goodIn_app (goodIn_of _ (by decide +kernel)) ggX6_marketsNow_X6_wear
set_option maxRecDepth 20000 in
theorem ggX6_marketsNow_X6_weighsAll : GoodIn wsX6_marketsNow wsX6_weighsAll := goodIn_r _ [32, 2, 10, 37, 38, 39, 40, 41, 42, 43, 44, 45, 46, 47, 48, 49, 50, 51, 52, 53, 54, 55, 56, 57, 58, 59, 60, 61, 62, 63, 64, 65, 66] (by decide +kernel) (by decide +kernel)
set_option maxRecDepth 20000 in
theorem gX6_marketsNow_X6_weighsAll : GoodIn wsX6_marketsNow (wsV RX6 161 RX6 yX6_weighsAll wsX6_weighsAll) := goodIn_app (goodIn_of _ (by decide +kernel)) ggX6_marketsNow_X6_weighsAll
set_option maxRecDepth 20000 in
theorem ggX6_marketsNow_X6_load : GoodIn wsX6_marketsNow wsX6_load := goodIn_r _ [36, 10, 9, 37, 38, 39, 40, 41, 42, 43, 44, 45, 46, 47, 48, 49, 50, 51, 52, 53, 54, 55, 56, 57, 58, 59, 60, 61, 62, 63, 64, 65, 66] (by decide +kernel) (by decide +kernel)
set_option maxRecDepth 20000 in
theorem gX6_marketsNow_X6_load : GoodIn wsX6_marketsNow (wsV RX6 113 RX6 yX6_load wsX6_load) := goodIn_app (goodIn_of _ (by decide +kernel)) ggX6_marketsNow_X6_load
theorem dX6_marketsNow_0 : decode cX6_marketsNow 0 = .ok (.aload_n 0, 1) := by decide +kernel
theorem dX6_marketsNow_1 : decode cX6_marketsNow 1 = .ok (.invokevirtual 117, 3) := by decide +kernel
theorem dX6_marketsNow_4 : decode cX6_marketsNow 4 = .ok (.aload_n 0, 1) := by decide +kernel
theorem dX6_marketsNow_5 : decode cX6_marketsNow 5 = .ok (.iload_n 2, 1) := by decide +kernel
theorem dX6_marketsNow_6 : decode cX6_marketsNow 6 = .ok (.i2l, 1) := by decide +kernel
theorem dX6_marketsNow_7 : decode cX6_marketsNow 7 = .ok (.putfield 148, 3) := by decide +kernel
theorem dX6_marketsNow_10 : decode cX6_marketsNow 10 = .ok (.iconst 0, 1) := by decide +kernel
theorem dX6_marketsNow_11 : decode cX6_marketsNow 11 = .ok (.istore 4, 2) := by decide +kernel
theorem dX6_marketsNow_13 : decode cX6_marketsNow 13 = .ok (.iconst 0, 1) := by decide +kernel
theorem dX6_marketsNow_14 : decode cX6_marketsNow 14 = .ok (.istore 5, 2) := by decide +kernel
theorem dX6_marketsNow_16 : decode cX6_marketsNow 16 = .ok (.iload 5, 2) := by decide +kernel
theorem dX6_marketsNow_18 : decode cX6_marketsNow 18 = .ok (.iload_n 1, 1) := by decide +kernel
theorem dX6_marketsNow_19 : decode cX6_marketsNow 19 = .ok (.if_icmp .ge 74, 3) := by decide +kernel
theorem dX6_marketsNow_22 : decode cX6_marketsNow 22 = .ok (.aload_n 0, 1) := by decide +kernel
theorem dX6_marketsNow_23 : decode cX6_marketsNow 23 = .ok (.aload_n 0, 1) := by decide +kernel
theorem dX6_marketsNow_24 : decode cX6_marketsNow 24 = .ok (.getfield 73, 3) := by decide +kernel
theorem dX6_marketsNow_27 : decode cX6_marketsNow 27 = .ok (.invokevirtual 158, 3) := by decide +kernel
theorem dX6_marketsNow_30 : decode cX6_marketsNow 30 = .ok (.istore 6, 2) := by decide +kernel
theorem dX6_marketsNow_32 : decode cX6_marketsNow 32 = .ok (.aload_n 0, 1) := by decide +kernel
theorem dX6_marketsNow_33 : decode cX6_marketsNow 33 = .ok (.aload_n 0, 1) := by decide +kernel
theorem dX6_marketsNow_34 : decode cX6_marketsNow 34 = .ok (.getfield 73, 3) := by decide +kernel
theorem dX6_marketsNow_37 : decode cX6_marketsNow 37 = .ok (.invokevirtual 158, 3) := by decide +kernel
theorem dX6_marketsNow_40 : decode cX6_marketsNow 40 = .ok (.istore 7, 2) := by decide +kernel
theorem dX6_marketsNow_42 : decode cX6_marketsNow 42 = .ok (.aload_n 0, 1) := by decide +kernel
theorem dX6_marketsNow_43 : decode cX6_marketsNow 43 = .ok (.aload_n 0, 1) := by decide +kernel
theorem dX6_marketsNow_44 : decode cX6_marketsNow 44 = .ok (.getfield 73, 3) := by decide +kernel
theorem dX6_marketsNow_47 : decode cX6_marketsNow 47 = .ok (.invokevirtual 158, 3) := by decide +kernel
theorem dX6_marketsNow_50 : decode cX6_marketsNow 50 = .ok (.istore 8, 2) := by decide +kernel
theorem dX6_marketsNow_52 : decode cX6_marketsNow 52 = .ok (.iload 6, 2) := by decide +kernel
theorem dX6_marketsNow_54 : decode cX6_marketsNow 54 = .ok (.iload 7, 2) := by decide +kernel
theorem dX6_marketsNow_56 : decode cX6_marketsNow 56 = .ok (.if_icmp .eq 31, 3) := by decide +kernel
theorem dX6_marketsNow_59 : decode cX6_marketsNow 59 = .ok (.iload 4, 2) := by decide +kernel
theorem dX6_marketsNow_61 : decode cX6_marketsNow 61 = .ok (.aload_n 0, 1) := by decide +kernel
theorem dX6_marketsNow_62 : decode cX6_marketsNow 62 = .ok (.iload 6, 2) := by decide +kernel
theorem dX6_marketsNow_64 : decode cX6_marketsNow 64 = .ok (.iload 8, 2) := by decide +kernel
theorem dX6_marketsNow_66 : decode cX6_marketsNow 66 = .ok (.aload_n 0, 1) := by decide +kernel
theorem dX6_marketsNow_67 : decode cX6_marketsNow 67 = .ok (.getfield 82, 3) := by decide +kernel
theorem dX6_marketsNow_70 : decode cX6_marketsNow 70 = .ok (.iload 5, 2) := by decide +kernel
theorem dX6_marketsNow_72 : decode cX6_marketsNow 72 = .ok (.iadd, 1) := by decide +kernel
theorem dX6_marketsNow_73 : decode cX6_marketsNow 73 = .ok (.invokevirtual 105, 3) := by decide +kernel
theorem dX6_marketsNow_76 : decode cX6_marketsNow 76 = .ok (.iadd, 1) := by decide +kernel
theorem dX6_marketsNow_77 : decode cX6_marketsNow 77 = .ok (.istore 4, 2) := by decide +kernel
theorem dX6_marketsNow_79 : decode cX6_marketsNow 79 = .ok (.aload_n 0, 1) := by decide +kernel
theorem dX6_marketsNow_80 : decode cX6_marketsNow 80 = .ok (.iload 7, 2) := by decide +kernel
theorem dX6_marketsNow_82 : decode cX6_marketsNow 82 = .ok (.iload 8, 2) := by decide +kernel
theorem dX6_marketsNow_84 : decode cX6_marketsNow 84 = .ok (.invokevirtual 109, 3) := by decide +kernel
theorem dX6_marketsNow_87 : decode cX6_marketsNow 87 = .ok (.iinc 5 1, 3) := by decide +kernel
theorem dX6_marketsNow_90 : decode cX6_marketsNow 90 = .ok (.goto (-74), 3) := by decide +kernel
theorem dX6_marketsNow_93 : decode cX6_marketsNow 93 = .ok (.aload_n 0, 1) := by decide +kernel
theorem dX6_marketsNow_94 : decode cX6_marketsNow 94 = .ok (.invokevirtual 161, 3) := by decide +kernel
theorem dX6_marketsNow_97 : decode cX6_marketsNow 97 = .ok (.istore 5, 2) := by decide +kernel
theorem dX6_marketsNow_99 : decode cX6_marketsNow 99 = .ok (.aload_n 0, 1) := by decide +kernel
theorem dX6_marketsNow_100 : decode cX6_marketsNow 100 = .ok (.invokevirtual 113, 3) := by decide +kernel
theorem dX6_marketsNow_103 : decode cX6_marketsNow 103 = .ok (.iload_n 3, 1) := by decide +kernel
theorem dX6_marketsNow_104 : decode cX6_marketsNow 104 = .ok (.ifCond .ne 8, 3) := by decide +kernel
theorem dX6_marketsNow_107 : decode cX6_marketsNow 107 = .ok (.iload 4, 2) := by decide +kernel
theorem dX6_marketsNow_109 : decode cX6_marketsNow 109 = .ok (.goto 18, 3) := by decide +kernel
theorem dX6_marketsNow_112 : decode cX6_marketsNow 112 = .ok (.iload_n 3, 1) := by decide +kernel
theorem dX6_marketsNow_113 : decode cX6_marketsNow 113 = .ok (.iconst 1, 1) := by decide +kernel
theorem dX6_marketsNow_114 : decode cX6_marketsNow 114 = .ok (.if_icmp .ne 8, 3) := by decide +kernel
theorem dX6_marketsNow_117 : decode cX6_marketsNow 117 = .ok (.iload 5, 2) := by decide +kernel
theorem dX6_marketsNow_119 : decode cX6_marketsNow 119 = .ok (.goto 8, 3) := by decide +kernel
theorem dX6_marketsNow_122 : decode cX6_marketsNow 122 = .ok (.aload_n 0, 1) := by decide +kernel
theorem dX6_marketsNow_123 : decode cX6_marketsNow 123 = .ok (.getfield 148, 3) := by decide +kernel
theorem dX6_marketsNow_126 : decode cX6_marketsNow 126 = .ok (.l2i, 1) := by decide +kernel
theorem dX6_marketsNow_127 : decode cX6_marketsNow 127 = .ok (.ireturn, 1) := by decide +kernel
set_option maxRecDepth 20000 in
theorem ggX6_markets_X6_within : GoodIn wsX6_markets wsX6_within := goodIn_r _ [5] (by decide +kernel) (by decide +kernel)
set_option maxRecDepth 20000 in
theorem gX6_markets_X6_within : GoodIn wsX6_markets (va_wsS RX6 44 yX6_within wsX6_within) := goodIn_app (goodIn_of _ (by decide +kernel)) ggX6_markets_X6_within
set_option maxRecDepth 20000 in
theorem ggX6_markets_X6_marketsNow : GoodIn wsX6_markets wsX6_marketsNow := goodIn_r _ [9, 10, 1, 11, 12, 13, 14, 4, 15, 16, 17, 18, 19, 20, 21, 22, 23, 24, 25, 26, 27, 28, 29, 30, 31, 32, 33, 34, 35, 36, 37, 38, 39, 40, 41, 42, 43, 44, 45, 46, 47, 48, 49, 50, 51, 52, 53, 54, 55, 56, 57, 58, 59, 60, 61, 62, 63, 64, 65, 66, 67, 68, 69, 70, 71, 72, 73] (by decide +kernel) (by decide +kernel)
set_option maxRecDepth 20000 in
theorem gX6_markets_X6_marketsNow : GoodIn wsX6_markets (wsV RX6 164 RX6 yX6_marketsNow wsX6_marketsNow) := goodIn_app (goodIn_of _ (by decide +kernel)) ggX6_markets_X6_marketsNow
theorem dX6_markets_0 : decode cX6_markets 0 = .ok (.iload_n 1, 1) := by decide +kernel
theorem dX6_markets_1 : decode cX6_markets 1 = .ok (.iconst 1, 1) := by decide +kernel
theorem dX6_markets_2 : decode cX6_markets 2 = .ok (.bipush 60, 2) := by decide +kernel
theorem dX6_markets_4 : decode cX6_markets 4 = .ok (.invokestatic 44, 3) := by decide +kernel
theorem dX6_markets_7 : decode cX6_markets 7 = .ok (.ifCond .eq 16, 3) := by decide +kernel
theorem dX6_markets_10 : decode cX6_markets 10 = .ok (.iload_n 2, 1) := by decide +kernel
theorem dX6_markets_11 : decode cX6_markets 11 = .ok (.ifCond .lt 12, 3) := by decide +kernel
theorem dX6_markets_14 : decode cX6_markets 14 = .ok (.iload_n 3, 1) := by decide +kernel
theorem dX6_markets_15 : decode cX6_markets 15 = .ok (.iconst 0, 1) := by decide +kernel
theorem dX6_markets_16 : decode cX6_markets 16 = .ok (.iconst 2, 1) := by decide +kernel
theorem dX6_markets_17 : decode cX6_markets 17 = .ok (.invokestatic 44, 3) := by decide +kernel
theorem dX6_markets_20 : decode cX6_markets 20 = .ok (.ifCond .ne 6, 3) := by decide +kernel
theorem dX6_markets_23 : decode cX6_markets 23 = .ok (.bipush (-102), 2) := by decide +kernel
theorem dX6_markets_25 : decode cX6_markets 25 = .ok (.ireturn, 1) := by decide +kernel
theorem dX6_markets_26 : decode cX6_markets 26 = .ok (.aload_n 0, 1) := by decide +kernel
theorem dX6_markets_27 : decode cX6_markets 27 = .ok (.getfield 73, 3) := by decide +kernel
theorem dX6_markets_30 : decode cX6_markets 30 = .ok (.ifCond .ne 8, 3) := by decide +kernel
theorem dX6_markets_33 : decode cX6_markets 33 = .ok (.bipush (-103), 2) := by decide +kernel
theorem dX6_markets_35 : decode cX6_markets 35 = .ok (.goto 10, 3) := by decide +kernel
theorem dX6_markets_38 : decode cX6_markets 38 = .ok (.aload_n 0, 1) := by decide +kernel
theorem dX6_markets_39 : decode cX6_markets 39 = .ok (.iload_n 1, 1) := by decide +kernel
theorem dX6_markets_40 : decode cX6_markets 40 = .ok (.iload_n 2, 1) := by decide +kernel
theorem dX6_markets_41 : decode cX6_markets 41 = .ok (.iload_n 3, 1) := by decide +kernel
theorem dX6_markets_42 : decode cX6_markets 42 = .ok (.invokevirtual 164, 3) := by decide +kernel
theorem dX6_markets_45 : decode cX6_markets 45 = .ok (.ireturn, 1) := by decide +kernel
theorem dX6_image_0 : decode cX6_image 0 = .ok (.aload_n 0, 1) := by decide +kernel
theorem dX6_image_1 : decode cX6_image 1 = .ok (.getfield 73, 3) := by decide +kernel
theorem dX6_image_4 : decode cX6_image 4 = .ok (.ifCond .ne 6, 3) := by decide +kernel
theorem dX6_image_7 : decode cX6_image 7 = .ok (.bipush (-103), 2) := by decide +kernel
theorem dX6_image_9 : decode cX6_image 9 = .ok (.ireturn, 1) := by decide +kernel
theorem dX6_image_10 : decode cX6_image 10 = .ok (.aload_n 0, 1) := by decide +kernel
theorem dX6_image_11 : decode cX6_image 11 = .ok (.iconst 1, 1) := by decide +kernel
theorem dX6_image_12 : decode cX6_image 12 = .ok (.putfield 167, 3) := by decide +kernel
theorem dX6_image_15 : decode cX6_image 15 = .ok (.aload_n 0, 1) := by decide +kernel
theorem dX6_image_16 : decode cX6_image 16 = .ok (.aload_n 0, 1) := by decide +kernel
theorem dX6_image_17 : decode cX6_image 17 = .ok (.getfield 79, 3) := by decide +kernel
theorem dX6_image_20 : decode cX6_image 20 = .ok (.putfield 170, 3) := by decide +kernel
theorem dX6_image_23 : decode cX6_image 23 = .ok (.aload_n 0, 1) := by decide +kernel
theorem dX6_image_24 : decode cX6_image 24 = .ok (.aload_n 0, 1) := by decide +kernel
theorem dX6_image_25 : decode cX6_image 25 = .ok (.getfield 82, 3) := by decide +kernel
theorem dX6_image_28 : decode cX6_image 28 = .ok (.putfield 173, 3) := by decide +kernel
theorem dX6_image_31 : decode cX6_image 31 = .ok (.aload_n 0, 1) := by decide +kernel
theorem dX6_image_32 : decode cX6_image 32 = .ok (.aload_n 0, 1) := by decide +kernel
theorem dX6_image_33 : decode cX6_image 33 = .ok (.getfield 85, 3) := by decide +kernel
theorem dX6_image_36 : decode cX6_image 36 = .ok (.putfield 176, 3) := by decide +kernel
theorem dX6_image_39 : decode cX6_image 39 = .ok (.aload_n 0, 1) := by decide +kernel
theorem dX6_image_40 : decode cX6_image 40 = .ok (.aload_n 0, 1) := by decide +kernel
theorem dX6_image_41 : decode cX6_image 41 = .ok (.getfield 88, 3) := by decide +kernel
theorem dX6_image_44 : decode cX6_image 44 = .ok (.putfield 179, 3) := by decide +kernel
theorem dX6_image_47 : decode cX6_image 47 = .ok (.aload_n 0, 1) := by decide +kernel
theorem dX6_image_48 : decode cX6_image 48 = .ok (.aload_n 0, 1) := by decide +kernel
theorem dX6_image_49 : decode cX6_image 49 = .ok (.getfield 91, 3) := by decide +kernel
theorem dX6_image_52 : decode cX6_image 52 = .ok (.putfield 182, 3) := by decide +kernel
theorem dX6_image_55 : decode cX6_image 55 = .ok (.iconst 0, 1) := by decide +kernel
theorem dX6_image_56 : decode cX6_image 56 = .ok (.istore_n 1, 1) := by decide +kernel
theorem dX6_image_57 : decode cX6_image 57 = .ok (.iload_n 1, 1) := by decide +kernel
theorem dX6_image_58 : decode cX6_image 58 = .ok (.iconst 4, 1) := by decide +kernel
theorem dX6_image_59 : decode cX6_image 59 = .ok (.if_icmp .ge 109, 3) := by decide +kernel
theorem dX6_image_62 : decode cX6_image 62 = .ok (.aload_n 0, 1) := by decide +kernel
theorem dX6_image_63 : decode cX6_image 63 = .ok (.getfield 41, 3) := by decide +kernel
theorem dX6_image_66 : decode cX6_image 66 = .ok (.bipush 6, 2) := by decide +kernel
theorem dX6_image_68 : decode cX6_image 68 = .ok (.iload_n 1, 1) := by decide +kernel
theorem dX6_image_69 : decode cX6_image 69 = .ok (.imul, 1) := by decide +kernel
theorem dX6_image_70 : decode cX6_image 70 = .ok (.aload_n 0, 1) := by decide +kernel
theorem dX6_image_71 : decode cX6_image 71 = .ok (.getfield 13, 3) := by decide +kernel
theorem dX6_image_74 : decode cX6_image 74 = .ok (.iload_n 1, 1) := by decide +kernel
theorem dX6_image_75 : decode cX6_image 75 = .ok (.iaload, 1) := by decide +kernel
theorem dX6_image_76 : decode cX6_image 76 = .ok (.iastore, 1) := by decide +kernel
theorem dX6_image_77 : decode cX6_image 77 = .ok (.aload_n 0, 1) := by decide +kernel
theorem dX6_image_78 : decode cX6_image 78 = .ok (.getfield 41, 3) := by decide +kernel
theorem dX6_image_81 : decode cX6_image 81 = .ok (.bipush 6, 2) := by decide +kernel
theorem dX6_image_83 : decode cX6_image 83 = .ok (.iload_n 1, 1) := by decide +kernel
theorem dX6_image_84 : decode cX6_image 84 = .ok (.imul, 1) := by decide +kernel
theorem dX6_image_85 : decode cX6_image 85 = .ok (.iconst 1, 1) := by decide +kernel
theorem dX6_image_86 : decode cX6_image 86 = .ok (.iadd, 1) := by decide +kernel
theorem dX6_image_87 : decode cX6_image 87 = .ok (.aload_n 0, 1) := by decide +kernel
theorem dX6_image_88 : decode cX6_image 88 = .ok (.getfield 19, 3) := by decide +kernel
theorem dX6_image_91 : decode cX6_image 91 = .ok (.iload_n 1, 1) := by decide +kernel
theorem dX6_image_92 : decode cX6_image 92 = .ok (.iaload, 1) := by decide +kernel
theorem dX6_image_93 : decode cX6_image 93 = .ok (.iastore, 1) := by decide +kernel
theorem dX6_image_94 : decode cX6_image 94 = .ok (.aload_n 0, 1) := by decide +kernel
theorem dX6_image_95 : decode cX6_image 95 = .ok (.getfield 41, 3) := by decide +kernel
theorem dX6_image_98 : decode cX6_image 98 = .ok (.bipush 6, 2) := by decide +kernel
theorem dX6_image_100 : decode cX6_image 100 = .ok (.iload_n 1, 1) := by decide +kernel
theorem dX6_image_101 : decode cX6_image 101 = .ok (.imul, 1) := by decide +kernel
theorem dX6_image_102 : decode cX6_image 102 = .ok (.iconst 2, 1) := by decide +kernel
theorem dX6_image_103 : decode cX6_image 103 = .ok (.iadd, 1) := by decide +kernel
theorem dX6_image_104 : decode cX6_image 104 = .ok (.aload_n 0, 1) := by decide +kernel
theorem dX6_image_105 : decode cX6_image 105 = .ok (.getfield 22, 3) := by decide +kernel
theorem dX6_image_108 : decode cX6_image 108 = .ok (.iload_n 1, 1) := by decide +kernel
theorem dX6_image_109 : decode cX6_image 109 = .ok (.iaload, 1) := by decide +kernel
theorem dX6_image_110 : decode cX6_image 110 = .ok (.iastore, 1) := by decide +kernel
theorem dX6_image_111 : decode cX6_image 111 = .ok (.aload_n 0, 1) := by decide +kernel
theorem dX6_image_112 : decode cX6_image 112 = .ok (.getfield 41, 3) := by decide +kernel
theorem dX6_image_115 : decode cX6_image 115 = .ok (.bipush 6, 2) := by decide +kernel
theorem dX6_image_117 : decode cX6_image 117 = .ok (.iload_n 1, 1) := by decide +kernel
theorem dX6_image_118 : decode cX6_image 118 = .ok (.imul, 1) := by decide +kernel
theorem dX6_image_119 : decode cX6_image 119 = .ok (.iconst 3, 1) := by decide +kernel
theorem dX6_image_120 : decode cX6_image 120 = .ok (.iadd, 1) := by decide +kernel
theorem dX6_image_121 : decode cX6_image 121 = .ok (.aload_n 0, 1) := by decide +kernel
theorem dX6_image_122 : decode cX6_image 122 = .ok (.getfield 25, 3) := by decide +kernel
theorem dX6_image_125 : decode cX6_image 125 = .ok (.iload_n 1, 1) := by decide +kernel
theorem dX6_image_126 : decode cX6_image 126 = .ok (.iaload, 1) := by decide +kernel
theorem dX6_image_127 : decode cX6_image 127 = .ok (.iastore, 1) := by decide +kernel
theorem dX6_image_128 : decode cX6_image 128 = .ok (.aload_n 0, 1) := by decide +kernel
theorem dX6_image_129 : decode cX6_image 129 = .ok (.getfield 41, 3) := by decide +kernel
theorem dX6_image_132 : decode cX6_image 132 = .ok (.bipush 6, 2) := by decide +kernel
theorem dX6_image_134 : decode cX6_image 134 = .ok (.iload_n 1, 1) := by decide +kernel
theorem dX6_image_135 : decode cX6_image 135 = .ok (.imul, 1) := by decide +kernel
theorem dX6_image_136 : decode cX6_image 136 = .ok (.iconst 4, 1) := by decide +kernel
theorem dX6_image_137 : decode cX6_image 137 = .ok (.iadd, 1) := by decide +kernel
theorem dX6_image_138 : decode cX6_image 138 = .ok (.aload_n 0, 1) := by decide +kernel
theorem dX6_image_139 : decode cX6_image 139 = .ok (.getfield 28, 3) := by decide +kernel
theorem dX6_image_142 : decode cX6_image 142 = .ok (.iload_n 1, 1) := by decide +kernel
theorem dX6_image_143 : decode cX6_image 143 = .ok (.iaload, 1) := by decide +kernel
theorem dX6_image_144 : decode cX6_image 144 = .ok (.iastore, 1) := by decide +kernel
theorem dX6_image_145 : decode cX6_image 145 = .ok (.aload_n 0, 1) := by decide +kernel
theorem dX6_image_146 : decode cX6_image 146 = .ok (.getfield 41, 3) := by decide +kernel
theorem dX6_image_149 : decode cX6_image 149 = .ok (.bipush 6, 2) := by decide +kernel
theorem dX6_image_151 : decode cX6_image 151 = .ok (.iload_n 1, 1) := by decide +kernel
theorem dX6_image_152 : decode cX6_image 152 = .ok (.imul, 1) := by decide +kernel
theorem dX6_image_153 : decode cX6_image 153 = .ok (.iconst 5, 1) := by decide +kernel
theorem dX6_image_154 : decode cX6_image 154 = .ok (.iadd, 1) := by decide +kernel
theorem dX6_image_155 : decode cX6_image 155 = .ok (.aload_n 0, 1) := by decide +kernel
theorem dX6_image_156 : decode cX6_image 156 = .ok (.getfield 31, 3) := by decide +kernel
theorem dX6_image_159 : decode cX6_image 159 = .ok (.iload_n 1, 1) := by decide +kernel
theorem dX6_image_160 : decode cX6_image 160 = .ok (.iaload, 1) := by decide +kernel
theorem dX6_image_161 : decode cX6_image 161 = .ok (.iastore, 1) := by decide +kernel
theorem dX6_image_162 : decode cX6_image 162 = .ok (.iinc 1 1, 3) := by decide +kernel
theorem dX6_image_165 : decode cX6_image 165 = .ok (.goto (-108), 3) := by decide +kernel
theorem dX6_image_168 : decode cX6_image 168 = .ok (.aload_n 0, 1) := by decide +kernel
theorem dX6_image_169 : decode cX6_image 169 = .ok (.getfield 82, 3) := by decide +kernel
theorem dX6_image_172 : decode cX6_image 172 = .ok (.ireturn, 1) := by decide +kernel
theorem dX6_restore_0 : decode cX6_restore 0 = .ok (.aload_n 0, 1) := by decide +kernel
theorem dX6_restore_1 : decode cX6_restore 1 = .ok (.getfield 167, 3) := by decide +kernel
theorem dX6_restore_4 : decode cX6_restore 4 = .ok (.ifCond .eq 14, 3) := by decide +kernel
theorem dX6_restore_7 : decode cX6_restore 7 = .ok (.aload_n 0, 1) := by decide +kernel
theorem dX6_restore_8 : decode cX6_restore 8 = .ok (.getfield 170, 3) := by decide +kernel
theorem dX6_restore_11 : decode cX6_restore 11 = .ok (.aload_n 0, 1) := by decide +kernel
theorem dX6_restore_12 : decode cX6_restore 12 = .ok (.getfield 79, 3) := by decide +kernel
theorem dX6_restore_15 : decode cX6_restore 15 = .ok (.if_icmp .eq 6, 3) := by decide +kernel
theorem dX6_restore_18 : decode cX6_restore 18 = .ok (.bipush (-103), 2) := by decide +kernel
theorem dX6_restore_20 : decode cX6_restore 20 = .ok (.ireturn, 1) := by decide +kernel
theorem dX6_restore_21 : decode cX6_restore 21 = .ok (.aload_n 0, 1) := by decide +kernel
theorem dX6_restore_22 : decode cX6_restore 22 = .ok (.aload_n 0, 1) := by decide +kernel
theorem dX6_restore_23 : decode cX6_restore 23 = .ok (.getfield 173, 3) := by decide +kernel
theorem dX6_restore_26 : decode cX6_restore 26 = .ok (.putfield 82, 3) := by decide +kernel
theorem dX6_restore_29 : decode cX6_restore 29 = .ok (.aload_n 0, 1) := by decide +kernel
theorem dX6_restore_30 : decode cX6_restore 30 = .ok (.aload_n 0, 1) := by decide +kernel
theorem dX6_restore_31 : decode cX6_restore 31 = .ok (.getfield 176, 3) := by decide +kernel
theorem dX6_restore_34 : decode cX6_restore 34 = .ok (.putfield 85, 3) := by decide +kernel
theorem dX6_restore_37 : decode cX6_restore 37 = .ok (.aload_n 0, 1) := by decide +kernel
theorem dX6_restore_38 : decode cX6_restore 38 = .ok (.aload_n 0, 1) := by decide +kernel
theorem dX6_restore_39 : decode cX6_restore 39 = .ok (.getfield 179, 3) := by decide +kernel
theorem dX6_restore_42 : decode cX6_restore 42 = .ok (.putfield 88, 3) := by decide +kernel
theorem dX6_restore_45 : decode cX6_restore 45 = .ok (.aload_n 0, 1) := by decide +kernel
theorem dX6_restore_46 : decode cX6_restore 46 = .ok (.aload_n 0, 1) := by decide +kernel
theorem dX6_restore_47 : decode cX6_restore 47 = .ok (.getfield 182, 3) := by decide +kernel
theorem dX6_restore_50 : decode cX6_restore 50 = .ok (.putfield 91, 3) := by decide +kernel
theorem dX6_restore_53 : decode cX6_restore 53 = .ok (.iconst 0, 1) := by decide +kernel
theorem dX6_restore_54 : decode cX6_restore 54 = .ok (.istore_n 1, 1) := by decide +kernel
theorem dX6_restore_55 : decode cX6_restore 55 = .ok (.iload_n 1, 1) := by decide +kernel
theorem dX6_restore_56 : decode cX6_restore 56 = .ok (.iconst 4, 1) := by decide +kernel
theorem dX6_restore_57 : decode cX6_restore 57 = .ok (.if_icmp .ge 109, 3) := by decide +kernel
theorem dX6_restore_60 : decode cX6_restore 60 = .ok (.aload_n 0, 1) := by decide +kernel
theorem dX6_restore_61 : decode cX6_restore 61 = .ok (.getfield 13, 3) := by decide +kernel
theorem dX6_restore_64 : decode cX6_restore 64 = .ok (.iload_n 1, 1) := by decide +kernel
theorem dX6_restore_65 : decode cX6_restore 65 = .ok (.aload_n 0, 1) := by decide +kernel
theorem dX6_restore_66 : decode cX6_restore 66 = .ok (.getfield 41, 3) := by decide +kernel
theorem dX6_restore_69 : decode cX6_restore 69 = .ok (.bipush 6, 2) := by decide +kernel
theorem dX6_restore_71 : decode cX6_restore 71 = .ok (.iload_n 1, 1) := by decide +kernel
theorem dX6_restore_72 : decode cX6_restore 72 = .ok (.imul, 1) := by decide +kernel
theorem dX6_restore_73 : decode cX6_restore 73 = .ok (.iaload, 1) := by decide +kernel
theorem dX6_restore_74 : decode cX6_restore 74 = .ok (.iastore, 1) := by decide +kernel
theorem dX6_restore_75 : decode cX6_restore 75 = .ok (.aload_n 0, 1) := by decide +kernel
theorem dX6_restore_76 : decode cX6_restore 76 = .ok (.getfield 19, 3) := by decide +kernel
theorem dX6_restore_79 : decode cX6_restore 79 = .ok (.iload_n 1, 1) := by decide +kernel
theorem dX6_restore_80 : decode cX6_restore 80 = .ok (.aload_n 0, 1) := by decide +kernel
theorem dX6_restore_81 : decode cX6_restore 81 = .ok (.getfield 41, 3) := by decide +kernel
theorem dX6_restore_84 : decode cX6_restore 84 = .ok (.bipush 6, 2) := by decide +kernel
theorem dX6_restore_86 : decode cX6_restore 86 = .ok (.iload_n 1, 1) := by decide +kernel
theorem dX6_restore_87 : decode cX6_restore 87 = .ok (.imul, 1) := by decide +kernel
theorem dX6_restore_88 : decode cX6_restore 88 = .ok (.iconst 1, 1) := by decide +kernel
theorem dX6_restore_89 : decode cX6_restore 89 = .ok (.iadd, 1) := by decide +kernel
theorem dX6_restore_90 : decode cX6_restore 90 = .ok (.iaload, 1) := by decide +kernel
theorem dX6_restore_91 : decode cX6_restore 91 = .ok (.iastore, 1) := by decide +kernel
theorem dX6_restore_92 : decode cX6_restore 92 = .ok (.aload_n 0, 1) := by decide +kernel
theorem dX6_restore_93 : decode cX6_restore 93 = .ok (.getfield 22, 3) := by decide +kernel
theorem dX6_restore_96 : decode cX6_restore 96 = .ok (.iload_n 1, 1) := by decide +kernel
theorem dX6_restore_97 : decode cX6_restore 97 = .ok (.aload_n 0, 1) := by decide +kernel
theorem dX6_restore_98 : decode cX6_restore 98 = .ok (.getfield 41, 3) := by decide +kernel
theorem dX6_restore_101 : decode cX6_restore 101 = .ok (.bipush 6, 2) := by decide +kernel
theorem dX6_restore_103 : decode cX6_restore 103 = .ok (.iload_n 1, 1) := by decide +kernel
theorem dX6_restore_104 : decode cX6_restore 104 = .ok (.imul, 1) := by decide +kernel
theorem dX6_restore_105 : decode cX6_restore 105 = .ok (.iconst 2, 1) := by decide +kernel
theorem dX6_restore_106 : decode cX6_restore 106 = .ok (.iadd, 1) := by decide +kernel
theorem dX6_restore_107 : decode cX6_restore 107 = .ok (.iaload, 1) := by decide +kernel
theorem dX6_restore_108 : decode cX6_restore 108 = .ok (.iastore, 1) := by decide +kernel
theorem dX6_restore_109 : decode cX6_restore 109 = .ok (.aload_n 0, 1) := by decide +kernel
theorem dX6_restore_110 : decode cX6_restore 110 = .ok (.getfield 25, 3) := by decide +kernel
theorem dX6_restore_113 : decode cX6_restore 113 = .ok (.iload_n 1, 1) := by decide +kernel
theorem dX6_restore_114 : decode cX6_restore 114 = .ok (.aload_n 0, 1) := by decide +kernel
theorem dX6_restore_115 : decode cX6_restore 115 = .ok (.getfield 41, 3) := by decide +kernel
theorem dX6_restore_118 : decode cX6_restore 118 = .ok (.bipush 6, 2) := by decide +kernel
theorem dX6_restore_120 : decode cX6_restore 120 = .ok (.iload_n 1, 1) := by decide +kernel
theorem dX6_restore_121 : decode cX6_restore 121 = .ok (.imul, 1) := by decide +kernel
theorem dX6_restore_122 : decode cX6_restore 122 = .ok (.iconst 3, 1) := by decide +kernel
theorem dX6_restore_123 : decode cX6_restore 123 = .ok (.iadd, 1) := by decide +kernel
theorem dX6_restore_124 : decode cX6_restore 124 = .ok (.iaload, 1) := by decide +kernel
theorem dX6_restore_125 : decode cX6_restore 125 = .ok (.iastore, 1) := by decide +kernel
theorem dX6_restore_126 : decode cX6_restore 126 = .ok (.aload_n 0, 1) := by decide +kernel
theorem dX6_restore_127 : decode cX6_restore 127 = .ok (.getfield 28, 3) := by decide +kernel
theorem dX6_restore_130 : decode cX6_restore 130 = .ok (.iload_n 1, 1) := by decide +kernel
theorem dX6_restore_131 : decode cX6_restore 131 = .ok (.aload_n 0, 1) := by decide +kernel
theorem dX6_restore_132 : decode cX6_restore 132 = .ok (.getfield 41, 3) := by decide +kernel
theorem dX6_restore_135 : decode cX6_restore 135 = .ok (.bipush 6, 2) := by decide +kernel
theorem dX6_restore_137 : decode cX6_restore 137 = .ok (.iload_n 1, 1) := by decide +kernel
theorem dX6_restore_138 : decode cX6_restore 138 = .ok (.imul, 1) := by decide +kernel
theorem dX6_restore_139 : decode cX6_restore 139 = .ok (.iconst 4, 1) := by decide +kernel
theorem dX6_restore_140 : decode cX6_restore 140 = .ok (.iadd, 1) := by decide +kernel
theorem dX6_restore_141 : decode cX6_restore 141 = .ok (.iaload, 1) := by decide +kernel
theorem dX6_restore_142 : decode cX6_restore 142 = .ok (.iastore, 1) := by decide +kernel
theorem dX6_restore_143 : decode cX6_restore 143 = .ok (.aload_n 0, 1) := by decide +kernel
theorem dX6_restore_144 : decode cX6_restore 144 = .ok (.getfield 31, 3) := by decide +kernel
theorem dX6_restore_147 : decode cX6_restore 147 = .ok (.iload_n 1, 1) := by decide +kernel
theorem dX6_restore_148 : decode cX6_restore 148 = .ok (.aload_n 0, 1) := by decide +kernel
theorem dX6_restore_149 : decode cX6_restore 149 = .ok (.getfield 41, 3) := by decide +kernel
theorem dX6_restore_152 : decode cX6_restore 152 = .ok (.bipush 6, 2) := by decide +kernel
theorem dX6_restore_154 : decode cX6_restore 154 = .ok (.iload_n 1, 1) := by decide +kernel
theorem dX6_restore_155 : decode cX6_restore 155 = .ok (.imul, 1) := by decide +kernel
theorem dX6_restore_156 : decode cX6_restore 156 = .ok (.iconst 5, 1) := by decide +kernel
theorem dX6_restore_157 : decode cX6_restore 157 = .ok (.iadd, 1) := by decide +kernel
theorem dX6_restore_158 : decode cX6_restore 158 = .ok (.iaload, 1) := by decide +kernel
theorem dX6_restore_159 : decode cX6_restore 159 = .ok (.iastore, 1) := by decide +kernel
theorem dX6_restore_160 : decode cX6_restore 160 = .ok (.iinc 1 1, 3) := by decide +kernel
theorem dX6_restore_163 : decode cX6_restore 163 = .ok (.goto (-108), 3) := by decide +kernel
theorem dX6_restore_166 : decode cX6_restore 166 = .ok (.aload_n 0, 1) := by decide +kernel
theorem dX6_restore_167 : decode cX6_restore 167 = .ok (.getfield 82, 3) := by decide +kernel
theorem dX6_restore_170 : decode cX6_restore 170 = .ok (.ireturn, 1) := by decide +kernel
set_option maxRecDepth 20000 in
theorem ggX6_sum_X6_houseNow : GoodIn wsX6_sum wsX6_houseNow := goodIn_r _ [6, 7, 8, 9, 10, 11, 12, 13, 14, 15, 16, 17, 18, 19, 20, 21, 22, 23, 24, 25, 26, 27, 28, 29, 30, 31, 32, 33, 34, 35, 36, 37, 38, 39, 40, 41, 42, 43] (by decide +kernel) (by decide +kernel)
set_option maxRecDepth 20000 in
theorem gX6_sum_X6_houseNow : GoodIn wsX6_sum (wsV RX6 98 RX6 yX6_houseNow wsX6_houseNow) := goodIn_app (goodIn_of _ (by decide +kernel)) ggX6_sum_X6_houseNow
theorem dX6_sum_0 : decode cX6_sum 0 = .ok (.iconst 0, 1) := by decide +kernel
theorem dX6_sum_1 : decode cX6_sum 1 = .ok (.istore_n 2, 1) := by decide +kernel
theorem dX6_sum_2 : decode cX6_sum 2 = .ok (.iconst 0, 1) := by decide +kernel
theorem dX6_sum_3 : decode cX6_sum 3 = .ok (.istore_n 3, 1) := by decide +kernel
theorem dX6_sum_4 : decode cX6_sum 4 = .ok (.iload_n 3, 1) := by decide +kernel
theorem dX6_sum_5 : decode cX6_sum 5 = .ok (.aload_n 0, 1) := by decide +kernel
theorem dX6_sum_6 : decode cX6_sum 6 = .ok (.getfield 73, 3) := by decide +kernel
theorem dX6_sum_9 : decode cX6_sum 9 = .ok (.if_icmp .ge 18, 3) := by decide +kernel
theorem dX6_sum_12 : decode cX6_sum 12 = .ok (.iload_n 2, 1) := by decide +kernel
theorem dX6_sum_13 : decode cX6_sum 13 = .ok (.aload_n 0, 1) := by decide +kernel
theorem dX6_sum_14 : decode cX6_sum 14 = .ok (.iload_n 3, 1) := by decide +kernel
theorem dX6_sum_15 : decode cX6_sum 15 = .ok (.iload_n 1, 1) := by decide +kernel
theorem dX6_sum_16 : decode cX6_sum 16 = .ok (.invokevirtual 98, 3) := by decide +kernel
theorem dX6_sum_19 : decode cX6_sum 19 = .ok (.iadd, 1) := by decide +kernel
theorem dX6_sum_20 : decode cX6_sum 20 = .ok (.istore_n 2, 1) := by decide +kernel
theorem dX6_sum_21 : decode cX6_sum 21 = .ok (.iinc 3 1, 3) := by decide +kernel
theorem dX6_sum_24 : decode cX6_sum 24 = .ok (.goto (-20), 3) := by decide +kernel
theorem dX6_sum_27 : decode cX6_sum 27 = .ok (.iload_n 2, 1) := by decide +kernel
theorem dX6_sum_28 : decode cX6_sum 28 = .ok (.ireturn, 1) := by decide +kernel
set_option maxRecDepth 20000 in
theorem ggX6_howMany_X6_sum : GoodIn wsX6_howMany wsX6_sum := goodIn_r _ [14, 1, 15, 16, 17, 13, 18, 19, 20, 21, 22, 23, 24, 25, 30, 31, 32, 33, 34, 35, 36, 37, 38, 39, 40, 41, 42, 43, 44, 45, 46, 47, 48, 49, 50, 51, 52, 53, 54, 55, 56, 57, 58, 59] (by decide +kernel) (by decide +kernel)
set_option maxRecDepth 20000 in
theorem gX6_howMany_X6_sum : GoodIn wsX6_howMany (wsV RX6 185 RX6 yX6_sum wsX6_sum) := goodIn_app (goodIn_of _ (by decide +kernel)) ggX6_howMany_X6_sum
set_option maxRecDepth 20000 in
theorem ggX6_howMany_X6_weighsAll : GoodIn wsX6_howMany wsX6_weighsAll := goodIn_r _ [29, 1, 20, 30, 31, 32, 33, 34, 35, 36, 37, 38, 39, 40, 41, 42, 43, 44, 45, 46, 47, 48, 49, 50, 51, 52, 53, 54, 55, 56, 57, 58, 59] (by decide +kernel) (by decide +kernel)
set_option maxRecDepth 20000 in
theorem gX6_howMany_X6_weighsAll : GoodIn wsX6_howMany (wsV RX6 161 RX6 yX6_weighsAll wsX6_weighsAll) := goodIn_app (goodIn_of _ (by decide +kernel)) ggX6_howMany_X6_weighsAll
theorem dX6_howMany_0 : decode cX6_howMany 0 = .ok (.iload_n 1, 1) := by decide +kernel
theorem dX6_howMany_1 : decode cX6_howMany 1 = .ok (.tableswitch 125 0 11 #[63, 68, 73, 78, 83, 89, 95, 100, 105, 110, 115, 120], 63) := by decide +kernel
theorem dX6_howMany_64 : decode cX6_howMany 64 = .ok (.aload_n 0, 1) := by decide +kernel
theorem dX6_howMany_65 : decode cX6_howMany 65 = .ok (.getfield 73, 3) := by decide +kernel
theorem dX6_howMany_68 : decode cX6_howMany 68 = .ok (.ireturn, 1) := by decide +kernel
theorem dX6_howMany_69 : decode cX6_howMany 69 = .ok (.aload_n 0, 1) := by decide +kernel
theorem dX6_howMany_70 : decode cX6_howMany 70 = .ok (.getfield 76, 3) := by decide +kernel
theorem dX6_howMany_73 : decode cX6_howMany 73 = .ok (.ireturn, 1) := by decide +kernel
theorem dX6_howMany_74 : decode cX6_howMany 74 = .ok (.aload_n 0, 1) := by decide +kernel
theorem dX6_howMany_75 : decode cX6_howMany 75 = .ok (.getfield 82, 3) := by decide +kernel
theorem dX6_howMany_78 : decode cX6_howMany 78 = .ok (.ireturn, 1) := by decide +kernel
theorem dX6_howMany_79 : decode cX6_howMany 79 = .ok (.aload_n 0, 1) := by decide +kernel
theorem dX6_howMany_80 : decode cX6_howMany 80 = .ok (.getfield 85, 3) := by decide +kernel
theorem dX6_howMany_83 : decode cX6_howMany 83 = .ok (.ireturn, 1) := by decide +kernel
theorem dX6_howMany_84 : decode cX6_howMany 84 = .ok (.aload_n 0, 1) := by decide +kernel
theorem dX6_howMany_85 : decode cX6_howMany 85 = .ok (.iconst 3, 1) := by decide +kernel
theorem dX6_howMany_86 : decode cX6_howMany 86 = .ok (.invokevirtual 185, 3) := by decide +kernel
theorem dX6_howMany_89 : decode cX6_howMany 89 = .ok (.ireturn, 1) := by decide +kernel
theorem dX6_howMany_90 : decode cX6_howMany 90 = .ok (.aload_n 0, 1) := by decide +kernel
theorem dX6_howMany_91 : decode cX6_howMany 91 = .ok (.iconst 4, 1) := by decide +kernel
theorem dX6_howMany_92 : decode cX6_howMany 92 = .ok (.invokevirtual 185, 3) := by decide +kernel
theorem dX6_howMany_95 : decode cX6_howMany 95 = .ok (.ireturn, 1) := by decide +kernel
theorem dX6_howMany_96 : decode cX6_howMany 96 = .ok (.aload_n 0, 1) := by decide +kernel
theorem dX6_howMany_97 : decode cX6_howMany 97 = .ok (.invokevirtual 161, 3) := by decide +kernel
theorem dX6_howMany_100 : decode cX6_howMany 100 = .ok (.ireturn, 1) := by decide +kernel
theorem dX6_howMany_101 : decode cX6_howMany 101 = .ok (.aload_n 0, 1) := by decide +kernel
theorem dX6_howMany_102 : decode cX6_howMany 102 = .ok (.getfield 88, 3) := by decide +kernel
theorem dX6_howMany_105 : decode cX6_howMany 105 = .ok (.ireturn, 1) := by decide +kernel
theorem dX6_howMany_106 : decode cX6_howMany 106 = .ok (.aload_n 0, 1) := by decide +kernel
theorem dX6_howMany_107 : decode cX6_howMany 107 = .ok (.getfield 91, 3) := by decide +kernel
theorem dX6_howMany_110 : decode cX6_howMany 110 = .ok (.ireturn, 1) := by decide +kernel
theorem dX6_howMany_111 : decode cX6_howMany 111 = .ok (.aload_n 0, 1) := by decide +kernel
theorem dX6_howMany_112 : decode cX6_howMany 112 = .ok (.getfield 48, 3) := by decide +kernel
theorem dX6_howMany_115 : decode cX6_howMany 115 = .ok (.ireturn, 1) := by decide +kernel
theorem dX6_howMany_116 : decode cX6_howMany 116 = .ok (.aload_n 0, 1) := by decide +kernel
theorem dX6_howMany_117 : decode cX6_howMany 117 = .ok (.getfield 79, 3) := by decide +kernel
theorem dX6_howMany_120 : decode cX6_howMany 120 = .ok (.ireturn, 1) := by decide +kernel
theorem dX6_howMany_121 : decode cX6_howMany 121 = .ok (.aload_n 0, 1) := by decide +kernel
theorem dX6_howMany_122 : decode cX6_howMany 122 = .ok (.getfield 124, 3) := by decide +kernel
theorem dX6_howMany_125 : decode cX6_howMany 125 = .ok (.ireturn, 1) := by decide +kernel
theorem dX6_howMany_126 : decode cX6_howMany 126 = .ok (.bipush (-102), 2) := by decide +kernel
theorem dX6_howMany_128 : decode cX6_howMany 128 = .ok (.ireturn, 1) := by decide +kernel
set_option maxRecDepth 20000 in
theorem ggX6_count_X6_howMany : GoodIn wsX6_count wsX6_howMany := goodIn_r _ [5, 6, 7, 8, 9, 10, 11, 12, 13, 14, 15, 16, 17, 4, 18, 19, 20, 21, 22, 23, 24, 25, 26, 27, 28, 29, 30, 31, 32, 33, 34, 35, 36, 37, 38, 39, 40, 41, 42, 43, 44, 45, 46, 47, 48, 49, 50, 51, 52, 53, 54, 55, 56, 57, 58, 59, 60, 61, 62, 63] (by decide +kernel) (by decide +kernel)
set_option maxRecDepth 20000 in
theorem gX6_count_X6_howMany : GoodIn wsX6_count (wsV RX6 188 RX6 yX6_howMany wsX6_howMany) := goodIn_app (goodIn_of _ (by decide +kernel)) ggX6_count_X6_howMany
theorem dX6_count_0 : decode cX6_count 0 = .ok (.aload_n 0, 1) := by decide +kernel
theorem dX6_count_1 : decode cX6_count 1 = .ok (.iload_n 1, 1) := by decide +kernel
theorem dX6_count_2 : decode cX6_count 2 = .ok (.invokevirtual 188, 3) := by decide +kernel
theorem dX6_count_5 : decode cX6_count 5 = .ok (.ireturn, 1) := by decide +kernel
theorem dX6_mix_0 : decode cX6_mix 0 = .ok (.aload_n 0, 1) := by decide +kernel
theorem dX6_mix_1 : decode cX6_mix 1 = .ok (.ldc2_w 191, 3) := by decide +kernel
theorem dX6_mix_4 : decode cX6_mix 4 = .ok (.aload_n 0, 1) := by decide +kernel
theorem dX6_mix_5 : decode cX6_mix 5 = .ok (.getfield 193, 3) := by decide +kernel
theorem dX6_mix_8 : decode cX6_mix 8 = .ok (.lmul, 1) := by decide +kernel
theorem dX6_mix_9 : decode cX6_mix 9 = .ok (.lload_n 1, 1) := by decide +kernel
theorem dX6_mix_10 : decode cX6_mix 10 = .ok (.ladd, 1) := by decide +kernel
theorem dX6_mix_11 : decode cX6_mix 11 = .ok (.putfield 193, 3) := by decide +kernel
theorem dX6_mix_14 : decode cX6_mix 14 = .ok (.return_, 1) := by decide +kernel
set_option maxRecDepth 20000 in
theorem ggX6_digest_X6_houseNow : GoodIn wsX6_digest wsX6_houseNow := goodIn_r _ [10, 11, 12, 13, 14, 15, 16, 17, 67, 68, 69, 70, 71, 72, 73, 74, 75, 76, 77, 78, 79, 80, 81, 82, 83, 84, 85, 86, 87, 88, 89, 90, 91, 92, 93, 94, 95, 96] (by decide +kernel) (by decide +kernel)
set_option maxRecDepth 20000 in
theorem gX6_digest_X6_houseNow : GoodIn wsX6_digest (wsV RX6 98 RX6 yX6_houseNow wsX6_houseNow) := goodIn_app (goodIn_of _ (by decide +kernel)) ggX6_digest_X6_houseNow
set_option maxRecDepth 20000 in
theorem ggX6_digest_X6_mix : GoodIn wsX6_digest wsX6_mix := goodIn_r _ [21, 22, 2, 67, 68, 69, 70, 71, 72, 73, 74, 75, 76, 77, 78, 79, 80, 81, 82, 83, 84, 85, 86, 87, 88, 89, 90, 91, 92, 93, 94, 95, 96] (by decide +kernel) (by decide +kernel)
set_option maxRecDepth 20000 in
theorem gX6_digest_X6_mix : GoodIn wsX6_digest (wsV RX6 198 RX6 yX6_mix wsX6_mix) := goodIn_app (goodIn_of _ (by decide +kernel)) ggX6_digest_X6_mix
set_option maxRecDepth 20000 in
theorem ggX6_digest_X6_fairNow : GoodIn wsX6_digest wsX6_fairNow := goodIn_r _ [26, 27, 3, 13, 28, 29, 30, 9, 31, 12, 32, 11, 67, 68, 69, 70, 71, 72, 73, 74, 75, 76, 77, 78, 79, 80, 81, 82, 83, 84, 85, 86, 87, 88, 89, 90, 91, 92, 93, 94, 95, 96] (by decide +kernel) (by decide +kernel)
set_option maxRecDepth 20000 in
theorem gX6_digest_X6_fairNow : GoodIn wsX6_digest (wsV RX6 130 RX6 yX6_fairNow wsX6_fairNow) := goodIn_app (goodIn_of _ (by decide +kernel)) ggX6_digest_X6_fairNow
set_option maxRecDepth 20000 in
theorem ggX6_digest_X6_rubbedNow : GoodIn wsX6_digest wsX6_rubbedNow := goodIn_r _ [36, 3, 37, 38, 39, 9, 40, 41, 42, 43, 44, 45, 67, 68, 69, 70, 71, 72, 73, 74, 75, 76, 77, 78, 79, 80, 81, 82, 83, 84, 85, 86, 87, 88, 89, 90, 91, 92, 93, 94, 95, 96] (by decide +kernel) (by decide +kernel)
set_option maxRecDepth 20000 in
theorem gX6_digest_X6_rubbedNow : GoodIn wsX6_digest (wsV RX6 140 RX6 yX6_rubbedNow wsX6_rubbedNow) := goodIn_app (goodIn_of _ (by decide +kernel)) ggX6_digest_X6_rubbedNow
set_option maxRecDepth 20000 in
theorem ggX6_digest_X6_watchNow : GoodIn wsX6_digest wsX6_watchNow := goodIn_r _ [49, 50, 3, 33, 34, 35, 9, 36, 37, 38, 39, 40, 41, 42, 43, 44, 45, 67, 68, 69, 70, 71, 72, 73, 74, 75, 76, 77, 78, 79, 80, 81, 82, 83, 84, 85, 86, 87, 88, 89, 90, 91, 92, 93, 94, 95, 96] (by decide +kernel) (by decide +kernel)
set_option maxRecDepth 20000 in
theorem gX6_digest_X6_watchNow : GoodIn wsX6_digest (wsV RX6 143 RX6 yX6_watchNow wsX6_watchNow) := goodIn_app (goodIn_of _ (by decide +kernel)) ggX6_digest_X6_watchNow
set_option maxRecDepth 20000 in
theorem ggX6_digest_X6_howMany : GoodIn wsX6_digest wsX6_howMany := goodIn_r _ [54, 3, 32, 27, 55, 56, 42, 4, 57, 58, 59, 60, 61, 9, 62, 6, 7, 8, 10, 11, 12, 13, 14, 15, 16, 17, 63, 64, 65, 66, 67, 68, 69, 70, 71, 72, 73, 74, 75, 76, 77, 78, 79, 80, 81, 82, 83, 84, 85, 86, 87, 88, 89, 90, 91, 92, 93, 94, 95, 96] (by decide +kernel) (by decide +kernel)
set_option maxRecDepth 20000 in
theorem gX6_digest_X6_howMany : GoodIn wsX6_digest (wsV RX6 188 RX6 yX6_howMany wsX6_howMany) := goodIn_app (goodIn_of _ (by decide +kernel)) ggX6_digest_X6_howMany
theorem dX6_digest_0 : decode cX6_digest 0 = .ok (.aload_n 0, 1) := by decide +kernel
theorem dX6_digest_1 : decode cX6_digest 1 = .ok (.ldc2_w 196, 3) := by decide +kernel
theorem dX6_digest_4 : decode cX6_digest 4 = .ok (.putfield 193, 3) := by decide +kernel
theorem dX6_digest_7 : decode cX6_digest 7 = .ok (.iconst 0, 1) := by decide +kernel
theorem dX6_digest_8 : decode cX6_digest 8 = .ok (.istore_n 1, 1) := by decide +kernel
theorem dX6_digest_9 : decode cX6_digest 9 = .ok (.iload_n 1, 1) := by decide +kernel
theorem dX6_digest_10 : decode cX6_digest 10 = .ok (.aload_n 0, 1) := by decide +kernel
theorem dX6_digest_11 : decode cX6_digest 11 = .ok (.getfield 73, 3) := by decide +kernel
theorem dX6_digest_14 : decode cX6_digest 14 = .ok (.if_icmp .ge 66, 3) := by decide +kernel
theorem dX6_digest_17 : decode cX6_digest 17 = .ok (.iconst 0, 1) := by decide +kernel
theorem dX6_digest_18 : decode cX6_digest 18 = .ok (.istore_n 2, 1) := by decide +kernel
theorem dX6_digest_19 : decode cX6_digest 19 = .ok (.iload_n 2, 1) := by decide +kernel
theorem dX6_digest_20 : decode cX6_digest 20 = .ok (.bipush 7, 2) := by decide +kernel
theorem dX6_digest_22 : decode cX6_digest 22 = .ok (.if_icmp .ge 20, 3) := by decide +kernel
theorem dX6_digest_25 : decode cX6_digest 25 = .ok (.aload_n 0, 1) := by decide +kernel
theorem dX6_digest_26 : decode cX6_digest 26 = .ok (.aload_n 0, 1) := by decide +kernel
theorem dX6_digest_27 : decode cX6_digest 27 = .ok (.iload_n 1, 1) := by decide +kernel
theorem dX6_digest_28 : decode cX6_digest 28 = .ok (.iload_n 2, 1) := by decide +kernel
theorem dX6_digest_29 : decode cX6_digest 29 = .ok (.invokevirtual 98, 3) := by decide +kernel
theorem dX6_digest_32 : decode cX6_digest 32 = .ok (.i2l, 1) := by decide +kernel
theorem dX6_digest_33 : decode cX6_digest 33 = .ok (.invokevirtual 198, 3) := by decide +kernel
theorem dX6_digest_36 : decode cX6_digest 36 = .ok (.iinc 2 1, 3) := by decide +kernel
theorem dX6_digest_39 : decode cX6_digest 39 = .ok (.goto (-20), 3) := by decide +kernel
theorem dX6_digest_42 : decode cX6_digest 42 = .ok (.iconst 0, 1) := by decide +kernel
theorem dX6_digest_43 : decode cX6_digest 43 = .ok (.istore_n 2, 1) := by decide +kernel
theorem dX6_digest_44 : decode cX6_digest 44 = .ok (.iload_n 2, 1) := by decide +kernel
theorem dX6_digest_45 : decode cX6_digest 45 = .ok (.aload_n 0, 1) := by decide +kernel
theorem dX6_digest_46 : decode cX6_digest 46 = .ok (.getfield 73, 3) := by decide +kernel
theorem dX6_digest_49 : decode cX6_digest 49 = .ok (.if_icmp .ge 25, 3) := by decide +kernel
theorem dX6_digest_52 : decode cX6_digest 52 = .ok (.iload_n 1, 1) := by decide +kernel
theorem dX6_digest_53 : decode cX6_digest 53 = .ok (.iload_n 2, 1) := by decide +kernel
theorem dX6_digest_54 : decode cX6_digest 54 = .ok (.if_icmp .eq 14, 3) := by decide +kernel
theorem dX6_digest_57 : decode cX6_digest 57 = .ok (.aload_n 0, 1) := by decide +kernel
theorem dX6_digest_58 : decode cX6_digest 58 = .ok (.aload_n 0, 1) := by decide +kernel
theorem dX6_digest_59 : decode cX6_digest 59 = .ok (.iload_n 1, 1) := by decide +kernel
theorem dX6_digest_60 : decode cX6_digest 60 = .ok (.iload_n 2, 1) := by decide +kernel
theorem dX6_digest_61 : decode cX6_digest 61 = .ok (.invokevirtual 130, 3) := by decide +kernel
theorem dX6_digest_64 : decode cX6_digest 64 = .ok (.i2l, 1) := by decide +kernel
theorem dX6_digest_65 : decode cX6_digest 65 = .ok (.invokevirtual 198, 3) := by decide +kernel
theorem dX6_digest_68 : decode cX6_digest 68 = .ok (.iinc 2 1, 3) := by decide +kernel
theorem dX6_digest_71 : decode cX6_digest 71 = .ok (.goto (-27), 3) := by decide +kernel
theorem dX6_digest_74 : decode cX6_digest 74 = .ok (.iinc 1 1, 3) := by decide +kernel
theorem dX6_digest_77 : decode cX6_digest 77 = .ok (.goto (-68), 3) := by decide +kernel
theorem dX6_digest_80 : decode cX6_digest 80 = .ok (.aload_n 0, 1) := by decide +kernel
theorem dX6_digest_81 : decode cX6_digest 81 = .ok (.getfield 73, 3) := by decide +kernel
theorem dX6_digest_84 : decode cX6_digest 84 = .ok (.ifCond .le 35, 3) := by decide +kernel
theorem dX6_digest_87 : decode cX6_digest 87 = .ok (.iconst 0, 1) := by decide +kernel
theorem dX6_digest_88 : decode cX6_digest 88 = .ok (.istore_n 1, 1) := by decide +kernel
theorem dX6_digest_89 : decode cX6_digest 89 = .ok (.iload_n 1, 1) := by decide +kernel
theorem dX6_digest_90 : decode cX6_digest 90 = .ok (.iconst 3, 1) := by decide +kernel
theorem dX6_digest_91 : decode cX6_digest 91 = .ok (.if_icmp .ge 19, 3) := by decide +kernel
theorem dX6_digest_94 : decode cX6_digest 94 = .ok (.aload_n 0, 1) := by decide +kernel
theorem dX6_digest_95 : decode cX6_digest 95 = .ok (.aload_n 0, 1) := by decide +kernel
theorem dX6_digest_96 : decode cX6_digest 96 = .ok (.iload_n 1, 1) := by decide +kernel
theorem dX6_digest_97 : decode cX6_digest 97 = .ok (.invokevirtual 140, 3) := by decide +kernel
theorem dX6_digest_100 : decode cX6_digest 100 = .ok (.i2l, 1) := by decide +kernel
theorem dX6_digest_101 : decode cX6_digest 101 = .ok (.invokevirtual 198, 3) := by decide +kernel
theorem dX6_digest_104 : decode cX6_digest 104 = .ok (.iinc 1 1, 3) := by decide +kernel
theorem dX6_digest_107 : decode cX6_digest 107 = .ok (.goto (-18), 3) := by decide +kernel
theorem dX6_digest_110 : decode cX6_digest 110 = .ok (.aload_n 0, 1) := by decide +kernel
theorem dX6_digest_111 : decode cX6_digest 111 = .ok (.aload_n 0, 1) := by decide +kernel
theorem dX6_digest_112 : decode cX6_digest 112 = .ok (.invokevirtual 143, 3) := by decide +kernel
theorem dX6_digest_115 : decode cX6_digest 115 = .ok (.i2l, 1) := by decide +kernel
theorem dX6_digest_116 : decode cX6_digest 116 = .ok (.invokevirtual 198, 3) := by decide +kernel
theorem dX6_digest_119 : decode cX6_digest 119 = .ok (.iconst 0, 1) := by decide +kernel
theorem dX6_digest_120 : decode cX6_digest 120 = .ok (.istore_n 1, 1) := by decide +kernel
theorem dX6_digest_121 : decode cX6_digest 121 = .ok (.iload_n 1, 1) := by decide +kernel
theorem dX6_digest_122 : decode cX6_digest 122 = .ok (.aload_n 0, 1) := by decide +kernel
theorem dX6_digest_123 : decode cX6_digest 123 = .ok (.getfield 48, 3) := by decide +kernel
theorem dX6_digest_126 : decode cX6_digest 126 = .ok (.if_icmp .ge 20, 3) := by decide +kernel
theorem dX6_digest_129 : decode cX6_digest 129 = .ok (.aload_n 0, 1) := by decide +kernel
theorem dX6_digest_130 : decode cX6_digest 130 = .ok (.aload_n 0, 1) := by decide +kernel
theorem dX6_digest_131 : decode cX6_digest 131 = .ok (.getfield 34, 3) := by decide +kernel
theorem dX6_digest_134 : decode cX6_digest 134 = .ok (.iload_n 1, 1) := by decide +kernel
theorem dX6_digest_135 : decode cX6_digest 135 = .ok (.baload, 1) := by decide +kernel
theorem dX6_digest_136 : decode cX6_digest 136 = .ok (.i2l, 1) := by decide +kernel
theorem dX6_digest_137 : decode cX6_digest 137 = .ok (.invokevirtual 198, 3) := by decide +kernel
theorem dX6_digest_140 : decode cX6_digest 140 = .ok (.iinc 1 1, 3) := by decide +kernel
theorem dX6_digest_143 : decode cX6_digest 143 = .ok (.goto (-22), 3) := by decide +kernel
theorem dX6_digest_146 : decode cX6_digest 146 = .ok (.iconst 0, 1) := by decide +kernel
theorem dX6_digest_147 : decode cX6_digest 147 = .ok (.istore_n 1, 1) := by decide +kernel
theorem dX6_digest_148 : decode cX6_digest 148 = .ok (.iload_n 1, 1) := by decide +kernel
theorem dX6_digest_149 : decode cX6_digest 149 = .ok (.bipush 12, 2) := by decide +kernel
theorem dX6_digest_151 : decode cX6_digest 151 = .ok (.if_icmp .ge 19, 3) := by decide +kernel
theorem dX6_digest_154 : decode cX6_digest 154 = .ok (.aload_n 0, 1) := by decide +kernel
theorem dX6_digest_155 : decode cX6_digest 155 = .ok (.aload_n 0, 1) := by decide +kernel
theorem dX6_digest_156 : decode cX6_digest 156 = .ok (.iload_n 1, 1) := by decide +kernel
theorem dX6_digest_157 : decode cX6_digest 157 = .ok (.invokevirtual 188, 3) := by decide +kernel
theorem dX6_digest_160 : decode cX6_digest 160 = .ok (.i2l, 1) := by decide +kernel
theorem dX6_digest_161 : decode cX6_digest 161 = .ok (.invokevirtual 198, 3) := by decide +kernel
theorem dX6_digest_164 : decode cX6_digest 164 = .ok (.iinc 1 1, 3) := by decide +kernel
theorem dX6_digest_167 : decode cX6_digest 167 = .ok (.goto (-19), 3) := by decide +kernel
theorem dX6_digest_170 : decode cX6_digest 170 = .ok (.aload_n 0, 1) := by decide +kernel
theorem dX6_digest_171 : decode cX6_digest 171 = .ok (.getfield 193, 3) := by decide +kernel
theorem dX6_digest_174 : decode cX6_digest 174 = .ok (.lreturn, 1) := by decide +kernel
theorem dJ11_isValidCodePoint_9a6ad_0 : decode cJ11_isValidCodePoint_9a6ad 0 = .ok (.iload_n 0, 1) := by decide +kernel
theorem dJ11_isValidCodePoint_9a6ad_1 : decode cJ11_isValidCodePoint_9a6ad 1 = .ok (.bipush 16, 2) := by decide +kernel
theorem dJ11_isValidCodePoint_9a6ad_3 : decode cJ11_isValidCodePoint_9a6ad 3 = .ok (.iushr, 1) := by decide +kernel
theorem dJ11_isValidCodePoint_9a6ad_4 : decode cJ11_isValidCodePoint_9a6ad 4 = .ok (.istore_n 1, 1) := by decide +kernel
theorem dJ11_isValidCodePoint_9a6ad_5 : decode cJ11_isValidCodePoint_9a6ad 5 = .ok (.iload_n 1, 1) := by decide +kernel
theorem dJ11_isValidCodePoint_9a6ad_6 : decode cJ11_isValidCodePoint_9a6ad 6 = .ok (.bipush 17, 2) := by decide +kernel
theorem dJ11_isValidCodePoint_9a6ad_8 : decode cJ11_isValidCodePoint_9a6ad 8 = .ok (.if_icmp .ge 7, 3) := by decide +kernel
theorem dJ11_isValidCodePoint_9a6ad_11 : decode cJ11_isValidCodePoint_9a6ad 11 = .ok (.iconst 1, 1) := by decide +kernel
theorem dJ11_isValidCodePoint_9a6ad_12 : decode cJ11_isValidCodePoint_9a6ad 12 = .ok (.goto 4, 3) := by decide +kernel
theorem dJ11_isValidCodePoint_9a6ad_15 : decode cJ11_isValidCodePoint_9a6ad 15 = .ok (.iconst 0, 1) := by decide +kernel
theorem dJ11_isValidCodePoint_9a6ad_16 : decode cJ11_isValidCodePoint_9a6ad 16 = .ok (.ireturn, 1) := by decide +kernel
theorem dJ11_highSurrogate_5068e_0 : decode cJ11_highSurrogate_5068e 0 = .ok (.iload_n 0, 1) := by decide +kernel
theorem dJ11_highSurrogate_5068e_1 : decode cJ11_highSurrogate_5068e 1 = .ok (.bipush 10, 2) := by decide +kernel
theorem dJ11_highSurrogate_5068e_3 : decode cJ11_highSurrogate_5068e 3 = .ok (.iushr, 1) := by decide +kernel
theorem dJ11_highSurrogate_5068e_4 : decode cJ11_highSurrogate_5068e 4 = .ok (.ldc 110, 2) := by decide +kernel
theorem dJ11_highSurrogate_5068e_6 : decode cJ11_highSurrogate_5068e 6 = .ok (.iadd, 1) := by decide +kernel
theorem dJ11_highSurrogate_5068e_7 : decode cJ11_highSurrogate_5068e 7 = .ok (.i2c, 1) := by decide +kernel
theorem dJ11_highSurrogate_5068e_8 : decode cJ11_highSurrogate_5068e 8 = .ok (.ireturn, 1) := by decide +kernel
theorem dJ11_lowSurrogate_5068e_0 : decode cJ11_lowSurrogate_5068e 0 = .ok (.iload_n 0, 1) := by decide +kernel
theorem dJ11_lowSurrogate_5068e_1 : decode cJ11_lowSurrogate_5068e 1 = .ok (.sipush 1023, 3) := by decide +kernel
theorem dJ11_lowSurrogate_5068e_4 : decode cJ11_lowSurrogate_5068e 4 = .ok (.iand, 1) := by decide +kernel
theorem dJ11_lowSurrogate_5068e_5 : decode cJ11_lowSurrogate_5068e 5 = .ok (.ldc 76, 2) := by decide +kernel
theorem dJ11_lowSurrogate_5068e_7 : decode cJ11_lowSurrogate_5068e 7 = .ok (.iadd, 1) := by decide +kernel
theorem dJ11_lowSurrogate_5068e_8 : decode cJ11_lowSurrogate_5068e 8 = .ok (.i2c, 1) := by decide +kernel
theorem dJ11_lowSurrogate_5068e_9 : decode cJ11_lowSurrogate_5068e 9 = .ok (.ireturn, 1) := by decide +kernel
theorem dJ9_max_7cf53_0 : decode cJ9_max_7cf53 0 = .ok (.iload_n 0, 1) := by decide +kernel
theorem dJ9_max_7cf53_1 : decode cJ9_max_7cf53 1 = .ok (.iload_n 1, 1) := by decide +kernel
theorem dJ9_max_7cf53_2 : decode cJ9_max_7cf53 2 = .ok (.if_icmp .lt 7, 3) := by decide +kernel
theorem dJ9_max_7cf53_5 : decode cJ9_max_7cf53 5 = .ok (.iload_n 0, 1) := by decide +kernel
theorem dJ9_max_7cf53_6 : decode cJ9_max_7cf53 6 = .ok (.goto 4, 3) := by decide +kernel
theorem dJ9_max_7cf53_9 : decode cJ9_max_7cf53 9 = .ok (.iload_n 1, 1) := by decide +kernel
theorem dJ9_max_7cf53_10 : decode cJ9_max_7cf53 10 = .ok (.ireturn, 1) := by decide +kernel
theorem dJ9_min_7cf53_0 : decode cJ9_min_7cf53 0 = .ok (.iload_n 0, 1) := by decide +kernel
theorem dJ9_min_7cf53_1 : decode cJ9_min_7cf53 1 = .ok (.iload_n 1, 1) := by decide +kernel
theorem dJ9_min_7cf53_2 : decode cJ9_min_7cf53 2 = .ok (.if_icmp .gt 7, 3) := by decide +kernel
theorem dJ9_min_7cf53_5 : decode cJ9_min_7cf53 5 = .ok (.iload_n 0, 1) := by decide +kernel
theorem dJ9_min_7cf53_6 : decode cJ9_min_7cf53 6 = .ok (.goto 4, 3) := by decide +kernel
theorem dJ9_min_7cf53_9 : decode cJ9_min_7cf53 9 = .ok (.iload_n 1, 1) := by decide +kernel
theorem dJ9_min_7cf53_10 : decode cJ9_min_7cf53 10 = .ok (.ireturn, 1) := by decide +kernel
set_option maxRecDepth 20000 in
theorem ggJ0_length_8abf5_J0_coder_7d493 : GoodIn wsJ0_length_8abf5 wsJ0_coder_7d493 := goodIn_r _ [6, 7, 8] (by decide +kernel) (by decide +kernel)
set_option maxRecDepth 20000 in
theorem gJ0_length_8abf5_J0_coder_7d493 : GoodIn wsJ0_length_8abf5 (wsV RJ0 335 RJ0 yJ0_coder_7d493 wsJ0_coder_7d493) := goodIn_app (goodIn_of _ (by decide +kernel)) ggJ0_length_8abf5_J0_coder_7d493
theorem dJ0_length_8abf5_0 : decode cJ0_length_8abf5 0 = .ok (.aload_n 0, 1) := by decide +kernel
theorem dJ0_length_8abf5_1 : decode cJ0_length_8abf5 1 = .ok (.getfield 9, 3) := by decide +kernel
theorem dJ0_length_8abf5_4 : decode cJ0_length_8abf5 4 = .ok (.arraylength, 1) := by decide +kernel
theorem dJ0_length_8abf5_5 : decode cJ0_length_8abf5 5 = .ok (.aload_n 0, 1) := by decide +kernel
theorem dJ0_length_8abf5_6 : decode cJ0_length_8abf5 6 = .ok (.invokevirtual 335, 3) := by decide +kernel
theorem dJ0_length_8abf5_9 : decode cJ0_length_8abf5 9 = .ok (.ishr, 1) := by decide +kernel
theorem dJ0_length_8abf5_10 : decode cJ0_length_8abf5 10 = .ok (.ireturn, 1) := by decide +kernel
set_option maxRecDepth 20000 in
theorem ggJ0_indexOf_0f7a4_J0_indexOf_7cf53 : GoodIn wsJ0_indexOf_0f7a4 wsJ0_indexOf_7cf53 := goodIn_r _ [5, 6, 7, 8, 9, 4, 10, 11, 12, 13, 14, 15, 16, 17, 18, 19, 20, 21, 22, 23, 24, 25, 26, 27, 28, 29, 30, 31, 32, 33, 34, 35, 36, 37, 38, 39, 40, 41, 42, 43, 44, 45, 46, 47, 48, 49, 50, 51, 52, 53, 54, 55, 56, 57, 58, 59, 60, 61, 62, 63, 64, 65, 66, 67, 68, 69, 70, 71, 72, 73, 74, 75, 76, 77, 78, 79, 80, 81, 82, 83, 84, 85] (by decide +kernel) (by decide +kernel)
set_option maxRecDepth 20000 in
theorem gJ0_indexOf_0f7a4_J0_indexOf_7cf53 : GoodIn wsJ0_indexOf_0f7a4 (wsV RJ0 633 RJ0 yJ0_indexOf_7cf53 wsJ0_indexOf_7cf53) := goodIn_app (goodIn_of _ (by decide +kernel)) ggJ0_indexOf_0f7a4_J0_indexOf_7cf53
theorem dJ0_indexOf_0f7a4_0 : decode cJ0_indexOf_0f7a4 0 = .ok (.aload_n 0, 1) := by decide +kernel
theorem dJ0_indexOf_0f7a4_1 : decode cJ0_indexOf_0f7a4 1 = .ok (.iload_n 1, 1) := by decide +kernel
theorem dJ0_indexOf_0f7a4_2 : decode cJ0_indexOf_0f7a4 2 = .ok (.iconst 0, 1) := by decide +kernel
theorem dJ0_indexOf_0f7a4_3 : decode cJ0_indexOf_0f7a4 3 = .ok (.invokevirtual 633, 3) := by decide +kernel
theorem dJ0_indexOf_0f7a4_6 : decode cJ0_indexOf_0f7a4 6 = .ok (.ireturn, 1) := by decide +kernel
set_option maxRecDepth 20000 in
theorem ggJ0_indexOf_7cf53_J0_isLatin1_aae02 : GoodIn wsJ0_indexOf_7cf53 wsJ0_isLatin1_aae02 := goodIn_r _ [6, 7, 8] (by decide +kernel) (by decide +kernel)
set_option maxRecDepth 20000 in
theorem gJ0_indexOf_7cf53_J0_isLatin1_aae02 : GoodIn wsJ0_indexOf_7cf53 (wsV RJ0 492 RJ0 yJ0_isLatin1_aae02 wsJ0_isLatin1_aae02) := goodIn_app (goodIn_of _ (by decide +kernel)) ggJ0_indexOf_7cf53_J0_isLatin1_aae02
set_option maxRecDepth 20000 in
theorem ggJ0_indexOf_7cf53_J0_length_8abf5 : GoodIn wsJ0_indexOf_7cf53 wsJ0_length_8abf5 := goodIn_r _ [12, 1, 13, 14, 15, 5, 16, 7, 8] (by decide +kernel) (by decide +kernel)
set_option maxRecDepth 20000 in
theorem gJ0_indexOf_7cf53_J0_length_8abf5 : GoodIn wsJ0_indexOf_7cf53 (wsV RJ0 505 RJ0 yJ0_length_8abf5 wsJ0_length_8abf5) := goodIn_app (goodIn_of _ (by decide +kernel)) ggJ0_indexOf_7cf53_J0_length_8abf5
set_option maxRecDepth 20000 in
theorem ggJ0_indexOf_7cf53_J1_indexOf_4cfef : GoodIn wsJ0_indexOf_7cf53 wsJ1_indexOf_4cfef := goodIn_r _ [20, 21, 22, 23, 24, 25, 26, 27, 28, 29, 19, 30, 31, 32, 33] (by decide +kernel) (by decide +kernel)
set_option maxRecDepth 20000 in
theorem gJ0_indexOf_7cf53_J1_indexOf_4cfef : GoodIn wsJ0_indexOf_7cf53 (va_wsS RJ0 637 yJ1_indexOf_4cfef wsJ1_indexOf_4cfef) := goodIn_app (goodIn_of _ (by decide +kernel)) ggJ0_indexOf_7cf53_J1_indexOf_4cfef
set_option maxRecDepth 20000 in
theorem ggJ0_indexOf_7cf53_J2_indexOf_4cfef : GoodIn wsJ0_indexOf_7cf53 wsJ2_indexOf_4cfef := goodIn_r _ [37, 38, 22, 23, 24, 39, 26, 27, 40, 41, 42, 36, 43, 44, 45, 46, 47, 48, 49, 50, 51, 5, 52, 53, 54, 55, 56, 57, 58, 59, 60, 61, 62, 63, 64, 65, 66, 67, 68, 69, 70, 71, 72, 73, 74, 75, 76, 77, 78, 79, 80, 81] (by decide +kernel) (by decide +kernel)
set_option maxRecDepth 20000 in
theorem gJ0_indexOf_7cf53_J2_indexOf_4cfef : GoodIn wsJ0_indexOf_7cf53 (va_wsS RJ0 640 yJ2_indexOf_4cfef wsJ2_indexOf_4cfef) := goodIn_app (goodIn_of _ (by decide +kernel)) ggJ0_indexOf_7cf53_J2_indexOf_4cfef
theorem dJ0_indexOf_7cf53_0 : decode cJ0_indexOf_7cf53 0 = .ok (.aload_n 0, 1) := by decide +kernel
theorem dJ0_indexOf_7cf53_1 : decode cJ0_indexOf_7cf53 1 = .ok (.invokevirtual 492, 3) := by decide +kernel
theorem dJ0_indexOf_7cf53_4 : decode cJ0_indexOf_7cf53 4 = .ok (.ifCond .eq 19, 3) := by decide +kernel
theorem dJ0_indexOf_7cf53_7 : decode cJ0_indexOf_7cf53 7 = .ok (.aload_n 0, 1) := by decide +kernel
theorem dJ0_indexOf_7cf53_8 : decode cJ0_indexOf_7cf53 8 = .ok (.getfield 9, 3) := by decide +kernel
theorem dJ0_indexOf_7cf53_11 : decode cJ0_indexOf_7cf53 11 = .ok (.iload_n 1, 1) := by decide +kernel
theorem dJ0_indexOf_7cf53_12 : decode cJ0_indexOf_7cf53 12 = .ok (.iload_n 2, 1) := by decide +kernel
theorem dJ0_indexOf_7cf53_13 : decode cJ0_indexOf_7cf53 13 = .ok (.aload_n 0, 1) := by decide +kernel
theorem dJ0_indexOf_7cf53_14 : decode cJ0_indexOf_7cf53 14 = .ok (.invokevirtual 505, 3) := by decide +kernel
theorem dJ0_indexOf_7cf53_17 : decode cJ0_indexOf_7cf53 17 = .ok (.invokestatic 637, 3) := by decide +kernel
theorem dJ0_indexOf_7cf53_20 : decode cJ0_indexOf_7cf53 20 = .ok (.goto 16, 3) := by decide +kernel
theorem dJ0_indexOf_7cf53_23 : decode cJ0_indexOf_7cf53 23 = .ok (.aload_n 0, 1) := by decide +kernel
theorem dJ0_indexOf_7cf53_24 : decode cJ0_indexOf_7cf53 24 = .ok (.getfield 9, 3) := by decide +kernel
theorem dJ0_indexOf_7cf53_27 : decode cJ0_indexOf_7cf53 27 = .ok (.iload_n 1, 1) := by decide +kernel
theorem dJ0_indexOf_7cf53_28 : decode cJ0_indexOf_7cf53 28 = .ok (.iload_n 2, 1) := by decide +kernel
theorem dJ0_indexOf_7cf53_29 : decode cJ0_indexOf_7cf53 29 = .ok (.aload_n 0, 1) := by decide +kernel
theorem dJ0_indexOf_7cf53_30 : decode cJ0_indexOf_7cf53 30 = .ok (.invokevirtual 505, 3) := by decide +kernel
theorem dJ0_indexOf_7cf53_33 : decode cJ0_indexOf_7cf53 33 = .ok (.invokestatic 640, 3) := by decide +kernel
theorem dJ0_indexOf_7cf53_36 : decode cJ0_indexOf_7cf53 36 = .ok (.ireturn, 1) := by decide +kernel
theorem dJ0_coder_7d493_0 : decode cJ0_coder_7d493 0 = .ok (.getstatic 38, 3) := by decide +kernel
theorem dJ0_coder_7d493_3 : decode cJ0_coder_7d493 3 = .ok (.ifCond .eq 10, 3) := by decide +kernel
theorem dJ0_coder_7d493_6 : decode cJ0_coder_7d493 6 = .ok (.aload_n 0, 1) := by decide +kernel
theorem dJ0_coder_7d493_7 : decode cJ0_coder_7d493 7 = .ok (.getfield 15, 3) := by decide +kernel
theorem dJ0_coder_7d493_10 : decode cJ0_coder_7d493 10 = .ok (.goto 4, 3) := by decide +kernel
theorem dJ0_coder_7d493_13 : decode cJ0_coder_7d493 13 = .ok (.iconst 1, 1) := by decide +kernel
theorem dJ0_coder_7d493_14 : decode cJ0_coder_7d493 14 = .ok (.ireturn, 1) := by decide +kernel
theorem dJ0_isLatin1_aae02_0 : decode cJ0_isLatin1_aae02 0 = .ok (.getstatic 38, 3) := by decide +kernel
theorem dJ0_isLatin1_aae02_3 : decode cJ0_isLatin1_aae02 3 = .ok (.ifCond .eq 14, 3) := by decide +kernel
theorem dJ0_isLatin1_aae02_6 : decode cJ0_isLatin1_aae02 6 = .ok (.aload_n 0, 1) := by decide +kernel
theorem dJ0_isLatin1_aae02_7 : decode cJ0_isLatin1_aae02 7 = .ok (.getfield 15, 3) := by decide +kernel
theorem dJ0_isLatin1_aae02_10 : decode cJ0_isLatin1_aae02 10 = .ok (.ifCond .ne 7, 3) := by decide +kernel
theorem dJ0_isLatin1_aae02_13 : decode cJ0_isLatin1_aae02 13 = .ok (.iconst 1, 1) := by decide +kernel
theorem dJ0_isLatin1_aae02_14 : decode cJ0_isLatin1_aae02 14 = .ok (.goto 4, 3) := by decide +kernel
theorem dJ0_isLatin1_aae02_17 : decode cJ0_isLatin1_aae02 17 = .ok (.iconst 0, 1) := by decide +kernel
theorem dJ0_isLatin1_aae02_18 : decode cJ0_isLatin1_aae02 18 = .ok (.ireturn, 1) := by decide +kernel
set_option maxRecDepth 20000 in
theorem ggJ0_checkBoundsBeginEnd_23922_J3_checkFromToIndex_8c36e : GoodIn wsJ0_checkBoundsBeginEnd_23922 wsJ3_checkFromToIndex_8c36e := goodIn_r _ [5] (by decide +kernel) (by decide +kernel)
set_option maxRecDepth 20000 in
theorem gJ0_checkBoundsBeginEnd_23922_J3_checkFromToIndex_8c36e : GoodIn wsJ0_checkBoundsBeginEnd_23922 (va_wsS RJ0 1062 yJ3_checkFromToIndex_8c36e wsJ3_checkFromToIndex_8c36e) := goodIn_app (goodIn_of _ (by decide +kernel)) ggJ0_checkBoundsBeginEnd_23922_J3_checkFromToIndex_8c36e
theorem dJ0_checkBoundsBeginEnd_23922_0 : decode cJ0_checkBoundsBeginEnd_23922 0 = .ok (.iload_n 0, 1) := by decide +kernel
theorem dJ0_checkBoundsBeginEnd_23922_1 : decode cJ0_checkBoundsBeginEnd_23922 1 = .ok (.iload_n 1, 1) := by decide +kernel
theorem dJ0_checkBoundsBeginEnd_23922_2 : decode cJ0_checkBoundsBeginEnd_23922 2 = .ok (.iload_n 2, 1) := by decide +kernel
theorem dJ0_checkBoundsBeginEnd_23922_3 : decode cJ0_checkBoundsBeginEnd_23922 3 = .ok (.getstatic 1053, 3) := by decide +kernel
theorem dJ0_checkBoundsBeginEnd_23922_6 : decode cJ0_checkBoundsBeginEnd_23922 6 = .ok (.invokestatic 1062, 3) := by decide +kernel
theorem dJ0_checkBoundsBeginEnd_23922_9 : decode cJ0_checkBoundsBeginEnd_23922 9 = .ok (.pop, 1) := by decide +kernel
theorem dJ0_checkBoundsBeginEnd_23922_10 : decode cJ0_checkBoundsBeginEnd_23922 10 = .ok (.return_, 1) := by decide +kernel
theorem dJ1_canEncode_9a6ad_0 : decode cJ1_canEncode_9a6ad 0 = .ok (.iload_n 0, 1) := by decide +kernel
theorem dJ1_canEncode_9a6ad_1 : decode cJ1_canEncode_9a6ad 1 = .ok (.ifCond .lt 14, 3) := by decide +kernel
theorem dJ1_canEncode_9a6ad_4 : decode cJ1_canEncode_9a6ad 4 = .ok (.iload_n 0, 1) := by decide +kernel
theorem dJ1_canEncode_9a6ad_5 : decode cJ1_canEncode_9a6ad 5 = .ok (.sipush 255, 3) := by decide +kernel
theorem dJ1_canEncode_9a6ad_8 : decode cJ1_canEncode_9a6ad 8 = .ok (.if_icmp .gt 7, 3) := by decide +kernel
theorem dJ1_canEncode_9a6ad_11 : decode cJ1_canEncode_9a6ad 11 = .ok (.iconst 1, 1) := by decide +kernel
theorem dJ1_canEncode_9a6ad_12 : decode cJ1_canEncode_9a6ad 12 = .ok (.goto 4, 3) := by decide +kernel
theorem dJ1_canEncode_9a6ad_15 : decode cJ1_canEncode_9a6ad 15 = .ok (.iconst 0, 1) := by decide +kernel
theorem dJ1_canEncode_9a6ad_16 : decode cJ1_canEncode_9a6ad 16 = .ok (.ireturn, 1) := by decide +kernel
set_option maxRecDepth 20000 in
theorem ggJ1_indexOf_4cfef_J1_canEncode_9a6ad : GoodIn wsJ1_indexOf_4cfef wsJ1_canEncode_9a6ad := goodIn_r _ [11] (by decide +kernel) (by decide +kernel)
set_option maxRecDepth 20000 in
theorem gJ1_indexOf_4cfef_J1_canEncode_9a6ad : GoodIn wsJ1_indexOf_4cfef (va_wsS RJ1 88 yJ1_canEncode_9a6ad wsJ1_canEncode_9a6ad) := goodIn_app (goodIn_of _ (by decide +kernel)) ggJ1_indexOf_4cfef_J1_canEncode_9a6ad
set_option maxRecDepth 20000 in
theorem ggJ1_indexOf_4cfef_J1_indexOfChar_4cfef : GoodIn wsJ1_indexOf_4cfef wsJ1_indexOfChar_4cfef := goodIn_r _ [14] (by decide +kernel) (by decide +kernel)
set_option maxRecDepth 20000 in
theorem gJ1_indexOf_4cfef_J1_indexOfChar_4cfef : GoodIn wsJ1_indexOf_4cfef (va_wsS RJ1 95 yJ1_indexOfChar_4cfef wsJ1_indexOfChar_4cfef) := goodIn_app (goodIn_of _ (by decide +kernel)) ggJ1_indexOf_4cfef_J1_indexOfChar_4cfef
theorem dJ1_indexOf_4cfef_0 : decode cJ1_indexOf_4cfef 0 = .ok (.iload_n 1, 1) := by decide +kernel
theorem dJ1_indexOf_4cfef_1 : decode cJ1_indexOf_4cfef 1 = .ok (.invokestatic 88, 3) := by decide +kernel
theorem dJ1_indexOf_4cfef_4 : decode cJ1_indexOf_4cfef 4 = .ok (.ifCond .ne 5, 3) := by decide +kernel
theorem dJ1_indexOf_4cfef_7 : decode cJ1_indexOf_4cfef 7 = .ok (.iconst (-1), 1) := by decide +kernel
theorem dJ1_indexOf_4cfef_8 : decode cJ1_indexOf_4cfef 8 = .ok (.ireturn, 1) := by decide +kernel
theorem dJ1_indexOf_4cfef_9 : decode cJ1_indexOf_4cfef 9 = .ok (.iload_n 2, 1) := by decide +kernel
theorem dJ1_indexOf_4cfef_10 : decode cJ1_indexOf_4cfef 10 = .ok (.iconst 0, 1) := by decide +kernel
theorem dJ1_indexOf_4cfef_11 : decode cJ1_indexOf_4cfef 11 = .ok (.invokestatic 92, 3) := by decide +kernel
theorem dJ1_indexOf_4cfef_14 : decode cJ1_indexOf_4cfef 14 = .ok (.istore_n 2, 1) := by decide +kernel
theorem dJ1_indexOf_4cfef_15 : decode cJ1_indexOf_4cfef 15 = .ok (.iload_n 3, 1) := by decide +kernel
theorem dJ1_indexOf_4cfef_16 : decode cJ1_indexOf_4cfef 16 = .ok (.aload_n 0, 1) := by decide +kernel
theorem dJ1_indexOf_4cfef_17 : decode cJ1_indexOf_4cfef 17 = .ok (.arraylength, 1) := by decide +kernel
theorem dJ1_indexOf_4cfef_18 : decode cJ1_indexOf_4cfef 18 = .ok (.invokestatic 38, 3) := by decide +kernel
theorem dJ1_indexOf_4cfef_21 : decode cJ1_indexOf_4cfef 21 = .ok (.istore_n 3, 1) := by decide +kernel
theorem dJ1_indexOf_4cfef_22 : decode cJ1_indexOf_4cfef 22 = .ok (.iload_n 2, 1) := by decide +kernel
theorem dJ1_indexOf_4cfef_23 : decode cJ1_indexOf_4cfef 23 = .ok (.iload_n 3, 1) := by decide +kernel
theorem dJ1_indexOf_4cfef_24 : decode cJ1_indexOf_4cfef 24 = .ok (.if_icmp .lt 5, 3) := by decide +kernel
theorem dJ1_indexOf_4cfef_27 : decode cJ1_indexOf_4cfef 27 = .ok (.iconst (-1), 1) := by decide +kernel
theorem dJ1_indexOf_4cfef_28 : decode cJ1_indexOf_4cfef 28 = .ok (.ireturn, 1) := by decide +kernel
theorem dJ1_indexOf_4cfef_29 : decode cJ1_indexOf_4cfef 29 = .ok (.aload_n 0, 1) := by decide +kernel
theorem dJ1_indexOf_4cfef_30 : decode cJ1_indexOf_4cfef 30 = .ok (.iload_n 1, 1) := by decide +kernel
theorem dJ1_indexOf_4cfef_31 : decode cJ1_indexOf_4cfef 31 = .ok (.iload_n 2, 1) := by decide +kernel
theorem dJ1_indexOf_4cfef_32 : decode cJ1_indexOf_4cfef 32 = .ok (.iload_n 3, 1) := by decide +kernel
theorem dJ1_indexOf_4cfef_33 : decode cJ1_indexOf_4cfef 33 = .ok (.invokestatic 95, 3) := by decide +kernel
theorem dJ1_indexOf_4cfef_36 : decode cJ1_indexOf_4cfef 36 = .ok (.ireturn, 1) := by decide +kernel
theorem dJ1_indexOfChar_4cfef_0 : decode cJ1_indexOfChar_4cfef 0 = .ok (.iload_n 1, 1) := by decide +kernel
theorem dJ1_indexOfChar_4cfef_1 : decode cJ1_indexOfChar_4cfef 1 = .ok (.i2b, 1) := by decide +kernel
theorem dJ1_indexOfChar_4cfef_2 : decode cJ1_indexOfChar_4cfef 2 = .ok (.istore 4, 2) := by decide +kernel
theorem dJ1_indexOfChar_4cfef_4 : decode cJ1_indexOfChar_4cfef 4 = .ok (.iload_n 2, 1) := by decide +kernel
theorem dJ1_indexOfChar_4cfef_5 : decode cJ1_indexOfChar_4cfef 5 = .ok (.istore 5, 2) := by decide +kernel
theorem dJ1_indexOfChar_4cfef_7 : decode cJ1_indexOfChar_4cfef 7 = .ok (.iload 5, 2) := by decide +kernel
theorem dJ1_indexOfChar_4cfef_9 : decode cJ1_indexOfChar_4cfef 9 = .ok (.iload_n 3, 1) := by decide +kernel
theorem dJ1_indexOfChar_4cfef_10 : decode cJ1_indexOfChar_4cfef 10 = .ok (.if_icmp .ge 21, 3) := by decide +kernel
theorem dJ1_indexOfChar_4cfef_13 : decode cJ1_indexOfChar_4cfef 13 = .ok (.aload_n 0, 1) := by decide +kernel
theorem dJ1_indexOfChar_4cfef_14 : decode cJ1_indexOfChar_4cfef 14 = .ok (.iload 5, 2) := by decide +kernel
theorem dJ1_indexOfChar_4cfef_16 : decode cJ1_indexOfChar_4cfef 16 = .ok (.baload, 1) := by decide +kernel
theorem dJ1_indexOfChar_4cfef_17 : decode cJ1_indexOfChar_4cfef 17 = .ok (.iload 4, 2) := by decide +kernel
theorem dJ1_indexOfChar_4cfef_19 : decode cJ1_indexOfChar_4cfef 19 = .ok (.if_icmp .ne 6, 3) := by decide +kernel
theorem dJ1_indexOfChar_4cfef_22 : decode cJ1_indexOfChar_4cfef 22 = .ok (.iload 5, 2) := by decide +kernel
theorem dJ1_indexOfChar_4cfef_24 : decode cJ1_indexOfChar_4cfef 24 = .ok (.ireturn, 1) := by decide +kernel
theorem dJ1_indexOfChar_4cfef_25 : decode cJ1_indexOfChar_4cfef 25 = .ok (.iinc 5 1, 3) := by decide +kernel
theorem dJ1_indexOfChar_4cfef_28 : decode cJ1_indexOfChar_4cfef 28 = .ok (.goto (-21), 3) := by decide +kernel
theorem dJ1_indexOfChar_4cfef_31 : decode cJ1_indexOfChar_4cfef 31 = .ok (.iconst (-1), 1) := by decide +kernel
theorem dJ1_indexOfChar_4cfef_32 : decode cJ1_indexOfChar_4cfef 32 = .ok (.ireturn, 1) := by decide +kernel
set_option maxRecDepth 20000 in
theorem ggJ2_getChar_3b067_J2_length_9d52b : GoodIn wsJ2_getChar_3b067 wsJ2_length_9d52b := goodIn_r _ [7] (by decide +kernel) (by decide +kernel)
set_option maxRecDepth 20000 in
theorem gJ2_getChar_3b067_J2_length_9d52b : GoodIn wsJ2_getChar_3b067 (va_wsS RJ2 48 yJ2_length_9d52b wsJ2_length_9d52b) := goodIn_app (goodIn_of _ (by decide +kernel)) ggJ2_getChar_3b067_J2_length_9d52b
theorem dJ2_getChar_3b067_0 : decode cJ2_getChar_3b067 0 = .ok (.getstatic 44, 3) := by decide +kernel
theorem dJ2_getChar_3b067_3 : decode cJ2_getChar_3b067 3 = .ok (.ifCond .ne 25, 3) := by decide +kernel
theorem dJ2_getChar_3b067_6 : decode cJ2_getChar_3b067 6 = .ok (.iload_n 1, 1) := by decide +kernel
theorem dJ2_getChar_3b067_7 : decode cJ2_getChar_3b067 7 = .ok (.ifCond .lt 11, 3) := by decide +kernel
theorem dJ2_getChar_3b067_10 : decode cJ2_getChar_3b067 10 = .ok (.iload_n 1, 1) := by decide +kernel
theorem dJ2_getChar_3b067_11 : decode cJ2_getChar_3b067 11 = .ok (.aload_n 0, 1) := by decide +kernel
theorem dJ2_getChar_3b067_12 : decode cJ2_getChar_3b067 12 = .ok (.invokestatic 48, 3) := by decide +kernel
theorem dJ2_getChar_3b067_15 : decode cJ2_getChar_3b067 15 = .ok (.if_icmp .lt 13, 3) := by decide +kernel
theorem dJ2_getChar_3b067_18 : decode cJ2_getChar_3b067 18 = .ok (.new 52, 3) := by decide +kernel
theorem dJ2_getChar_3b067_21 : decode cJ2_getChar_3b067 21 = .ok (.dup, 1) := by decide +kernel
theorem dJ2_getChar_3b067_22 : decode cJ2_getChar_3b067 22 = .ok (.ldc 54, 2) := by decide +kernel
theorem dJ2_getChar_3b067_24 : decode cJ2_getChar_3b067 24 = .ok (.invokespecial 56, 3) := by decide +kernel
theorem dJ2_getChar_3b067_27 : decode cJ2_getChar_3b067 27 = .ok (.athrow, 1) := by decide +kernel
theorem dJ2_getChar_3b067_28 : decode cJ2_getChar_3b067 28 = .ok (.iload_n 1, 1) := by decide +kernel
theorem dJ2_getChar_3b067_29 : decode cJ2_getChar_3b067 29 = .ok (.iconst 1, 1) := by decide +kernel
theorem dJ2_getChar_3b067_30 : decode cJ2_getChar_3b067 30 = .ok (.ishl, 1) := by decide +kernel
theorem dJ2_getChar_3b067_31 : decode cJ2_getChar_3b067 31 = .ok (.istore_n 1, 1) := by decide +kernel
theorem dJ2_getChar_3b067_32 : decode cJ2_getChar_3b067 32 = .ok (.aload_n 0, 1) := by decide +kernel
theorem dJ2_getChar_3b067_33 : decode cJ2_getChar_3b067 33 = .ok (.iload_n 1, 1) := by decide +kernel
theorem dJ2_getChar_3b067_34 : decode cJ2_getChar_3b067 34 = .ok (.iinc 1 1, 3) := by decide +kernel
theorem dJ2_getChar_3b067_37 : decode cJ2_getChar_3b067 37 = .ok (.baload, 1) := by decide +kernel
theorem dJ2_getChar_3b067_38 : decode cJ2_getChar_3b067 38 = .ok (.sipush 255, 3) := by decide +kernel
theorem dJ2_getChar_3b067_41 : decode cJ2_getChar_3b067 41 = .ok (.iand, 1) := by decide +kernel
theorem dJ2_getChar_3b067_42 : decode cJ2_getChar_3b067 42 = .ok (.getstatic 59, 3) := by decide +kernel
theorem dJ2_getChar_3b067_45 : decode cJ2_getChar_3b067 45 = .ok (.ishl, 1) := by decide +kernel
theorem dJ2_getChar_3b067_46 : decode cJ2_getChar_3b067 46 = .ok (.aload_n 0, 1) := by decide +kernel
theorem dJ2_getChar_3b067_47 : decode cJ2_getChar_3b067 47 = .ok (.iload_n 1, 1) := by decide +kernel
theorem dJ2_getChar_3b067_48 : decode cJ2_getChar_3b067 48 = .ok (.baload, 1) := by decide +kernel
theorem dJ2_getChar_3b067_49 : decode cJ2_getChar_3b067 49 = .ok (.sipush 255, 3) := by decide +kernel
theorem dJ2_getChar_3b067_52 : decode cJ2_getChar_3b067 52 = .ok (.iand, 1) := by decide +kernel
theorem dJ2_getChar_3b067_53 : decode cJ2_getChar_3b067 53 = .ok (.getstatic 63, 3) := by decide +kernel
theorem dJ2_getChar_3b067_56 : decode cJ2_getChar_3b067 56 = .ok (.ishl, 1) := by decide +kernel
theorem dJ2_getChar_3b067_57 : decode cJ2_getChar_3b067 57 = .ok (.ior, 1) := by decide +kernel
theorem dJ2_getChar_3b067_58 : decode cJ2_getChar_3b067 58 = .ok (.i2c, 1) := by decide +kernel
theorem dJ2_getChar_3b067_59 : decode cJ2_getChar_3b067 59 = .ok (.ireturn, 1) := by decide +kernel
theorem dJ2_length_9d52b_0 : decode cJ2_length_9d52b 0 = .ok (.aload_n 0, 1) := by decide +kernel
theorem dJ2_length_9d52b_1 : decode cJ2_length_9d52b 1 = .ok (.arraylength, 1) := by decide +kernel
theorem dJ2_length_9d52b_2 : decode cJ2_length_9d52b 2 = .ok (.iconst 1, 1) := by decide +kernel
theorem dJ2_length_9d52b_3 : decode cJ2_length_9d52b 3 = .ok (.ishr, 1) := by decide +kernel
theorem dJ2_length_9d52b_4 : decode cJ2_length_9d52b 4 = .ok (.ireturn, 1) := by decide +kernel
set_option maxRecDepth 20000 in
theorem ggJ2_indexOf_4cfef_J2_indexOfChar_4cfef : GoodIn wsJ2_indexOf_4cfef wsJ2_indexOfChar_4cfef := goodIn_r _ [12, 13, 14, 11, 15, 16, 17, 18, 19, 20, 21, 22, 23, 24, 25, 26, 27, 28, 29, 30, 31, 32, 33, 34, 35, 36] (by decide +kernel) (by decide +kernel)
set_option maxRecDepth 20000 in
theorem gJ2_indexOf_4cfef_J2_indexOfChar_4cfef : GoodIn wsJ2_indexOf_4cfef (va_wsS RJ2 228 yJ2_indexOfChar_4cfef wsJ2_indexOfChar_4cfef) := goodIn_app (goodIn_of _ (by decide +kernel)) ggJ2_indexOf_4cfef_J2_indexOfChar_4cfef
set_option maxRecDepth 20000 in
theorem ggJ2_indexOf_4cfef_J2_indexOfSupplementary_4cfef : GoodIn wsJ2_indexOf_4cfef wsJ2_indexOfSupplementary_4cfef := goodIn_r _ [39, 40, 41, 42, 43, 44, 45, 46, 47, 48, 49, 50, 51, 13, 14, 11, 15, 16, 17, 18, 19, 20, 21, 22, 23, 24, 25, 26, 27, 31, 32, 33, 34, 35, 36] (by decide +kernel) (by decide +kernel)
set_option maxRecDepth 20000 in
theorem gJ2_indexOf_4cfef_J2_indexOfSupplementary_4cfef : GoodIn wsJ2_indexOf_4cfef (va_wsS RJ2 232 yJ2_indexOfSupplementary_4cfef wsJ2_indexOfSupplementary_4cfef) := goodIn_app (goodIn_of _ (by decide +kernel)) ggJ2_indexOf_4cfef_J2_indexOfSupplementary_4cfef
theorem dJ2_indexOf_4cfef_0 : decode cJ2_indexOf_4cfef 0 = .ok (.iload_n 2, 1) := by decide +kernel
theorem dJ2_indexOf_4cfef_1 : decode cJ2_indexOf_4cfef 1 = .ok (.iconst 0, 1) := by decide +kernel
theorem dJ2_indexOf_4cfef_2 : decode cJ2_indexOf_4cfef 2 = .ok (.invokestatic 224, 3) := by decide +kernel
theorem dJ2_indexOf_4cfef_5 : decode cJ2_indexOf_4cfef 5 = .ok (.istore_n 2, 1) := by decide +kernel
theorem dJ2_indexOf_4cfef_6 : decode cJ2_indexOf_4cfef 6 = .ok (.iload_n 3, 1) := by decide +kernel
theorem dJ2_indexOf_4cfef_7 : decode cJ2_indexOf_4cfef 7 = .ok (.aload_n 0, 1) := by decide +kernel
theorem dJ2_indexOf_4cfef_8 : decode cJ2_indexOf_4cfef 8 = .ok (.arraylength, 1) := by decide +kernel
theorem dJ2_indexOf_4cfef_9 : decode cJ2_indexOf_4cfef 9 = .ok (.iconst 1, 1) := by decide +kernel
theorem dJ2_indexOf_4cfef_10 : decode cJ2_indexOf_4cfef 10 = .ok (.ishr, 1) := by decide +kernel
theorem dJ2_indexOf_4cfef_11 : decode cJ2_indexOf_4cfef 11 = .ok (.invokestatic 183, 3) := by decide +kernel
theorem dJ2_indexOf_4cfef_14 : decode cJ2_indexOf_4cfef 14 = .ok (.istore_n 3, 1) := by decide +kernel
theorem dJ2_indexOf_4cfef_15 : decode cJ2_indexOf_4cfef 15 = .ok (.iload_n 2, 1) := by decide +kernel
theorem dJ2_indexOf_4cfef_16 : decode cJ2_indexOf_4cfef 16 = .ok (.iload_n 3, 1) := by decide +kernel
theorem dJ2_indexOf_4cfef_17 : decode cJ2_indexOf_4cfef 17 = .ok (.if_icmp .lt 5, 3) := by decide +kernel
theorem dJ2_indexOf_4cfef_20 : decode cJ2_indexOf_4cfef 20 = .ok (.iconst (-1), 1) := by decide +kernel
theorem dJ2_indexOf_4cfef_21 : decode cJ2_indexOf_4cfef 21 = .ok (.ireturn, 1) := by decide +kernel
theorem dJ2_indexOf_4cfef_22 : decode cJ2_indexOf_4cfef 22 = .ok (.iload_n 1, 1) := by decide +kernel
theorem dJ2_indexOf_4cfef_23 : decode cJ2_indexOf_4cfef 23 = .ok (.ldc 227, 2) := by decide +kernel
theorem dJ2_indexOf_4cfef_25 : decode cJ2_indexOf_4cfef 25 = .ok (.if_icmp .ge 11, 3) := by decide +kernel
theorem dJ2_indexOf_4cfef_28 : decode cJ2_indexOf_4cfef 28 = .ok (.aload_n 0, 1) := by decide +kernel
theorem dJ2_indexOf_4cfef_29 : decode cJ2_indexOf_4cfef 29 = .ok (.iload_n 1, 1) := by decide +kernel
theorem dJ2_indexOf_4cfef_30 : decode cJ2_indexOf_4cfef 30 = .ok (.iload_n 2, 1) := by decide +kernel
theorem dJ2_indexOf_4cfef_31 : decode cJ2_indexOf_4cfef 31 = .ok (.iload_n 3, 1) := by decide +kernel
theorem dJ2_indexOf_4cfef_32 : decode cJ2_indexOf_4cfef 32 = .ok (.invokestatic 228, 3) := by decide +kernel
theorem dJ2_indexOf_4cfef_35 : decode cJ2_indexOf_4cfef 35 = .ok (.ireturn, 1) := by decide +kernel
theorem dJ2_indexOf_4cfef_36 : decode cJ2_indexOf_4cfef 36 = .ok (.aload_n 0, 1) := by decide +kernel
theorem dJ2_indexOf_4cfef_37 : decode cJ2_indexOf_4cfef 37 = .ok (.iload_n 1, 1) := by decide +kernel
theorem dJ2_indexOf_4cfef_38 : decode cJ2_indexOf_4cfef 38 = .ok (.iload_n 2, 1) := by decide +kernel
theorem dJ2_indexOf_4cfef_39 : decode cJ2_indexOf_4cfef 39 = .ok (.iload_n 3, 1) := by decide +kernel
theorem dJ2_indexOf_4cfef_40 : decode cJ2_indexOf_4cfef 40 = .ok (.invokestatic 232, 3) := by decide +kernel
theorem dJ2_indexOf_4cfef_43 : decode cJ2_indexOf_4cfef 43 = .ok (.ireturn, 1) := by decide +kernel
set_option maxRecDepth 20000 in
theorem ggJ2_indexOfChar_4cfef_J2_checkBoundsBeginEnd_d044e : GoodIn wsJ2_indexOfChar_4cfef wsJ2_checkBoundsBeginEnd_d044e := goodIn_r _ [4, 5, 6, 3, 7, 8, 9, 10, 11, 12, 13, 14, 15, 16] (by decide +kernel) (by decide +kernel)
set_option maxRecDepth 20000 in
theorem gJ2_indexOfChar_4cfef_J2_checkBoundsBeginEnd_d044e : GoodIn wsJ2_indexOfChar_4cfef (va_wsS RJ2 96 yJ2_checkBoundsBeginEnd_d044e wsJ2_checkBoundsBeginEnd_d044e) := goodIn_app (goodIn_of _ (by decide +kernel)) ggJ2_indexOfChar_4cfef_J2_checkBoundsBeginEnd_d044e
set_option maxRecDepth 20000 in
theorem ggJ2_indexOfChar_4cfef_J2_indexOfCharUnsafe_4cfef : GoodIn wsJ2_indexOfChar_4cfef wsJ2_indexOfCharUnsafe_4cfef := goodIn_r _ [19, 20, 21, 3, 22, 23, 24, 25, 5, 6, 7] (by decide +kernel) (by decide +kernel)
set_option maxRecDepth 20000 in
theorem gJ2_indexOfChar_4cfef_J2_indexOfCharUnsafe_4cfef : GoodIn wsJ2_indexOfChar_4cfef (va_wsS RJ2 244 yJ2_indexOfCharUnsafe_4cfef wsJ2_indexOfCharUnsafe_4cfef) := goodIn_app (goodIn_of _ (by decide +kernel)) ggJ2_indexOfChar_4cfef_J2_indexOfCharUnsafe_4cfef
theorem dJ2_indexOfChar_4cfef_0 : decode cJ2_indexOfChar_4cfef 0 = .ok (.iload_n 2, 1) := by decide +kernel
theorem dJ2_indexOfChar_4cfef_1 : decode cJ2_indexOfChar_4cfef 1 = .ok (.iload_n 3, 1) := by decide +kernel
theorem dJ2_indexOfChar_4cfef_2 : decode cJ2_indexOfChar_4cfef 2 = .ok (.aload_n 0, 1) := by decide +kernel
theorem dJ2_indexOfChar_4cfef_3 : decode cJ2_indexOfChar_4cfef 3 = .ok (.invokestatic 96, 3) := by decide +kernel
theorem dJ2_indexOfChar_4cfef_6 : decode cJ2_indexOfChar_4cfef 6 = .ok (.aload_n 0, 1) := by decide +kernel
theorem dJ2_indexOfChar_4cfef_7 : decode cJ2_indexOfChar_4cfef 7 = .ok (.iload_n 1, 1) := by decide +kernel
theorem dJ2_indexOfChar_4cfef_8 : decode cJ2_indexOfChar_4cfef 8 = .ok (.iload_n 2, 1) := by decide +kernel
theorem dJ2_indexOfChar_4cfef_9 : decode cJ2_indexOfChar_4cfef 9 = .ok (.iload_n 3, 1) := by decide +kernel
theorem dJ2_indexOfChar_4cfef_10 : decode cJ2_indexOfChar_4cfef 10 = .ok (.invokestatic 244, 3) := by decide +kernel
theorem dJ2_indexOfChar_4cfef_13 : decode cJ2_indexOfChar_4cfef 13 = .ok (.ireturn, 1) := by decide +kernel
set_option maxRecDepth 20000 in
theorem ggJ2_indexOfCharUnsafe_4cfef_J2_getChar_3b067 : GoodIn wsJ2_indexOfCharUnsafe_4cfef wsJ2_getChar_3b067 := goodIn_r _ [4, 5, 6, 7, 8, 9, 3, 10] (by decide +kernel) (by decide +kernel)
set_option maxRecDepth 20000 in
theorem gJ2_indexOfCharUnsafe_4cfef_J2_getChar_3b067 : GoodIn wsJ2_indexOfCharUnsafe_4cfef (va_wsS RJ2 71 yJ2_getChar_3b067 wsJ2_getChar_3b067) := goodIn_app (goodIn_of _ (by decide +kernel)) ggJ2_indexOfCharUnsafe_4cfef_J2_getChar_3b067
theorem dJ2_indexOfCharUnsafe_4cfef_0 : decode cJ2_indexOfCharUnsafe_4cfef 0 = .ok (.iload_n 2, 1) := by decide +kernel
theorem dJ2_indexOfCharUnsafe_4cfef_1 : decode cJ2_indexOfCharUnsafe_4cfef 1 = .ok (.istore 4, 2) := by decide +kernel
theorem dJ2_indexOfCharUnsafe_4cfef_3 : decode cJ2_indexOfCharUnsafe_4cfef 3 = .ok (.iload 4, 2) := by decide +kernel
theorem dJ2_indexOfCharUnsafe_4cfef_5 : decode cJ2_indexOfCharUnsafe_4cfef 5 = .ok (.iload_n 3, 1) := by decide +kernel
theorem dJ2_indexOfCharUnsafe_4cfef_6 : decode cJ2_indexOfCharUnsafe_4cfef 6 = .ok (.if_icmp .ge 22, 3) := by decide +kernel
theorem dJ2_indexOfCharUnsafe_4cfef_9 : decode cJ2_indexOfCharUnsafe_4cfef 9 = .ok (.aload_n 0, 1) := by decide +kernel
theorem dJ2_indexOfCharUnsafe_4cfef_10 : decode cJ2_indexOfCharUnsafe_4cfef 10 = .ok (.iload 4, 2) := by decide +kernel
theorem dJ2_indexOfCharUnsafe_4cfef_12 : decode cJ2_indexOfCharUnsafe_4cfef 12 = .ok (.invokestatic 71, 3) := by decide +kernel
theorem dJ2_indexOfCharUnsafe_4cfef_15 : decode cJ2_indexOfCharUnsafe_4cfef 15 = .ok (.iload_n 1, 1) := by decide +kernel
theorem dJ2_indexOfCharUnsafe_4cfef_16 : decode cJ2_indexOfCharUnsafe_4cfef 16 = .ok (.if_icmp .ne 6, 3) := by decide +kernel
theorem dJ2_indexOfCharUnsafe_4cfef_19 : decode cJ2_indexOfCharUnsafe_4cfef 19 = .ok (.iload 4, 2) := by decide +kernel
theorem dJ2_indexOfCharUnsafe_4cfef_21 : decode cJ2_indexOfCharUnsafe_4cfef 21 = .ok (.ireturn, 1) := by decide +kernel
theorem dJ2_indexOfCharUnsafe_4cfef_22 : decode cJ2_indexOfCharUnsafe_4cfef 22 = .ok (.iinc 4 1, 3) := by decide +kernel
theorem dJ2_indexOfCharUnsafe_4cfef_25 : decode cJ2_indexOfCharUnsafe_4cfef 25 = .ok (.goto (-22), 3) := by decide +kernel
theorem dJ2_indexOfCharUnsafe_4cfef_28 : decode cJ2_indexOfCharUnsafe_4cfef 28 = .ok (.iconst (-1), 1) := by decide +kernel
theorem dJ2_indexOfCharUnsafe_4cfef_29 : decode cJ2_indexOfCharUnsafe_4cfef 29 = .ok (.ireturn, 1) := by decide +kernel
set_option maxRecDepth 20000 in
theorem ggJ2_indexOfSupplementary_4cfef_J11_isValidCodePoint_9a6ad : GoodIn wsJ2_indexOfSupplementary_4cfef wsJ11_isValidCodePoint_9a6ad := goodIn_r _ [4] (by decide +kernel) (by decide +kernel)
set_option maxRecDepth 20000 in
theorem gJ2_indexOfSupplementary_4cfef_J11_isValidCodePoint_9a6ad : GoodIn wsJ2_indexOfSupplementary_4cfef (va_wsS RJ2 164 yJ11_isValidCodePoint_9a6ad wsJ11_isValidCodePoint_9a6ad) := goodIn_app (goodIn_of _ (by decide +kernel)) ggJ2_indexOfSupplementary_4cfef_J11_isValidCodePoint_9a6ad
set_option maxRecDepth 20000 in
theorem ggJ2_indexOfSupplementary_4cfef_J11_highSurrogate_5068e : GoodIn wsJ2_indexOfSupplementary_4cfef wsJ11_highSurrogate_5068e := goodIn_r _ [7, 8] (by decide +kernel) (by decide +kernel)
set_option maxRecDepth 20000 in
theorem gJ2_indexOfSupplementary_4cfef_J11_highSurrogate_5068e : GoodIn wsJ2_indexOfSupplementary_4cfef (va_wsS RJ2 157 yJ11_highSurrogate_5068e wsJ11_highSurrogate_5068e) := goodIn_app (goodIn_of _ (by decide +kernel)) ggJ2_indexOfSupplementary_4cfef_J11_highSurrogate_5068e
set_option maxRecDepth 20000 in
theorem ggJ2_indexOfSupplementary_4cfef_J11_lowSurrogate_5068e : GoodIn wsJ2_indexOfSupplementary_4cfef wsJ11_lowSurrogate_5068e := goodIn_r _ [11, 12] (by decide +kernel) (by decide +kernel)
set_option maxRecDepth 20000 in
theorem gJ2_indexOfSupplementary_4cfef_J11_lowSurrogate_5068e : GoodIn wsJ2_indexOfSupplementary_4cfef (va_wsS RJ2 161 yJ11_lowSurrogate_5068e wsJ11_lowSurrogate_5068e) := goodIn_app (goodIn_of _ (by decide +kernel)) ggJ2_indexOfSupplementary_4cfef_J11_lowSurrogate_5068e
set_option maxRecDepth 20000 in
theorem ggJ2_indexOfSupplementary_4cfef_J2_checkBoundsBeginEnd_d044e : GoodIn wsJ2_indexOfSupplementary_4cfef wsJ2_checkBoundsBeginEnd_d044e := goodIn_r _ [16, 17, 18, 15, 19, 20, 21, 22, 23, 24, 25, 26, 27, 28] (by decide +kernel) (by decide +kernel)
set_option maxRecDepth 20000 in
theorem gJ2_indexOfSupplementary_4cfef_J2_checkBoundsBeginEnd_d044e : GoodIn wsJ2_indexOfSupplementary_4cfef (va_wsS RJ2 96 yJ2_checkBoundsBeginEnd_d044e wsJ2_checkBoundsBeginEnd_d044e) := goodIn_app (goodIn_of _ (by decide +kernel)) ggJ2_indexOfSupplementary_4cfef_J2_checkBoundsBeginEnd_d044e
set_option maxRecDepth 20000 in
theorem ggJ2_indexOfSupplementary_4cfef_J2_getChar_3b067 : GoodIn wsJ2_indexOfSupplementary_4cfef wsJ2_getChar_3b067 := goodIn_r _ [31, 32, 33, 34, 17, 18, 15, 19] (by decide +kernel) (by decide +kernel)
set_option maxRecDepth 20000 in
theorem gJ2_indexOfSupplementary_4cfef_J2_getChar_3b067 : GoodIn wsJ2_indexOfSupplementary_4cfef (va_wsS RJ2 71 yJ2_getChar_3b067 wsJ2_getChar_3b067) := goodIn_app (goodIn_of _ (by decide +kernel)) ggJ2_indexOfSupplementary_4cfef_J2_getChar_3b067
theorem dJ2_indexOfSupplementary_4cfef_0 : decode cJ2_indexOfSupplementary_4cfef 0 = .ok (.iload_n 1, 1) := by decide +kernel
theorem dJ2_indexOfSupplementary_4cfef_1 : decode cJ2_indexOfSupplementary_4cfef 1 = .ok (.invokestatic 164, 3) := by decide +kernel
theorem dJ2_indexOfSupplementary_4cfef_4 : decode cJ2_indexOfSupplementary_4cfef 4 = .ok (.ifCond .eq 65, 3) := by decide +kernel
theorem dJ2_indexOfSupplementary_4cfef_7 : decode cJ2_indexOfSupplementary_4cfef 7 = .ok (.iload_n 1, 1) := by decide +kernel
theorem dJ2_indexOfSupplementary_4cfef_8 : decode cJ2_indexOfSupplementary_4cfef 8 = .ok (.invokestatic 157, 3) := by decide +kernel
theorem dJ2_indexOfSupplementary_4cfef_11 : decode cJ2_indexOfSupplementary_4cfef 11 = .ok (.istore 4, 2) := by decide +kernel
theorem dJ2_indexOfSupplementary_4cfef_13 : decode cJ2_indexOfSupplementary_4cfef 13 = .ok (.iload_n 1, 1) := by decide +kernel
theorem dJ2_indexOfSupplementary_4cfef_14 : decode cJ2_indexOfSupplementary_4cfef 14 = .ok (.invokestatic 161, 3) := by decide +kernel
theorem dJ2_indexOfSupplementary_4cfef_17 : decode cJ2_indexOfSupplementary_4cfef 17 = .ok (.istore 5, 2) := by decide +kernel
theorem dJ2_indexOfSupplementary_4cfef_19 : decode cJ2_indexOfSupplementary_4cfef 19 = .ok (.iload_n 2, 1) := by decide +kernel
