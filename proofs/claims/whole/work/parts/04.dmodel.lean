theorem dX4_init_0 : decode cX4_init 0 = .ok (.aload_n 0, 1) := by decide +kernel
theorem dX4_init_1 : decode cX4_init 1 = .ok (.invokespecial 1, 3) := by decide +kernel
theorem dX4_init_4 : decode cX4_init 4 = .ok (.aload_n 0, 1) := by decide +kernel
theorem dX4_init_5 : decode cX4_init 5 = .ok (.bipush 12, 2) := by decide +kernel
theorem dX4_init_7 : decode cX4_init 7 = .ok (.newarray .int, 2) := by decide +kernel
theorem dX4_init_9 : decode cX4_init 9 = .ok (.putfield 7, 3) := by decide +kernel
theorem dX4_init_12 : decode cX4_init 12 = .ok (.aload_n 0, 1) := by decide +kernel
theorem dX4_init_13 : decode cX4_init 13 = .ok (.bipush 12, 2) := by decide +kernel
theorem dX4_init_15 : decode cX4_init 15 = .ok (.newarray .int, 2) := by decide +kernel
theorem dX4_init_17 : decode cX4_init 17 = .ok (.putfield 13, 3) := by decide +kernel
theorem dX4_init_20 : decode cX4_init 20 = .ok (.aload_n 0, 1) := by decide +kernel
theorem dX4_init_21 : decode cX4_init 21 = .ok (.sipush 520, 3) := by decide +kernel
theorem dX4_init_24 : decode cX4_init 24 = .ok (.newarray .int, 2) := by decide +kernel
theorem dX4_init_26 : decode cX4_init 26 = .ok (.putfield 16, 3) := by decide +kernel
theorem dX4_init_29 : decode cX4_init 29 = .ok (.aload_n 0, 1) := by decide +kernel
theorem dX4_init_30 : decode cX4_init 30 = .ok (.sipush 520, 3) := by decide +kernel
theorem dX4_init_33 : decode cX4_init 33 = .ok (.newarray .int, 2) := by decide +kernel
theorem dX4_init_35 : decode cX4_init 35 = .ok (.putfield 19, 3) := by decide +kernel
theorem dX4_init_38 : decode cX4_init 38 = .ok (.aload_n 0, 1) := by decide +kernel
theorem dX4_init_39 : decode cX4_init 39 = .ok (.sipush 520, 3) := by decide +kernel
theorem dX4_init_42 : decode cX4_init 42 = .ok (.newarray .int, 2) := by decide +kernel
theorem dX4_init_44 : decode cX4_init 44 = .ok (.putfield 22, 3) := by decide +kernel
theorem dX4_init_47 : decode cX4_init 47 = .ok (.aload_n 0, 1) := by decide +kernel
theorem dX4_init_48 : decode cX4_init 48 = .ok (.ldc 25, 2) := by decide +kernel
theorem dX4_init_50 : decode cX4_init 50 = .ok (.newarray .long, 2) := by decide +kernel
theorem dX4_init_52 : decode cX4_init 52 = .ok (.putfield 26, 3) := by decide +kernel
theorem dX4_init_55 : decode cX4_init 55 = .ok (.aload_n 0, 1) := by decide +kernel
theorem dX4_init_56 : decode cX4_init 56 = .ok (.sipush 520, 3) := by decide +kernel
theorem dX4_init_59 : decode cX4_init 59 = .ok (.newarray .int, 2) := by decide +kernel
theorem dX4_init_61 : decode cX4_init 61 = .ok (.putfield 30, 3) := by decide +kernel
theorem dX4_init_64 : decode cX4_init 64 = .ok (.aload_n 0, 1) := by decide +kernel
theorem dX4_init_65 : decode cX4_init 65 = .ok (.sipush 520, 3) := by decide +kernel
theorem dX4_init_68 : decode cX4_init 68 = .ok (.newarray .int, 2) := by decide +kernel
theorem dX4_init_70 : decode cX4_init 70 = .ok (.putfield 33, 3) := by decide +kernel
theorem dX4_init_73 : decode cX4_init 73 = .ok (.aload_n 0, 1) := by decide +kernel
theorem dX4_init_74 : decode cX4_init 74 = .ok (.bipush 64, 2) := by decide +kernel
theorem dX4_init_76 : decode cX4_init 76 = .ok (.newarray .long, 2) := by decide +kernel
theorem dX4_init_78 : decode cX4_init 78 = .ok (.putfield 36, 3) := by decide +kernel
theorem dX4_init_81 : decode cX4_init 81 = .ok (.aload_n 0, 1) := by decide +kernel
theorem dX4_init_82 : decode cX4_init 82 = .ok (.bipush 64, 2) := by decide +kernel
theorem dX4_init_84 : decode cX4_init 84 = .ok (.newarray .long, 2) := by decide +kernel
theorem dX4_init_86 : decode cX4_init 86 = .ok (.putfield 39, 3) := by decide +kernel
theorem dX4_init_89 : decode cX4_init 89 = .ok (.aload_n 0, 1) := by decide +kernel
theorem dX4_init_90 : decode cX4_init 90 = .ok (.iconst (-1), 1) := by decide +kernel
theorem dX4_init_91 : decode cX4_init 91 = .ok (.putfield 42, 3) := by decide +kernel
theorem dX4_init_94 : decode cX4_init 94 = .ok (.aload_n 0, 1) := by decide +kernel
theorem dX4_init_95 : decode cX4_init 95 = .ok (.bipush 7, 2) := by decide +kernel
theorem dX4_init_97 : decode cX4_init 97 = .ok (.newarray .int, 2) := by decide +kernel
theorem dX4_init_99 : decode cX4_init 99 = .ok (.putfield 46, 3) := by decide +kernel
theorem dX4_init_102 : decode cX4_init 102 = .ok (.return_, 1) := by decide +kernel
theorem dX4_in_0 : decode cX4_in 0 = .ok (.iload_n 0, 1) := by decide +kernel
theorem dX4_in_1 : decode cX4_in 1 = .ok (.iload_n 1, 1) := by decide +kernel
theorem dX4_in_2 : decode cX4_in 2 = .ok (.if_icmp .lt 12, 3) := by decide +kernel
theorem dX4_in_5 : decode cX4_in 5 = .ok (.iload_n 0, 1) := by decide +kernel
theorem dX4_in_6 : decode cX4_in 6 = .ok (.iload_n 2, 1) := by decide +kernel
theorem dX4_in_7 : decode cX4_in 7 = .ok (.if_icmp .gt 7, 3) := by decide +kernel
theorem dX4_in_10 : decode cX4_in 10 = .ok (.iconst 1, 1) := by decide +kernel
theorem dX4_in_11 : decode cX4_in 11 = .ok (.goto 4, 3) := by decide +kernel
theorem dX4_in_14 : decode cX4_in 14 = .ok (.iconst 0, 1) := by decide +kernel
theorem dX4_in_15 : decode cX4_in 15 = .ok (.ireturn, 1) := by decide +kernel
set_option maxRecDepth 20000 in
theorem ggX4_isTray_X4_in : GoodIn wsX4_isTray wsX4_in := goodIn_r _ [4] (by decide +kernel) (by decide +kernel)
set_option maxRecDepth 20000 in
theorem gX4_isTray_X4_in : GoodIn wsX4_isTray (va_wsS RX4 49 yX4_in wsX4_in) := goodIn_app (goodIn_of _ (by decide +kernel)) ggX4_isTray_X4_in
theorem dX4_isTray_0 : decode cX4_isTray 0 = .ok (.iload_n 0, 1) := by decide +kernel
theorem dX4_isTray_1 : decode cX4_isTray 1 = .ok (.iconst 0, 1) := by decide +kernel
theorem dX4_isTray_2 : decode cX4_isTray 2 = .ok (.bipush 11, 2) := by decide +kernel
theorem dX4_isTray_4 : decode cX4_isTray 4 = .ok (.invokestatic 49, 3) := by decide +kernel
theorem dX4_isTray_7 : decode cX4_isTray 7 = .ok (.ireturn, 1) := by decide +kernel
set_option maxRecDepth 20000 in
theorem ggX4_isNumbers_X4_in : GoodIn wsX4_isNumbers wsX4_in := goodIn_r _ [4] (by decide +kernel) (by decide +kernel)
set_option maxRecDepth 20000 in
theorem gX4_isNumbers_X4_in : GoodIn wsX4_isNumbers (va_wsS RX4 49 yX4_in wsX4_in) := goodIn_app (goodIn_of _ (by decide +kernel)) ggX4_isNumbers_X4_in
theorem dX4_isNumbers_0 : decode cX4_isNumbers 0 = .ok (.iload_n 0, 1) := by decide +kernel
theorem dX4_isNumbers_1 : decode cX4_isNumbers 1 = .ok (.iconst 2, 1) := by decide +kernel
theorem dX4_isNumbers_2 : decode cX4_isNumbers 2 = .ok (.bipush 9, 2) := by decide +kernel
theorem dX4_isNumbers_4 : decode cX4_isNumbers 4 = .ok (.invokestatic 49, 3) := by decide +kernel
theorem dX4_isNumbers_7 : decode cX4_isNumbers 7 = .ok (.ireturn, 1) := by decide +kernel
theorem dX4_isRow_0 : decode cX4_isRow 0 = .ok (.aload_n 0, 1) := by decide +kernel
theorem dX4_isRow_1 : decode cX4_isRow 1 = .ok (.getfield 7, 3) := by decide +kernel
theorem dX4_isRow_4 : decode cX4_isRow 4 = .ok (.iload_n 1, 1) := by decide +kernel
theorem dX4_isRow_5 : decode cX4_isRow 5 = .ok (.iaload, 1) := by decide +kernel
theorem dX4_isRow_6 : decode cX4_isRow 6 = .ok (.iconst 1, 1) := by decide +kernel
theorem dX4_isRow_7 : decode cX4_isRow 7 = .ok (.if_icmp .le 7, 3) := by decide +kernel
theorem dX4_isRow_10 : decode cX4_isRow 10 = .ok (.iconst 1, 1) := by decide +kernel
theorem dX4_isRow_11 : decode cX4_isRow 11 = .ok (.goto 4, 3) := by decide +kernel
theorem dX4_isRow_14 : decode cX4_isRow 14 = .ok (.iconst 0, 1) := by decide +kernel
theorem dX4_isRow_15 : decode cX4_isRow 15 = .ok (.ireturn, 1) := by decide +kernel
theorem dX4_lacks_0 : decode cX4_lacks 0 = .ok (.aload_n 0, 1) := by decide +kernel
theorem dX4_lacks_1 : decode cX4_lacks 1 = .ok (.getfield 7, 3) := by decide +kernel
theorem dX4_lacks_4 : decode cX4_lacks 4 = .ok (.iload_n 1, 1) := by decide +kernel
theorem dX4_lacks_5 : decode cX4_lacks 5 = .ok (.iaload, 1) := by decide +kernel
theorem dX4_lacks_6 : decode cX4_lacks 6 = .ok (.ifCond .ne 7, 3) := by decide +kernel
theorem dX4_lacks_9 : decode cX4_lacks 9 = .ok (.iconst (-1), 1) := by decide +kernel
theorem dX4_lacks_10 : decode cX4_lacks 10 = .ok (.goto 19, 3) := by decide +kernel
theorem dX4_lacks_13 : decode cX4_lacks 13 = .ok (.aload_n 0, 1) := by decide +kernel
theorem dX4_lacks_14 : decode cX4_lacks 14 = .ok (.getfield 7, 3) := by decide +kernel
theorem dX4_lacks_17 : decode cX4_lacks 17 = .ok (.iload_n 1, 1) := by decide +kernel
theorem dX4_lacks_18 : decode cX4_lacks 18 = .ok (.iaload, 1) := by decide +kernel
theorem dX4_lacks_19 : decode cX4_lacks 19 = .ok (.iconst 1, 1) := by decide +kernel
theorem dX4_lacks_20 : decode cX4_lacks 20 = .ok (.if_icmp .ne 8, 3) := by decide +kernel
theorem dX4_lacks_23 : decode cX4_lacks 23 = .ok (.bipush (-2), 2) := by decide +kernel
theorem dX4_lacks_25 : decode cX4_lacks 25 = .ok (.goto 4, 3) := by decide +kernel
theorem dX4_lacks_28 : decode cX4_lacks 28 = .ok (.iconst 0, 1) := by decide +kernel
theorem dX4_lacks_29 : decode cX4_lacks 29 = .ok (.ireturn, 1) := by decide +kernel
set_option maxRecDepth 20000 in
theorem ggX4_sizeOf_X4_isRow : GoodIn wsX4_sizeOf wsX4_isRow := goodIn_r _ [7, 8, 9, 10, 11, 12, 13, 14, 15, 16, 17, 18, 19, 20, 21, 22, 23, 24] (by decide +kernel) (by decide +kernel)
set_option maxRecDepth 20000 in
theorem gX4_sizeOf_X4_isRow : GoodIn wsX4_sizeOf (wsV RX4 53 RX4 yX4_isRow wsX4_isRow) := goodIn_app (goodIn_of _ (by decide +kernel)) ggX4_sizeOf_X4_isRow
theorem dX4_sizeOf_0 : decode cX4_sizeOf 0 = .ok (.aload_n 0, 1) := by decide +kernel
theorem dX4_sizeOf_1 : decode cX4_sizeOf 1 = .ok (.iload_n 1, 1) := by decide +kernel
theorem dX4_sizeOf_2 : decode cX4_sizeOf 2 = .ok (.invokevirtual 53, 3) := by decide +kernel
theorem dX4_sizeOf_5 : decode cX4_sizeOf 5 = .ok (.ifCond .eq 17, 3) := by decide +kernel
theorem dX4_sizeOf_8 : decode cX4_sizeOf 8 = .ok (.aload_n 0, 1) := by decide +kernel
theorem dX4_sizeOf_9 : decode cX4_sizeOf 9 = .ok (.getfield 22, 3) := by decide +kernel
theorem dX4_sizeOf_12 : decode cX4_sizeOf 12 = .ok (.aload_n 0, 1) := by decide +kernel
theorem dX4_sizeOf_13 : decode cX4_sizeOf 13 = .ok (.getfield 13, 3) := by decide +kernel
theorem dX4_sizeOf_16 : decode cX4_sizeOf 16 = .ok (.iload_n 1, 1) := by decide +kernel
theorem dX4_sizeOf_17 : decode cX4_sizeOf 17 = .ok (.iaload, 1) := by decide +kernel
theorem dX4_sizeOf_18 : decode cX4_sizeOf 18 = .ok (.iaload, 1) := by decide +kernel
theorem dX4_sizeOf_19 : decode cX4_sizeOf 19 = .ok (.goto 4, 3) := by decide +kernel
theorem dX4_sizeOf_22 : decode cX4_sizeOf 22 = .ok (.iconst 0, 1) := by decide +kernel
theorem dX4_sizeOf_23 : decode cX4_sizeOf 23 = .ok (.ireturn, 1) := by decide +kernel
theorem dX4_get_0 : decode cX4_get 0 = .ok (.aload_n 0, 1) := by decide +kernel
theorem dX4_get_1 : decode cX4_get 1 = .ok (.getfield 26, 3) := by decide +kernel
theorem dX4_get_4 : decode cX4_get 4 = .ok (.aload_n 0, 1) := by decide +kernel
theorem dX4_get_5 : decode cX4_get 5 = .ok (.getfield 19, 3) := by decide +kernel
theorem dX4_get_8 : decode cX4_get 8 = .ok (.aload_n 0, 1) := by decide +kernel
theorem dX4_get_9 : decode cX4_get 9 = .ok (.getfield 13, 3) := by decide +kernel
theorem dX4_get_12 : decode cX4_get 12 = .ok (.iload_n 1, 1) := by decide +kernel
theorem dX4_get_13 : decode cX4_get 13 = .ok (.iaload, 1) := by decide +kernel
theorem dX4_get_14 : decode cX4_get 14 = .ok (.iaload, 1) := by decide +kernel
theorem dX4_get_15 : decode cX4_get 15 = .ok (.iload_n 2, 1) := by decide +kernel
theorem dX4_get_16 : decode cX4_get 16 = .ok (.iadd, 1) := by decide +kernel
theorem dX4_get_17 : decode cX4_get 17 = .ok (.laload, 1) := by decide +kernel
theorem dX4_get_18 : decode cX4_get 18 = .ok (.lreturn, 1) := by decide +kernel
theorem dX4_set_0 : decode cX4_set 0 = .ok (.aload_n 0, 1) := by decide +kernel
theorem dX4_set_1 : decode cX4_set 1 = .ok (.getfield 26, 3) := by decide +kernel
theorem dX4_set_4 : decode cX4_set 4 = .ok (.aload_n 0, 1) := by decide +kernel
theorem dX4_set_5 : decode cX4_set 5 = .ok (.getfield 19, 3) := by decide +kernel
theorem dX4_set_8 : decode cX4_set 8 = .ok (.aload_n 0, 1) := by decide +kernel
theorem dX4_set_9 : decode cX4_set 9 = .ok (.getfield 13, 3) := by decide +kernel
theorem dX4_set_12 : decode cX4_set 12 = .ok (.iload_n 1, 1) := by decide +kernel
theorem dX4_set_13 : decode cX4_set 13 = .ok (.iaload, 1) := by decide +kernel
theorem dX4_set_14 : decode cX4_set 14 = .ok (.iaload, 1) := by decide +kernel
theorem dX4_set_15 : decode cX4_set 15 = .ok (.iload_n 2, 1) := by decide +kernel
theorem dX4_set_16 : decode cX4_set 16 = .ok (.iadd, 1) := by decide +kernel
theorem dX4_set_17 : decode cX4_set 17 = .ok (.lload_n 3, 1) := by decide +kernel
theorem dX4_set_18 : decode cX4_set 18 = .ok (.lastore, 1) := by decide +kernel
theorem dX4_set_19 : decode cX4_set 19 = .ok (.return_, 1) := by decide +kernel
set_option maxRecDepth 20000 in
theorem ggX4_goes_X4_isNumbers : GoodIn wsX4_goes wsX4_isNumbers := goodIn_r _ [5, 6, 7, 4, 8] (by decide +kernel) (by decide +kernel)
set_option maxRecDepth 20000 in
theorem gX4_goes_X4_isNumbers : GoodIn wsX4_goes (va_wsS RX4 57 yX4_isNumbers wsX4_isNumbers) := goodIn_app (goodIn_of _ (by decide +kernel)) ggX4_goes_X4_isNumbers
theorem dX4_goes_0 : decode cX4_goes 0 = .ok (.iload_n 1, 1) := by decide +kernel
theorem dX4_goes_1 : decode cX4_goes 1 = .ok (.invokestatic 57, 3) := by decide +kernel
theorem dX4_goes_4 : decode cX4_goes 4 = .ok (.ifCond .ne 9, 3) := by decide +kernel
theorem dX4_goes_7 : decode cX4_goes 7 = .ok (.lload_n 2, 1) := by decide +kernel
theorem dX4_goes_8 : decode cX4_goes 8 = .ok (.lconst 0, 1) := by decide +kernel
theorem dX4_goes_9 : decode cX4_goes 9 = .ok (.lcmp, 1) := by decide +kernel
theorem dX4_goes_10 : decode cX4_goes 10 = .ok (.ifCond .ne 5, 3) := by decide +kernel
theorem dX4_goes_13 : decode cX4_goes 13 = .ok (.iconst 1, 1) := by decide +kernel
theorem dX4_goes_14 : decode cX4_goes 14 = .ok (.ireturn, 1) := by decide +kernel
theorem dX4_goes_15 : decode cX4_goes 15 = .ok (.iload_n 1, 1) := by decide +kernel
theorem dX4_goes_16 : decode cX4_goes 16 = .ok (.bipush 13, 2) := by decide +kernel
theorem dX4_goes_18 : decode cX4_goes 18 = .ok (.if_icmp .eq 9, 3) := by decide +kernel
theorem dX4_goes_21 : decode cX4_goes 21 = .ok (.lload_n 2, 1) := by decide +kernel
theorem dX4_goes_22 : decode cX4_goes 22 = .ok (.lconst 0, 1) := by decide +kernel
theorem dX4_goes_23 : decode cX4_goes 23 = .ok (.lcmp, 1) := by decide +kernel
theorem dX4_goes_24 : decode cX4_goes 24 = .ok (.ifCond .ge 21, 3) := by decide +kernel
theorem dX4_goes_27 : decode cX4_goes 27 = .ok (.iload_n 1, 1) := by decide +kernel
theorem dX4_goes_28 : decode cX4_goes 28 = .ok (.bipush 13, 2) := by decide +kernel
theorem dX4_goes_30 : decode cX4_goes 30 = .ok (.if_icmp .ne 13, 3) := by decide +kernel
theorem dX4_goes_33 : decode cX4_goes 33 = .ok (.lload_n 2, 1) := by decide +kernel
theorem dX4_goes_34 : decode cX4_goes 34 = .ok (.lconst 0, 1) := by decide +kernel
theorem dX4_goes_35 : decode cX4_goes 35 = .ok (.lcmp, 1) := by decide +kernel
theorem dX4_goes_36 : decode cX4_goes 36 = .ok (.ifCond .ge 7, 3) := by decide +kernel
theorem dX4_goes_39 : decode cX4_goes 39 = .ok (.iconst 1, 1) := by decide +kernel
theorem dX4_goes_40 : decode cX4_goes 40 = .ok (.goto 4, 3) := by decide +kernel
theorem dX4_goes_43 : decode cX4_goes 43 = .ok (.iconst 0, 1) := by decide +kernel
theorem dX4_goes_44 : decode cX4_goes 44 = .ok (.ireturn, 1) := by decide +kernel
theorem dX4_goes_45 : decode cX4_goes 45 = .ok (.aload_n 0, 1) := by decide +kernel
theorem dX4_goes_46 : decode cX4_goes 46 = .ok (.getfield 30, 3) := by decide +kernel
theorem dX4_goes_49 : decode cX4_goes 49 = .ok (.lload_n 2, 1) := by decide +kernel
theorem dX4_goes_50 : decode cX4_goes 50 = .ok (.l2i, 1) := by decide +kernel
theorem dX4_goes_51 : decode cX4_goes 51 = .ok (.iaload, 1) := by decide +kernel
theorem dX4_goes_52 : decode cX4_goes 52 = .ok (.istore 4, 2) := by decide +kernel
theorem dX4_goes_54 : decode cX4_goes 54 = .ok (.iload_n 1, 1) := by decide +kernel
theorem dX4_goes_55 : decode cX4_goes 55 = .ok (.bipush 10, 2) := by decide +kernel
theorem dX4_goes_57 : decode cX4_goes 57 = .ok (.if_icmp .eq 27, 3) := by decide +kernel
theorem dX4_goes_60 : decode cX4_goes 60 = .ok (.iload_n 1, 1) := by decide +kernel
theorem dX4_goes_61 : decode cX4_goes 61 = .ok (.bipush 11, 2) := by decide +kernel
theorem dX4_goes_63 : decode cX4_goes 63 = .ok (.if_icmp .ne 9, 3) := by decide +kernel
theorem dX4_goes_66 : decode cX4_goes 66 = .ok (.iload 4, 2) := by decide +kernel
theorem dX4_goes_68 : decode cX4_goes 68 = .ok (.iconst 2, 1) := by decide +kernel
theorem dX4_goes_69 : decode cX4_goes 69 = .ok (.if_icmp .eq 15, 3) := by decide +kernel
theorem dX4_goes_72 : decode cX4_goes 72 = .ok (.iload_n 1, 1) := by decide +kernel
theorem dX4_goes_73 : decode cX4_goes 73 = .ok (.bipush 12, 2) := by decide +kernel
theorem dX4_goes_75 : decode cX4_goes 75 = .ok (.if_icmp .ne 13, 3) := by decide +kernel
theorem dX4_goes_78 : decode cX4_goes 78 = .ok (.iload 4, 2) := by decide +kernel
theorem dX4_goes_80 : decode cX4_goes 80 = .ok (.iconst 3, 1) := by decide +kernel
theorem dX4_goes_81 : decode cX4_goes 81 = .ok (.if_icmp .lt 7, 3) := by decide +kernel
theorem dX4_goes_84 : decode cX4_goes 84 = .ok (.iconst 1, 1) := by decide +kernel
theorem dX4_goes_85 : decode cX4_goes 85 = .ok (.goto 4, 3) := by decide +kernel
theorem dX4_goes_88 : decode cX4_goes 88 = .ok (.iconst 0, 1) := by decide +kernel
theorem dX4_goes_89 : decode cX4_goes 89 = .ok (.ireturn, 1) := by decide +kernel
set_option maxRecDepth 20000 in
theorem ggX4_lay_X4_isTray : GoodIn wsX4_lay wsX4_isTray := goodIn_r _ [11, 12, 13, 10, 14] (by decide +kernel) (by decide +kernel)
set_option maxRecDepth 20000 in
theorem gX4_lay_X4_isTray : GoodIn wsX4_lay (va_wsS RX4 60 yX4_isTray wsX4_isTray) := goodIn_app (goodIn_of _ (by decide +kernel)) ggX4_lay_X4_isTray
set_option maxRecDepth 20000 in
theorem ggX4_lay_X4_in : GoodIn wsX4_lay wsX4_in := goodIn_r _ [14] (by decide +kernel) (by decide +kernel)
set_option maxRecDepth 20000 in
theorem gX4_lay_X4_in : GoodIn wsX4_lay (va_wsS RX4 49 yX4_in wsX4_in) := goodIn_app (goodIn_of _ (by decide +kernel)) ggX4_lay_X4_in
theorem dX4_lay_0 : decode cX4_lay 0 = .ok (.iload_n 1, 1) := by decide +kernel
theorem dX4_lay_1 : decode cX4_lay 1 = .ok (.invokestatic 60, 3) := by decide +kernel
theorem dX4_lay_4 : decode cX4_lay 4 = .ok (.ifCond .eq 23, 3) := by decide +kernel
theorem dX4_lay_7 : decode cX4_lay 7 = .ok (.iload_n 2, 1) := by decide +kernel
theorem dX4_lay_8 : decode cX4_lay 8 = .ok (.iconst 2, 1) := by decide +kernel
theorem dX4_lay_9 : decode cX4_lay 9 = .ok (.bipush 13, 2) := by decide +kernel
theorem dX4_lay_11 : decode cX4_lay 11 = .ok (.invokestatic 49, 3) := by decide +kernel
theorem dX4_lay_14 : decode cX4_lay 14 = .ok (.ifCond .eq 13, 3) := by decide +kernel
theorem dX4_lay_17 : decode cX4_lay 17 = .ok (.iload_n 3, 1) := by decide +kernel
theorem dX4_lay_18 : decode cX4_lay 18 = .ok (.iconst 0, 1) := by decide +kernel
theorem dX4_lay_19 : decode cX4_lay 19 = .ok (.bipush 64, 2) := by decide +kernel
theorem dX4_lay_21 : decode cX4_lay 21 = .ok (.invokestatic 49, 3) := by decide +kernel
theorem dX4_lay_24 : decode cX4_lay 24 = .ok (.ifCond .ne 6, 3) := by decide +kernel
theorem dX4_lay_27 : decode cX4_lay 27 = .ok (.bipush (-6), 2) := by decide +kernel
theorem dX4_lay_29 : decode cX4_lay 29 = .ok (.ireturn, 1) := by decide +kernel
theorem dX4_lay_30 : decode cX4_lay 30 = .ok (.aload_n 0, 1) := by decide +kernel
theorem dX4_lay_31 : decode cX4_lay 31 = .ok (.getfield 16, 3) := by decide +kernel
theorem dX4_lay_34 : decode cX4_lay 34 = .ok (.aload_n 0, 1) := by decide +kernel
theorem dX4_lay_35 : decode cX4_lay 35 = .ok (.getfield 63, 3) := by decide +kernel
theorem dX4_lay_38 : decode cX4_lay 38 = .ok (.iload_n 2, 1) := by decide +kernel
theorem dX4_lay_39 : decode cX4_lay 39 = .ok (.iastore, 1) := by decide +kernel
theorem dX4_lay_40 : decode cX4_lay 40 = .ok (.aload_n 0, 1) := by decide +kernel
theorem dX4_lay_41 : decode cX4_lay 41 = .ok (.getfield 19, 3) := by decide +kernel
theorem dX4_lay_44 : decode cX4_lay 44 = .ok (.aload_n 0, 1) := by decide +kernel
theorem dX4_lay_45 : decode cX4_lay 45 = .ok (.getfield 63, 3) := by decide +kernel
theorem dX4_lay_48 : decode cX4_lay 48 = .ok (.aload_n 0, 1) := by decide +kernel
theorem dX4_lay_49 : decode cX4_lay 49 = .ok (.getfield 66, 3) := by decide +kernel
theorem dX4_lay_52 : decode cX4_lay 52 = .ok (.iastore, 1) := by decide +kernel
theorem dX4_lay_53 : decode cX4_lay 53 = .ok (.aload_n 0, 1) := by decide +kernel
theorem dX4_lay_54 : decode cX4_lay 54 = .ok (.getfield 22, 3) := by decide +kernel
theorem dX4_lay_57 : decode cX4_lay 57 = .ok (.aload_n 0, 1) := by decide +kernel
theorem dX4_lay_58 : decode cX4_lay 58 = .ok (.getfield 63, 3) := by decide +kernel
theorem dX4_lay_61 : decode cX4_lay 61 = .ok (.iload_n 3, 1) := by decide +kernel
theorem dX4_lay_62 : decode cX4_lay 62 = .ok (.iastore, 1) := by decide +kernel
theorem dX4_lay_63 : decode cX4_lay 63 = .ok (.aload_n 0, 1) := by decide +kernel
theorem dX4_lay_64 : decode cX4_lay 64 = .ok (.getfield 7, 3) := by decide +kernel
theorem dX4_lay_67 : decode cX4_lay 67 = .ok (.iload_n 1, 1) := by decide +kernel
theorem dX4_lay_68 : decode cX4_lay 68 = .ok (.iload_n 2, 1) := by decide +kernel
theorem dX4_lay_69 : decode cX4_lay 69 = .ok (.iastore, 1) := by decide +kernel
theorem dX4_lay_70 : decode cX4_lay 70 = .ok (.aload_n 0, 1) := by decide +kernel
theorem dX4_lay_71 : decode cX4_lay 71 = .ok (.getfield 13, 3) := by decide +kernel
theorem dX4_lay_74 : decode cX4_lay 74 = .ok (.iload_n 1, 1) := by decide +kernel
theorem dX4_lay_75 : decode cX4_lay 75 = .ok (.aload_n 0, 1) := by decide +kernel
theorem dX4_lay_76 : decode cX4_lay 76 = .ok (.getfield 63, 3) := by decide +kernel
theorem dX4_lay_79 : decode cX4_lay 79 = .ok (.iastore, 1) := by decide +kernel
theorem dX4_lay_80 : decode cX4_lay 80 = .ok (.aload_n 0, 1) := by decide +kernel
theorem dX4_lay_81 : decode cX4_lay 81 = .ok (.dup, 1) := by decide +kernel
theorem dX4_lay_82 : decode cX4_lay 82 = .ok (.getfield 63, 3) := by decide +kernel
theorem dX4_lay_85 : decode cX4_lay 85 = .ok (.iconst 1, 1) := by decide +kernel
theorem dX4_lay_86 : decode cX4_lay 86 = .ok (.iadd, 1) := by decide +kernel
theorem dX4_lay_87 : decode cX4_lay 87 = .ok (.putfield 63, 3) := by decide +kernel
theorem dX4_lay_90 : decode cX4_lay 90 = .ok (.aload_n 0, 1) := by decide +kernel
theorem dX4_lay_91 : decode cX4_lay 91 = .ok (.dup, 1) := by decide +kernel
theorem dX4_lay_92 : decode cX4_lay 92 = .ok (.getfield 66, 3) := by decide +kernel
theorem dX4_lay_95 : decode cX4_lay 95 = .ok (.iload_n 3, 1) := by decide +kernel
theorem dX4_lay_96 : decode cX4_lay 96 = .ok (.iadd, 1) := by decide +kernel
theorem dX4_lay_97 : decode cX4_lay 97 = .ok (.putfield 66, 3) := by decide +kernel
theorem dX4_lay_100 : decode cX4_lay 100 = .ok (.iload_n 3, 1) := by decide +kernel
theorem dX4_lay_101 : decode cX4_lay 101 = .ok (.ireturn, 1) := by decide +kernel
set_option maxRecDepth 20000 in
theorem ggX4_ticket_X4_isTray : GoodIn wsX4_ticket wsX4_isTray := goodIn_r _ [6, 7, 8, 5, 9] (by decide +kernel) (by decide +kernel)
set_option maxRecDepth 20000 in
theorem gX4_ticket_X4_isTray : GoodIn wsX4_ticket (va_wsS RX4 60 yX4_isTray wsX4_isTray) := goodIn_app (goodIn_of _ (by decide +kernel)) ggX4_ticket_X4_isTray
set_option maxRecDepth 20000 in
theorem ggX4_ticket_X4_in : GoodIn wsX4_ticket wsX4_in := goodIn_r _ [9] (by decide +kernel) (by decide +kernel)
set_option maxRecDepth 20000 in
theorem gX4_ticket_X4_in : GoodIn wsX4_ticket (va_wsS RX4 49 yX4_in wsX4_in) := goodIn_app (goodIn_of _ (by decide +kernel)) ggX4_ticket_X4_in
theorem dX4_ticket_0 : decode cX4_ticket 0 = .ok (.iload_n 1, 1) := by decide +kernel
theorem dX4_ticket_1 : decode cX4_ticket 1 = .ok (.invokestatic 60, 3) := by decide +kernel
theorem dX4_ticket_4 : decode cX4_ticket 4 = .ok (.ifCond .eq 12, 3) := by decide +kernel
theorem dX4_ticket_7 : decode cX4_ticket 7 = .ok (.iload_n 2, 1) := by decide +kernel
theorem dX4_ticket_8 : decode cX4_ticket 8 = .ok (.iconst 0, 1) := by decide +kernel
theorem dX4_ticket_9 : decode cX4_ticket 9 = .ok (.iconst 1, 1) := by decide +kernel
theorem dX4_ticket_10 : decode cX4_ticket 10 = .ok (.invokestatic 49, 3) := by decide +kernel
theorem dX4_ticket_13 : decode cX4_ticket 13 = .ok (.ifCond .ne 5, 3) := by decide +kernel
theorem dX4_ticket_16 : decode cX4_ticket 16 = .ok (.iconst 0, 1) := by decide +kernel
theorem dX4_ticket_17 : decode cX4_ticket 17 = .ok (.ireturn, 1) := by decide +kernel
theorem dX4_ticket_18 : decode cX4_ticket 18 = .ok (.aload_n 0, 1) := by decide +kernel
theorem dX4_ticket_19 : decode cX4_ticket 19 = .ok (.getfield 7, 3) := by decide +kernel
theorem dX4_ticket_22 : decode cX4_ticket 22 = .ok (.iload_n 1, 1) := by decide +kernel
theorem dX4_ticket_23 : decode cX4_ticket 23 = .ok (.iload_n 2, 1) := by decide +kernel
theorem dX4_ticket_24 : decode cX4_ticket 24 = .ok (.iastore, 1) := by decide +kernel
theorem dX4_ticket_25 : decode cX4_ticket 25 = .ok (.aload_n 0, 1) := by decide +kernel
theorem dX4_ticket_26 : decode cX4_ticket 26 = .ok (.getfield 13, 3) := by decide +kernel
theorem dX4_ticket_29 : decode cX4_ticket 29 = .ok (.iload_n 1, 1) := by decide +kernel
theorem dX4_ticket_30 : decode cX4_ticket 30 = .ok (.iload_n 2, 1) := by decide +kernel
theorem dX4_ticket_31 : decode cX4_ticket 31 = .ok (.iconst 1, 1) := by decide +kernel
theorem dX4_ticket_32 : decode cX4_ticket 32 = .ok (.if_icmp .ne 7, 3) := by decide +kernel
theorem dX4_ticket_35 : decode cX4_ticket 35 = .ok (.iload_n 3, 1) := by decide +kernel
theorem dX4_ticket_36 : decode cX4_ticket 36 = .ok (.goto 4, 3) := by decide +kernel
theorem dX4_ticket_39 : decode cX4_ticket 39 = .ok (.iconst 0, 1) := by decide +kernel
theorem dX4_ticket_40 : decode cX4_ticket 40 = .ok (.iastore, 1) := by decide +kernel
theorem dX4_ticket_41 : decode cX4_ticket 41 = .ok (.iconst 1, 1) := by decide +kernel
theorem dX4_ticket_42 : decode cX4_ticket 42 = .ok (.ireturn, 1) := by decide +kernel
set_option maxRecDepth 20000 in
theorem ggX4_share_X4_isTray : GoodIn wsX4_share wsX4_isTray := goodIn_r _ [6, 7, 8, 5, 9] (by decide +kernel) (by decide +kernel)
set_option maxRecDepth 20000 in
theorem gX4_share_X4_isTray : GoodIn wsX4_share (va_wsS RX4 60 yX4_isTray wsX4_isTray) := goodIn_app (goodIn_of _ (by decide +kernel)) ggX4_share_X4_isTray
theorem dX4_share_0 : decode cX4_share 0 = .ok (.iload_n 1, 1) := by decide +kernel
theorem dX4_share_1 : decode cX4_share 1 = .ok (.invokestatic 60, 3) := by decide +kernel
theorem dX4_share_4 : decode cX4_share 4 = .ok (.ifCond .eq 10, 3) := by decide +kernel
theorem dX4_share_7 : decode cX4_share 7 = .ok (.iload_n 2, 1) := by decide +kernel
theorem dX4_share_8 : decode cX4_share 8 = .ok (.invokestatic 60, 3) := by decide +kernel
theorem dX4_share_11 : decode cX4_share 11 = .ok (.ifCond .ne 6, 3) := by decide +kernel
theorem dX4_share_14 : decode cX4_share 14 = .ok (.bipush (-6), 2) := by decide +kernel
theorem dX4_share_16 : decode cX4_share 16 = .ok (.ireturn, 1) := by decide +kernel
theorem dX4_share_17 : decode cX4_share 17 = .ok (.aload_n 0, 1) := by decide +kernel
theorem dX4_share_18 : decode cX4_share 18 = .ok (.getfield 7, 3) := by decide +kernel
theorem dX4_share_21 : decode cX4_share 21 = .ok (.iload_n 2, 1) := by decide +kernel
theorem dX4_share_22 : decode cX4_share 22 = .ok (.aload_n 0, 1) := by decide +kernel
theorem dX4_share_23 : decode cX4_share 23 = .ok (.getfield 7, 3) := by decide +kernel
theorem dX4_share_26 : decode cX4_share 26 = .ok (.iload_n 1, 1) := by decide +kernel
theorem dX4_share_27 : decode cX4_share 27 = .ok (.iaload, 1) := by decide +kernel
theorem dX4_share_28 : decode cX4_share 28 = .ok (.iastore, 1) := by decide +kernel
theorem dX4_share_29 : decode cX4_share 29 = .ok (.aload_n 0, 1) := by decide +kernel
theorem dX4_share_30 : decode cX4_share 30 = .ok (.getfield 13, 3) := by decide +kernel
theorem dX4_share_33 : decode cX4_share 33 = .ok (.iload_n 2, 1) := by decide +kernel
theorem dX4_share_34 : decode cX4_share 34 = .ok (.aload_n 0, 1) := by decide +kernel
theorem dX4_share_35 : decode cX4_share 35 = .ok (.getfield 13, 3) := by decide +kernel
theorem dX4_share_38 : decode cX4_share 38 = .ok (.iload_n 1, 1) := by decide +kernel
theorem dX4_share_39 : decode cX4_share 39 = .ok (.iaload, 1) := by decide +kernel
theorem dX4_share_40 : decode cX4_share 40 = .ok (.iastore, 1) := by decide +kernel
theorem dX4_share_41 : decode cX4_share 41 = .ok (.aload_n 0, 1) := by decide +kernel
theorem dX4_share_42 : decode cX4_share 42 = .ok (.getfield 7, 3) := by decide +kernel
theorem dX4_share_45 : decode cX4_share 45 = .ok (.iload_n 2, 1) := by decide +kernel
theorem dX4_share_46 : decode cX4_share 46 = .ok (.iaload, 1) := by decide +kernel
theorem dX4_share_47 : decode cX4_share 47 = .ok (.ireturn, 1) := by decide +kernel
theorem dX4_narrowed_0 : decode cX4_narrowed 0 = .ok (.iload_n 0, 1) := by decide +kernel
theorem dX4_narrowed_1 : decode cX4_narrowed 1 = .ok (.tableswitch 120 2 8 #[43, 53, 83, 89, 120, 120, 116], 43) := by decide +kernel
theorem dX4_narrowed_44 : decode cX4_narrowed 44 = .ok (.iload_n 1, 1) := by decide +kernel
theorem dX4_narrowed_45 : decode cX4_narrowed 45 = .ok (.ifCond .ne 7, 3) := by decide +kernel
theorem dX4_narrowed_48 : decode cX4_narrowed 48 = .ok (.lconst 0, 1) := by decide +kernel
theorem dX4_narrowed_49 : decode cX4_narrowed 49 = .ok (.goto 4, 3) := by decide +kernel
theorem dX4_narrowed_52 : decode cX4_narrowed 52 = .ok (.lconst 1, 1) := by decide +kernel
theorem dX4_narrowed_53 : decode cX4_narrowed 53 = .ok (.lreturn, 1) := by decide +kernel
theorem dX4_narrowed_54 : decode cX4_narrowed 54 = .ok (.iload_n 1, 1) := by decide +kernel
theorem dX4_narrowed_55 : decode cX4_narrowed 55 = .ok (.sipush 255, 3) := by decide +kernel
theorem dX4_narrowed_58 : decode cX4_narrowed 58 = .ok (.iand, 1) := by decide +kernel
theorem dX4_narrowed_59 : decode cX4_narrowed 59 = .ok (.bipush 127, 2) := by decide +kernel
theorem dX4_narrowed_61 : decode cX4_narrowed 61 = .ok (.if_icmp .le 16, 3) := by decide +kernel
theorem dX4_narrowed_64 : decode cX4_narrowed 64 = .ok (.iload_n 1, 1) := by decide +kernel
theorem dX4_narrowed_65 : decode cX4_narrowed 65 = .ok (.sipush 255, 3) := by decide +kernel
theorem dX4_narrowed_68 : decode cX4_narrowed 68 = .ok (.iand, 1) := by decide +kernel
theorem dX4_narrowed_69 : decode cX4_narrowed 69 = .ok (.sipush 256, 3) := by decide +kernel
theorem dX4_narrowed_72 : decode cX4_narrowed 72 = .ok (.isub, 1) := by decide +kernel
theorem dX4_narrowed_73 : decode cX4_narrowed 73 = .ok (.i2l, 1) := by decide +kernel
theorem dX4_narrowed_74 : decode cX4_narrowed 74 = .ok (.goto 9, 3) := by decide +kernel
theorem dX4_narrowed_77 : decode cX4_narrowed 77 = .ok (.iload_n 1, 1) := by decide +kernel
theorem dX4_narrowed_78 : decode cX4_narrowed 78 = .ok (.sipush 255, 3) := by decide +kernel
theorem dX4_narrowed_81 : decode cX4_narrowed 81 = .ok (.iand, 1) := by decide +kernel
theorem dX4_narrowed_82 : decode cX4_narrowed 82 = .ok (.i2l, 1) := by decide +kernel
theorem dX4_narrowed_83 : decode cX4_narrowed 83 = .ok (.lreturn, 1) := by decide +kernel
theorem dX4_narrowed_84 : decode cX4_narrowed 84 = .ok (.iload_n 1, 1) := by decide +kernel
theorem dX4_narrowed_85 : decode cX4_narrowed 85 = .ok (.ldc 69, 2) := by decide +kernel
theorem dX4_narrowed_87 : decode cX4_narrowed 87 = .ok (.iand, 1) := by decide +kernel
theorem dX4_narrowed_88 : decode cX4_narrowed 88 = .ok (.i2l, 1) := by decide +kernel
theorem dX4_narrowed_89 : decode cX4_narrowed 89 = .ok (.lreturn, 1) := by decide +kernel
theorem dX4_narrowed_90 : decode cX4_narrowed 90 = .ok (.iload_n 1, 1) := by decide +kernel
theorem dX4_narrowed_91 : decode cX4_narrowed 91 = .ok (.ldc 69, 2) := by decide +kernel
theorem dX4_narrowed_93 : decode cX4_narrowed 93 = .ok (.iand, 1) := by decide +kernel
theorem dX4_narrowed_94 : decode cX4_narrowed 94 = .ok (.sipush 32767, 3) := by decide +kernel
theorem dX4_narrowed_97 : decode cX4_narrowed 97 = .ok (.if_icmp .le 14, 3) := by decide +kernel
theorem dX4_narrowed_100 : decode cX4_narrowed 100 = .ok (.iload_n 1, 1) := by decide +kernel
theorem dX4_narrowed_101 : decode cX4_narrowed 101 = .ok (.ldc 69, 2) := by decide +kernel
theorem dX4_narrowed_103 : decode cX4_narrowed 103 = .ok (.iand, 1) := by decide +kernel
theorem dX4_narrowed_104 : decode cX4_narrowed 104 = .ok (.ldc 70, 2) := by decide +kernel
theorem dX4_narrowed_106 : decode cX4_narrowed 106 = .ok (.isub, 1) := by decide +kernel
theorem dX4_narrowed_107 : decode cX4_narrowed 107 = .ok (.i2l, 1) := by decide +kernel
theorem dX4_narrowed_108 : decode cX4_narrowed 108 = .ok (.goto 8, 3) := by decide +kernel
theorem dX4_narrowed_111 : decode cX4_narrowed 111 = .ok (.iload_n 1, 1) := by decide +kernel
theorem dX4_narrowed_112 : decode cX4_narrowed 112 = .ok (.ldc 69, 2) := by decide +kernel
theorem dX4_narrowed_114 : decode cX4_narrowed 114 = .ok (.iand, 1) := by decide +kernel
theorem dX4_narrowed_115 : decode cX4_narrowed 115 = .ok (.i2l, 1) := by decide +kernel
theorem dX4_narrowed_116 : decode cX4_narrowed 116 = .ok (.lreturn, 1) := by decide +kernel
theorem dX4_narrowed_117 : decode cX4_narrowed 117 = .ok (.iload_n 1, 1) := by decide +kernel
theorem dX4_narrowed_118 : decode cX4_narrowed 118 = .ok (.i2f, 1) := by decide +kernel
theorem dX4_narrowed_119 : decode cX4_narrowed 119 = .ok (.f2l, 1) := by decide +kernel
theorem dX4_narrowed_120 : decode cX4_narrowed 120 = .ok (.lreturn, 1) := by decide +kernel
theorem dX4_narrowed_121 : decode cX4_narrowed 121 = .ok (.iload_n 1, 1) := by decide +kernel
theorem dX4_narrowed_122 : decode cX4_narrowed 122 = .ok (.i2l, 1) := by decide +kernel
theorem dX4_narrowed_123 : decode cX4_narrowed 123 = .ok (.lreturn, 1) := by decide +kernel
theorem dX4_made_0 : decode cX4_made 0 = .ok (.iload_n 1, 1) := by decide +kernel
theorem dX4_made_1 : decode cX4_made 1 = .ok (.iconst 5, 1) := by decide +kernel
theorem dX4_made_2 : decode cX4_made 2 = .ok (.irem, 1) := by decide +kernel
theorem dX4_made_3 : decode cX4_made 3 = .ok (.ifCond .ge 11, 3) := by decide +kernel
theorem dX4_made_6 : decode cX4_made 6 = .ok (.iload_n 1, 1) := by decide +kernel
theorem dX4_made_7 : decode cX4_made 7 = .ok (.iconst 5, 1) := by decide +kernel
theorem dX4_made_8 : decode cX4_made 8 = .ok (.irem, 1) := by decide +kernel
theorem dX4_made_9 : decode cX4_made 9 = .ok (.iconst 5, 1) := by decide +kernel
theorem dX4_made_10 : decode cX4_made 10 = .ok (.iadd, 1) := by decide +kernel
theorem dX4_made_11 : decode cX4_made 11 = .ok (.goto 6, 3) := by decide +kernel
theorem dX4_made_14 : decode cX4_made 14 = .ok (.iload_n 1, 1) := by decide +kernel
theorem dX4_made_15 : decode cX4_made 15 = .ok (.iconst 5, 1) := by decide +kernel
theorem dX4_made_16 : decode cX4_made 16 = .ok (.irem, 1) := by decide +kernel
theorem dX4_made_17 : decode cX4_made 17 = .ok (.istore_n 2, 1) := by decide +kernel
theorem dX4_made_18 : decode cX4_made 18 = .ok (.iload_n 2, 1) := by decide +kernel
theorem dX4_made_19 : decode cX4_made 19 = .ok (.ifCond .ne 5, 3) := by decide +kernel
theorem dX4_made_22 : decode cX4_made 22 = .ok (.lconst 0, 1) := by decide +kernel
theorem dX4_made_23 : decode cX4_made 23 = .ok (.lreturn, 1) := by decide +kernel
theorem dX4_made_24 : decode cX4_made 24 = .ok (.aload_n 0, 1) := by decide +kernel
theorem dX4_made_25 : decode cX4_made 25 = .ok (.dup, 1) := by decide +kernel
theorem dX4_made_26 : decode cX4_made 26 = .ok (.getfield 71, 3) := by decide +kernel
theorem dX4_made_29 : decode cX4_made 29 = .ok (.iconst 1, 1) := by decide +kernel
theorem dX4_made_30 : decode cX4_made 30 = .ok (.iadd, 1) := by decide +kernel
theorem dX4_made_31 : decode cX4_made 31 = .ok (.putfield 71, 3) := by decide +kernel
theorem dX4_made_34 : decode cX4_made 34 = .ok (.aload_n 0, 1) := by decide +kernel
theorem dX4_made_35 : decode cX4_made 35 = .ok (.getfield 30, 3) := by decide +kernel
theorem dX4_made_38 : decode cX4_made 38 = .ok (.aload_n 0, 1) := by decide +kernel
theorem dX4_made_39 : decode cX4_made 39 = .ok (.getfield 71, 3) := by decide +kernel
theorem dX4_made_42 : decode cX4_made 42 = .ok (.iload_n 2, 1) := by decide +kernel
theorem dX4_made_43 : decode cX4_made 43 = .ok (.iastore, 1) := by decide +kernel
theorem dX4_made_44 : decode cX4_made 44 = .ok (.aload_n 0, 1) := by decide +kernel
theorem dX4_made_45 : decode cX4_made 45 = .ok (.getfield 71, 3) := by decide +kernel
theorem dX4_made_48 : decode cX4_made 48 = .ok (.i2l, 1) := by decide +kernel
theorem dX4_made_49 : decode cX4_made 49 = .ok (.lreturn, 1) := by decide +kernel
set_option maxRecDepth 20000 in
theorem ggX4_put_X4_isTray : GoodIn wsX4_put wsX4_isTray := goodIn_r _ [7, 8, 9, 6, 10] (by decide +kernel) (by decide +kernel)
set_option maxRecDepth 20000 in
theorem gX4_put_X4_isTray : GoodIn wsX4_put (va_wsS RX4 60 yX4_isTray wsX4_isTray) := goodIn_app (goodIn_of _ (by decide +kernel)) ggX4_put_X4_isTray
set_option maxRecDepth 20000 in
theorem ggX4_put_X4_isRow : GoodIn wsX4_put wsX4_isRow := goodIn_r _ [14, 1, 48, 49, 50, 51, 52, 53, 54, 55, 56, 57, 58, 59, 60, 61, 62, 63] (by decide +kernel) (by decide +kernel)
set_option maxRecDepth 20000 in
theorem gX4_put_X4_isRow : GoodIn wsX4_put (wsV RX4 53 RX4 yX4_isRow wsX4_isRow) := goodIn_app (goodIn_of _ (by decide +kernel)) ggX4_put_X4_isRow
set_option maxRecDepth 20000 in
theorem ggX4_put_X4_lacks : GoodIn wsX4_put wsX4_lacks := goodIn_r _ [18, 1, 48, 49, 50, 51, 52, 53, 54, 55, 56, 57, 58, 59, 60, 61, 62, 63] (by decide +kernel) (by decide +kernel)
set_option maxRecDepth 20000 in
theorem gX4_put_X4_lacks : GoodIn wsX4_put (wsV RX4 74 RX4 yX4_lacks wsX4_lacks) := goodIn_app (goodIn_of _ (by decide +kernel)) ggX4_put_X4_lacks
set_option maxRecDepth 20000 in
theorem ggX4_put_X4_isNumbers : GoodIn wsX4_put wsX4_isNumbers := goodIn_r _ [21, 8, 9, 6, 10] (by decide +kernel) (by decide +kernel)
set_option maxRecDepth 20000 in
theorem gX4_put_X4_isNumbers : GoodIn wsX4_put (va_wsS RX4 57 yX4_isNumbers wsX4_isNumbers) := goodIn_app (goodIn_of _ (by decide +kernel)) ggX4_put_X4_isNumbers
set_option maxRecDepth 20000 in
theorem ggX4_put_X4_narrowed : GoodIn wsX4_put wsX4_narrowed := goodIn_r _ [24, 25, 26] (by decide +kernel) (by decide +kernel)
set_option maxRecDepth 20000 in
theorem gX4_put_X4_narrowed : GoodIn wsX4_put (va_wsS RX4 78 yX4_narrowed wsX4_narrowed) := goodIn_app (goodIn_of _ (by decide +kernel)) ggX4_put_X4_narrowed
set_option maxRecDepth 20000 in
theorem ggX4_put_X4_made : GoodIn wsX4_put wsX4_made := goodIn_r _ [30, 31, 32, 48, 49, 50, 51, 52, 53, 54, 55, 56, 57, 58, 59, 60, 61, 62, 63] (by decide +kernel) (by decide +kernel)
set_option maxRecDepth 20000 in
theorem gX4_put_X4_made : GoodIn wsX4_put (wsV RX4 84 RX4 yX4_made wsX4_made) := goodIn_app (goodIn_of _ (by decide +kernel)) ggX4_put_X4_made
set_option maxRecDepth 20000 in
theorem ggX4_put_X4_sizeOf : GoodIn wsX4_put wsX4_sizeOf := goodIn_r _ [36, 37, 3, 11, 12, 13, 6, 14, 1, 48, 49, 50, 51, 52, 53, 54, 55, 56, 57, 58, 59, 60, 61, 62, 63] (by decide +kernel) (by decide +kernel)
set_option maxRecDepth 20000 in
theorem gX4_put_X4_sizeOf : GoodIn wsX4_put (wsV RX4 88 RX4 yX4_sizeOf wsX4_sizeOf) := goodIn_app (goodIn_of _ (by decide +kernel)) ggX4_put_X4_sizeOf
set_option maxRecDepth 20000 in
theorem ggX4_put_X4_in : GoodIn wsX4_put wsX4_in := goodIn_r _ [10] (by decide +kernel) (by decide +kernel)
set_option maxRecDepth 20000 in
theorem gX4_put_X4_in : GoodIn wsX4_put (va_wsS RX4 49 yX4_in wsX4_in) := goodIn_app (goodIn_of _ (by decide +kernel)) ggX4_put_X4_in
set_option maxRecDepth 20000 in
theorem ggX4_put_X4_goes : GoodIn wsX4_put wsX4_goes := goodIn_r _ [41, 32, 19, 20, 6, 21, 8, 9, 10, 48, 49, 50, 51, 52, 53, 54, 55, 56, 57, 58, 59, 60, 61, 62, 63] (by decide +kernel) (by decide +kernel)
set_option maxRecDepth 20000 in
theorem gX4_put_X4_goes : GoodIn wsX4_put (wsV RX4 91 RX4 yX4_goes wsX4_goes) := goodIn_app (goodIn_of _ (by decide +kernel)) ggX4_put_X4_goes
set_option maxRecDepth 20000 in
theorem ggX4_put_X4_set : GoodIn wsX4_put wsX4_set := goodIn_r _ [45, 46, 47, 3, 48, 49, 50, 51, 52, 53, 54, 55, 56, 57, 58, 59, 60, 61, 62, 63] (by decide +kernel) (by decide +kernel)
set_option maxRecDepth 20000 in
theorem gX4_put_X4_set : GoodIn wsX4_put (wsV RX4 95 RX4 yX4_set wsX4_set) := goodIn_app (goodIn_of _ (by decide +kernel)) ggX4_put_X4_set
theorem dX4_put_0 : decode cX4_put 0 = .ok (.iload_n 1, 1) := by decide +kernel
theorem dX4_put_1 : decode cX4_put 1 = .ok (.invokestatic 60, 3) := by decide +kernel
theorem dX4_put_4 : decode cX4_put 4 = .ok (.ifCond .ne 6, 3) := by decide +kernel
theorem dX4_put_7 : decode cX4_put 7 = .ok (.bipush (-6), 2) := by decide +kernel
theorem dX4_put_9 : decode cX4_put 9 = .ok (.ireturn, 1) := by decide +kernel
theorem dX4_put_10 : decode cX4_put 10 = .ok (.aload_n 0, 1) := by decide +kernel
theorem dX4_put_11 : decode cX4_put 11 = .ok (.iload_n 1, 1) := by decide +kernel
theorem dX4_put_12 : decode cX4_put 12 = .ok (.invokevirtual 53, 3) := by decide +kernel
theorem dX4_put_15 : decode cX4_put 15 = .ok (.ifCond .ne 9, 3) := by decide +kernel
theorem dX4_put_18 : decode cX4_put 18 = .ok (.aload_n 0, 1) := by decide +kernel
theorem dX4_put_19 : decode cX4_put 19 = .ok (.iload_n 1, 1) := by decide +kernel
theorem dX4_put_20 : decode cX4_put 20 = .ok (.invokevirtual 74, 3) := by decide +kernel
theorem dX4_put_23 : decode cX4_put 23 = .ok (.ireturn, 1) := by decide +kernel
theorem dX4_put_24 : decode cX4_put 24 = .ok (.aload_n 0, 1) := by decide +kernel
theorem dX4_put_25 : decode cX4_put 25 = .ok (.getfield 7, 3) := by decide +kernel
theorem dX4_put_28 : decode cX4_put 28 = .ok (.iload_n 1, 1) := by decide +kernel
theorem dX4_put_29 : decode cX4_put 29 = .ok (.iaload, 1) := by decide +kernel
theorem dX4_put_30 : decode cX4_put 30 = .ok (.istore 4, 2) := by decide +kernel
theorem dX4_put_32 : decode cX4_put 32 = .ok (.lconst 0, 1) := by decide +kernel
theorem dX4_put_33 : decode cX4_put 33 = .ok (.lstore 5, 2) := by decide +kernel
theorem dX4_put_35 : decode cX4_put 35 = .ok (.iload 4, 2) := by decide +kernel
theorem dX4_put_37 : decode cX4_put 37 = .ok (.invokestatic 57, 3) := by decide +kernel
theorem dX4_put_40 : decode cX4_put 40 = .ok (.ifCond .eq 14, 3) := by decide +kernel
theorem dX4_put_43 : decode cX4_put 43 = .ok (.iload 4, 2) := by decide +kernel
theorem dX4_put_45 : decode cX4_put 45 = .ok (.iload_n 3, 1) := by decide +kernel
theorem dX4_put_46 : decode cX4_put 46 = .ok (.invokestatic 78, 3) := by decide +kernel
theorem dX4_put_49 : decode cX4_put 49 = .ok (.lstore 5, 2) := by decide +kernel
theorem dX4_put_51 : decode cX4_put 51 = .ok (.goto 55, 3) := by decide +kernel
theorem dX4_put_54 : decode cX4_put 54 = .ok (.iload 4, 2) := by decide +kernel
theorem dX4_put_56 : decode cX4_put 56 = .ok (.bipush 13, 2) := by decide +kernel
theorem dX4_put_58 : decode cX4_put 58 = .ok (.if_icmp .ne 41, 3) := by decide +kernel
theorem dX4_put_61 : decode cX4_put 61 = .ok (.iload_n 3, 1) := by decide +kernel
theorem dX4_put_62 : decode cX4_put 62 = .ok (.invokestatic 60, 3) := by decide +kernel
theorem dX4_put_65 : decode cX4_put 65 = .ok (.ifCond .eq 28, 3) := by decide +kernel
theorem dX4_put_68 : decode cX4_put 68 = .ok (.aload_n 0, 1) := by decide +kernel
theorem dX4_put_69 : decode cX4_put 69 = .ok (.getfield 7, 3) := by decide +kernel
theorem dX4_put_72 : decode cX4_put 72 = .ok (.iload_n 3, 1) := by decide +kernel
theorem dX4_put_73 : decode cX4_put 73 = .ok (.iaload, 1) := by decide +kernel
theorem dX4_put_74 : decode cX4_put 74 = .ok (.bipush 6, 2) := by decide +kernel
theorem dX4_put_76 : decode cX4_put 76 = .ok (.if_icmp .ne 17, 3) := by decide +kernel
theorem dX4_put_79 : decode cX4_put 79 = .ok (.ldc2_w 82, 3) := by decide +kernel
theorem dX4_put_82 : decode cX4_put 82 = .ok (.aload_n 0, 1) := by decide +kernel
theorem dX4_put_83 : decode cX4_put 83 = .ok (.getfield 13, 3) := by decide +kernel
theorem dX4_put_86 : decode cX4_put 86 = .ok (.iload_n 3, 1) := by decide +kernel
theorem dX4_put_87 : decode cX4_put 87 = .ok (.iaload, 1) := by decide +kernel
theorem dX4_put_88 : decode cX4_put 88 = .ok (.i2l, 1) := by decide +kernel
theorem dX4_put_89 : decode cX4_put 89 = .ok (.lsub, 1) := by decide +kernel
theorem dX4_put_90 : decode cX4_put 90 = .ok (.goto 4, 3) := by decide +kernel
theorem dX4_put_93 : decode cX4_put 93 = .ok (.lconst 0, 1) := by decide +kernel
theorem dX4_put_94 : decode cX4_put 94 = .ok (.lstore 5, 2) := by decide +kernel
theorem dX4_put_96 : decode cX4_put 96 = .ok (.goto 10, 3) := by decide +kernel
theorem dX4_put_99 : decode cX4_put 99 = .ok (.aload_n 0, 1) := by decide +kernel
theorem dX4_put_100 : decode cX4_put 100 = .ok (.iload_n 3, 1) := by decide +kernel
theorem dX4_put_101 : decode cX4_put 101 = .ok (.invokevirtual 84, 3) := by decide +kernel
theorem dX4_put_104 : decode cX4_put 104 = .ok (.lstore 5, 2) := by decide +kernel
theorem dX4_put_106 : decode cX4_put 106 = .ok (.iload_n 2, 1) := by decide +kernel
theorem dX4_put_107 : decode cX4_put 107 = .ok (.iconst 0, 1) := by decide +kernel
theorem dX4_put_108 : decode cX4_put 108 = .ok (.aload_n 0, 1) := by decide +kernel
theorem dX4_put_109 : decode cX4_put 109 = .ok (.iload_n 1, 1) := by decide +kernel
theorem dX4_put_110 : decode cX4_put 110 = .ok (.invokevirtual 88, 3) := by decide +kernel
theorem dX4_put_113 : decode cX4_put 113 = .ok (.iconst 1, 1) := by decide +kernel
theorem dX4_put_114 : decode cX4_put 114 = .ok (.isub, 1) := by decide +kernel
theorem dX4_put_115 : decode cX4_put 115 = .ok (.invokestatic 49, 3) := by decide +kernel
theorem dX4_put_118 : decode cX4_put 118 = .ok (.ifCond .ne 6, 3) := by decide +kernel
theorem dX4_put_121 : decode cX4_put 121 = .ok (.bipush (-4), 2) := by decide +kernel
theorem dX4_put_123 : decode cX4_put 123 = .ok (.ireturn, 1) := by decide +kernel
theorem dX4_put_124 : decode cX4_put 124 = .ok (.aload_n 0, 1) := by decide +kernel
theorem dX4_put_125 : decode cX4_put 125 = .ok (.iload 4, 2) := by decide +kernel
theorem dX4_put_127 : decode cX4_put 127 = .ok (.lload 5, 2) := by decide +kernel
theorem dX4_put_129 : decode cX4_put 129 = .ok (.invokevirtual 91, 3) := by decide +kernel
theorem dX4_put_132 : decode cX4_put 132 = .ok (.ifCond .ne 6, 3) := by decide +kernel
theorem dX4_put_135 : decode cX4_put 135 = .ok (.bipush (-3), 2) := by decide +kernel
theorem dX4_put_137 : decode cX4_put 137 = .ok (.ireturn, 1) := by decide +kernel
theorem dX4_put_138 : decode cX4_put 138 = .ok (.aload_n 0, 1) := by decide +kernel
theorem dX4_put_139 : decode cX4_put 139 = .ok (.iload_n 1, 1) := by decide +kernel
theorem dX4_put_140 : decode cX4_put 140 = .ok (.iload_n 2, 1) := by decide +kernel
theorem dX4_put_141 : decode cX4_put 141 = .ok (.lload 5, 2) := by decide +kernel
theorem dX4_put_143 : decode cX4_put 143 = .ok (.invokevirtual 95, 3) := by decide +kernel
theorem dX4_put_146 : decode cX4_put 146 = .ok (.iconst 1, 1) := by decide +kernel
theorem dX4_put_147 : decode cX4_put 147 = .ok (.ireturn, 1) := by decide +kernel
set_option maxRecDepth 20000 in
theorem ggX4_keep_X4_isRow : GoodIn wsX4_keep wsX4_isRow := goodIn_r _ [8, 9, 21, 22, 23, 24, 25, 26, 27, 28, 29, 30, 31, 32, 33, 34, 35, 36] (by decide +kernel) (by decide +kernel)
set_option maxRecDepth 20000 in
theorem gX4_keep_X4_isRow : GoodIn wsX4_keep (wsV RX4 53 RX4 yX4_isRow wsX4_isRow) := goodIn_app (goodIn_of _ (by decide +kernel)) ggX4_keep_X4_isRow
set_option maxRecDepth 20000 in
theorem ggX4_keep_X4_sizeOf : GoodIn wsX4_keep wsX4_sizeOf := goodIn_r _ [13, 14, 1, 4, 5, 6, 7, 8, 9, 21, 22, 23, 24, 25, 26, 27, 28, 29, 30, 31, 32, 33, 34, 35, 36] (by decide +kernel) (by decide +kernel)
set_option maxRecDepth 20000 in
theorem gX4_keep_X4_sizeOf : GoodIn wsX4_keep (wsV RX4 88 RX4 yX4_sizeOf wsX4_sizeOf) := goodIn_app (goodIn_of _ (by decide +kernel)) ggX4_keep_X4_sizeOf
set_option maxRecDepth 20000 in
theorem ggX4_keep_X4_get : GoodIn wsX4_keep wsX4_get := goodIn_r _ [18, 19, 20, 1, 21, 22, 23, 24, 25, 26, 27, 28, 29, 30, 31, 32, 33, 34, 35, 36] (by decide +kernel) (by decide +kernel)
set_option maxRecDepth 20000 in
theorem gX4_keep_X4_get : GoodIn wsX4_keep (wsV RX4 99 RX4 yX4_get wsX4_get) := goodIn_app (goodIn_of _ (by decide +kernel)) ggX4_keep_X4_get
theorem dX4_keep_0 : decode cX4_keep 0 = .ok (.aload_n 0, 1) := by decide +kernel
theorem dX4_keep_1 : decode cX4_keep 1 = .ok (.aload_n 0, 1) := by decide +kernel
theorem dX4_keep_2 : decode cX4_keep 2 = .ok (.iload_n 1, 1) := by decide +kernel
theorem dX4_keep_3 : decode cX4_keep 3 = .ok (.invokevirtual 53, 3) := by decide +kernel
theorem dX4_keep_6 : decode cX4_keep 6 = .ok (.ifCond .eq 12, 3) := by decide +kernel
theorem dX4_keep_9 : decode cX4_keep 9 = .ok (.aload_n 0, 1) := by decide +kernel
theorem dX4_keep_10 : decode cX4_keep 10 = .ok (.getfield 13, 3) := by decide +kernel
theorem dX4_keep_13 : decode cX4_keep 13 = .ok (.iload_n 1, 1) := by decide +kernel
theorem dX4_keep_14 : decode cX4_keep 14 = .ok (.iaload, 1) := by decide +kernel
theorem dX4_keep_15 : decode cX4_keep 15 = .ok (.goto 4, 3) := by decide +kernel
theorem dX4_keep_18 : decode cX4_keep 18 = .ok (.iconst (-1), 1) := by decide +kernel
theorem dX4_keep_19 : decode cX4_keep 19 = .ok (.putfield 42, 3) := by decide +kernel
theorem dX4_keep_22 : decode cX4_keep 22 = .ok (.iconst 0, 1) := by decide +kernel
theorem dX4_keep_23 : decode cX4_keep 23 = .ok (.istore_n 2, 1) := by decide +kernel
theorem dX4_keep_24 : decode cX4_keep 24 = .ok (.iload_n 2, 1) := by decide +kernel
theorem dX4_keep_25 : decode cX4_keep 25 = .ok (.aload_n 0, 1) := by decide +kernel
theorem dX4_keep_26 : decode cX4_keep 26 = .ok (.iload_n 1, 1) := by decide +kernel
theorem dX4_keep_27 : decode cX4_keep 27 = .ok (.invokevirtual 88, 3) := by decide +kernel
theorem dX4_keep_30 : decode cX4_keep 30 = .ok (.if_icmp .ge 21, 3) := by decide +kernel
theorem dX4_keep_33 : decode cX4_keep 33 = .ok (.aload_n 0, 1) := by decide +kernel
theorem dX4_keep_34 : decode cX4_keep 34 = .ok (.getfield 39, 3) := by decide +kernel
theorem dX4_keep_37 : decode cX4_keep 37 = .ok (.iload_n 2, 1) := by decide +kernel
theorem dX4_keep_38 : decode cX4_keep 38 = .ok (.aload_n 0, 1) := by decide +kernel
theorem dX4_keep_39 : decode cX4_keep 39 = .ok (.iload_n 1, 1) := by decide +kernel
theorem dX4_keep_40 : decode cX4_keep 40 = .ok (.iload_n 2, 1) := by decide +kernel
theorem dX4_keep_41 : decode cX4_keep 41 = .ok (.invokevirtual 99, 3) := by decide +kernel
theorem dX4_keep_44 : decode cX4_keep 44 = .ok (.lastore, 1) := by decide +kernel
theorem dX4_keep_45 : decode cX4_keep 45 = .ok (.iinc 2 1, 3) := by decide +kernel
theorem dX4_keep_48 : decode cX4_keep 48 = .ok (.goto (-24), 3) := by decide +kernel
theorem dX4_keep_51 : decode cX4_keep 51 = .ok (.return_, 1) := by decide +kernel
theorem dX4_told0_0 : decode cX4_told0 0 = .ok (.aload_n 0, 1) := by decide +kernel
theorem dX4_told0_1 : decode cX4_told0 1 = .ok (.getfield 46, 3) := by decide +kernel
theorem dX4_told0_4 : decode cX4_told0 4 = .ok (.iload_n 1, 1) := by decide +kernel
theorem dX4_told0_5 : decode cX4_told0 5 = .ok (.ifCond .ge 9, 3) := by decide +kernel
theorem dX4_told0_8 : decode cX4_told0 8 = .ok (.iconst 1, 1) := by decide +kernel
theorem dX4_told0_9 : decode cX4_told0 9 = .ok (.iload_n 1, 1) := by decide +kernel
theorem dX4_told0_10 : decode cX4_told0 10 = .ok (.isub, 1) := by decide +kernel
theorem dX4_told0_11 : decode cX4_told0 11 = .ok (.goto 4, 3) := by decide +kernel
theorem dX4_told0_14 : decode cX4_told0 14 = .ok (.iconst 1, 1) := by decide +kernel
theorem dX4_told0_15 : decode cX4_told0 15 = .ok (.dup2, 1) := by decide +kernel
theorem dX4_told0_16 : decode cX4_told0 16 = .ok (.iaload, 1) := by decide +kernel
theorem dX4_told0_17 : decode cX4_told0 17 = .ok (.iconst 1, 1) := by decide +kernel
theorem dX4_told0_18 : decode cX4_told0 18 = .ok (.iadd, 1) := by decide +kernel
theorem dX4_told0_19 : decode cX4_told0 19 = .ok (.iastore, 1) := by decide +kernel
theorem dX4_told0_20 : decode cX4_told0 20 = .ok (.iload_n 1, 1) := by decide +kernel
theorem dX4_told0_21 : decode cX4_told0 21 = .ok (.ireturn, 1) := by decide +kernel
set_option maxRecDepth 20000 in
theorem ggX4_unlike_X4_isNumbers : GoodIn wsX4_unlike wsX4_isNumbers := goodIn_r _ [5, 6, 7, 4, 8] (by decide +kernel) (by decide +kernel)
set_option maxRecDepth 20000 in
theorem gX4_unlike_X4_isNumbers : GoodIn wsX4_unlike (va_wsS RX4 57 yX4_isNumbers wsX4_isNumbers) := goodIn_app (goodIn_of _ (by decide +kernel)) ggX4_unlike_X4_isNumbers
theorem dX4_unlike_0 : decode cX4_unlike 0 = .ok (.aload_n 0, 1) := by decide +kernel
theorem dX4_unlike_1 : decode cX4_unlike 1 = .ok (.getfield 7, 3) := by decide +kernel
theorem dX4_unlike_4 : decode cX4_unlike 4 = .ok (.iload_n 1, 1) := by decide +kernel
theorem dX4_unlike_5 : decode cX4_unlike 5 = .ok (.iaload, 1) := by decide +kernel
theorem dX4_unlike_6 : decode cX4_unlike 6 = .ok (.ifCond .eq 12, 3) := by decide +kernel
theorem dX4_unlike_9 : decode cX4_unlike 9 = .ok (.aload_n 0, 1) := by decide +kernel
theorem dX4_unlike_10 : decode cX4_unlike 10 = .ok (.getfield 7, 3) := by decide +kernel
theorem dX4_unlike_13 : decode cX4_unlike 13 = .ok (.iload_n 2, 1) := by decide +kernel
theorem dX4_unlike_14 : decode cX4_unlike 14 = .ok (.iaload, 1) := by decide +kernel
theorem dX4_unlike_15 : decode cX4_unlike 15 = .ok (.ifCond .ne 5, 3) := by decide +kernel
theorem dX4_unlike_18 : decode cX4_unlike 18 = .ok (.iconst (-1), 1) := by decide +kernel
theorem dX4_unlike_19 : decode cX4_unlike 19 = .ok (.ireturn, 1) := by decide +kernel
theorem dX4_unlike_20 : decode cX4_unlike 20 = .ok (.aload_n 0, 1) := by decide +kernel
theorem dX4_unlike_21 : decode cX4_unlike 21 = .ok (.getfield 7, 3) := by decide +kernel
theorem dX4_unlike_24 : decode cX4_unlike 24 = .ok (.iload_n 1, 1) := by decide +kernel
theorem dX4_unlike_25 : decode cX4_unlike 25 = .ok (.iaload, 1) := by decide +kernel
theorem dX4_unlike_26 : decode cX4_unlike 26 = .ok (.iconst 1, 1) := by decide +kernel
theorem dX4_unlike_27 : decode cX4_unlike 27 = .ok (.if_icmp .eq 13, 3) := by decide +kernel
theorem dX4_unlike_30 : decode cX4_unlike 30 = .ok (.aload_n 0, 1) := by decide +kernel
theorem dX4_unlike_31 : decode cX4_unlike 31 = .ok (.getfield 7, 3) := by decide +kernel
theorem dX4_unlike_34 : decode cX4_unlike 34 = .ok (.iload_n 2, 1) := by decide +kernel
theorem dX4_unlike_35 : decode cX4_unlike 35 = .ok (.iaload, 1) := by decide +kernel
theorem dX4_unlike_36 : decode cX4_unlike 36 = .ok (.iconst 1, 1) := by decide +kernel
theorem dX4_unlike_37 : decode cX4_unlike 37 = .ok (.if_icmp .ne 6, 3) := by decide +kernel
theorem dX4_unlike_40 : decode cX4_unlike 40 = .ok (.bipush (-2), 2) := by decide +kernel
theorem dX4_unlike_42 : decode cX4_unlike 42 = .ok (.ireturn, 1) := by decide +kernel
theorem dX4_unlike_43 : decode cX4_unlike 43 = .ok (.aload_n 0, 1) := by decide +kernel
theorem dX4_unlike_44 : decode cX4_unlike 44 = .ok (.getfield 7, 3) := by decide +kernel
theorem dX4_unlike_47 : decode cX4_unlike 47 = .ok (.iload_n 1, 1) := by decide +kernel
theorem dX4_unlike_48 : decode cX4_unlike 48 = .ok (.iaload, 1) := by decide +kernel
theorem dX4_unlike_49 : decode cX4_unlike 49 = .ok (.invokestatic 57, 3) := by decide +kernel
theorem dX4_unlike_52 : decode cX4_unlike 52 = .ok (.ifCond .ne 15, 3) := by decide +kernel
theorem dX4_unlike_55 : decode cX4_unlike 55 = .ok (.aload_n 0, 1) := by decide +kernel
theorem dX4_unlike_56 : decode cX4_unlike 56 = .ok (.getfield 7, 3) := by decide +kernel
theorem dX4_unlike_59 : decode cX4_unlike 59 = .ok (.iload_n 2, 1) := by decide +kernel
theorem dX4_unlike_60 : decode cX4_unlike 60 = .ok (.iaload, 1) := by decide +kernel
theorem dX4_unlike_61 : decode cX4_unlike 61 = .ok (.invokestatic 57, 3) := by decide +kernel
theorem dX4_unlike_64 : decode cX4_unlike 64 = .ok (.ifCond .eq 23, 3) := by decide +kernel
theorem dX4_unlike_67 : decode cX4_unlike 67 = .ok (.aload_n 0, 1) := by decide +kernel
theorem dX4_unlike_68 : decode cX4_unlike 68 = .ok (.getfield 7, 3) := by decide +kernel
theorem dX4_unlike_71 : decode cX4_unlike 71 = .ok (.iload_n 1, 1) := by decide +kernel
theorem dX4_unlike_72 : decode cX4_unlike 72 = .ok (.iaload, 1) := by decide +kernel
theorem dX4_unlike_73 : decode cX4_unlike 73 = .ok (.aload_n 0, 1) := by decide +kernel
theorem dX4_unlike_74 : decode cX4_unlike 74 = .ok (.getfield 7, 3) := by decide +kernel
theorem dX4_unlike_77 : decode cX4_unlike 77 = .ok (.iload_n 2, 1) := by decide +kernel
theorem dX4_unlike_78 : decode cX4_unlike 78 = .ok (.iaload, 1) := by decide +kernel
theorem dX4_unlike_79 : decode cX4_unlike 79 = .ok (.if_icmp .eq 8, 3) := by decide +kernel
theorem dX4_unlike_82 : decode cX4_unlike 82 = .ok (.bipush (-3), 2) := by decide +kernel
theorem dX4_unlike_84 : decode cX4_unlike 84 = .ok (.goto 4, 3) := by decide +kernel
theorem dX4_unlike_87 : decode cX4_unlike 87 = .ok (.iconst 0, 1) := by decide +kernel
theorem dX4_unlike_88 : decode cX4_unlike 88 = .ok (.ireturn, 1) := by decide +kernel
set_option maxRecDepth 20000 in
theorem ggX4_moved_X4_unlike : GoodIn wsX4_moved wsX4_unlike := goodIn_r _ [8, 3, 9, 10, 7, 11, 12, 13, 14, 40, 41, 42, 43, 44, 45, 46, 47, 48, 49, 50, 51, 52, 53, 54, 55] (by decide +kernel) (by decide +kernel)
set_option maxRecDepth 20000 in
theorem gX4_moved_X4_unlike : GoodIn wsX4_moved (wsV RX4 105 RX4 yX4_unlike wsX4_unlike) := goodIn_app (goodIn_of _ (by decide +kernel)) ggX4_moved_X4_unlike
set_option maxRecDepth 20000 in
theorem ggX4_moved_X4_sizeOf : GoodIn wsX4_moved wsX4_sizeOf := goodIn_r _ [18, 19, 20, 21, 22, 23, 7, 24, 3, 40, 41, 42, 43, 44, 45, 46, 47, 48, 49, 50, 51, 52, 53, 54, 55] (by decide +kernel) (by decide +kernel)
set_option maxRecDepth 20000 in
theorem gX4_moved_X4_sizeOf : GoodIn wsX4_moved (wsV RX4 88 RX4 yX4_sizeOf wsX4_sizeOf) := goodIn_app (goodIn_of _ (by decide +kernel)) ggX4_moved_X4_sizeOf
set_option maxRecDepth 20000 in
theorem ggX4_moved_X4_get : GoodIn wsX4_moved wsX4_get := goodIn_r _ [28, 29, 30, 20, 40, 41, 42, 43, 44, 45, 46, 47, 48, 49, 50, 51, 52, 53, 54, 55] (by decide +kernel) (by decide +kernel)
set_option maxRecDepth 20000 in
theorem gX4_moved_X4_get : GoodIn wsX4_moved (wsV RX4 99 RX4 yX4_get wsX4_get) := goodIn_app (goodIn_of _ (by decide +kernel)) ggX4_moved_X4_get
set_option maxRecDepth 20000 in
theorem ggX4_moved_X4_goes : GoodIn wsX4_moved wsX4_goes := goodIn_r _ [34, 35, 9, 10, 7, 11, 12, 13, 14, 40, 41, 42, 43, 44, 45, 46, 47, 48, 49, 50, 51, 52, 53, 54, 55] (by decide +kernel) (by decide +kernel)
set_option maxRecDepth 20000 in
theorem gX4_moved_X4_goes : GoodIn wsX4_moved (wsV RX4 91 RX4 yX4_goes wsX4_goes) := goodIn_app (goodIn_of _ (by decide +kernel)) ggX4_moved_X4_goes
set_option maxRecDepth 20000 in
theorem ggX4_moved_X4_set : GoodIn wsX4_moved wsX4_set := goodIn_r _ [39, 29, 30, 20, 40, 41, 42, 43, 44, 45, 46, 47, 48, 49, 50, 51, 52, 53, 54, 55] (by decide +kernel) (by decide +kernel)
set_option maxRecDepth 20000 in
theorem gX4_moved_X4_set : GoodIn wsX4_moved (wsV RX4 95 RX4 yX4_set wsX4_set) := goodIn_app (goodIn_of _ (by decide +kernel)) ggX4_moved_X4_set
theorem dX4_moved_0 : decode cX4_moved 0 = .ok (.aload_n 0, 1) := by decide +kernel
theorem dX4_moved_1 : decode cX4_moved 1 = .ok (.iconst 0, 1) := by decide +kernel
theorem dX4_moved_2 : decode cX4_moved 2 = .ok (.putfield 102, 3) := by decide +kernel
theorem dX4_moved_5 : decode cX4_moved 5 = .ok (.aload_n 0, 1) := by decide +kernel
theorem dX4_moved_6 : decode cX4_moved 6 = .ok (.iload_n 1, 1) := by decide +kernel
theorem dX4_moved_7 : decode cX4_moved 7 = .ok (.iload_n 3, 1) := by decide +kernel
theorem dX4_moved_8 : decode cX4_moved 8 = .ok (.invokevirtual 105, 3) := by decide +kernel
theorem dX4_moved_11 : decode cX4_moved 11 = .ok (.istore 6, 2) := by decide +kernel
theorem dX4_moved_13 : decode cX4_moved 13 = .ok (.iload 6, 2) := by decide +kernel
theorem dX4_moved_15 : decode cX4_moved 15 = .ok (.ifCond .ge 6, 3) := by decide +kernel
theorem dX4_moved_18 : decode cX4_moved 18 = .ok (.iload 6, 2) := by decide +kernel
theorem dX4_moved_20 : decode cX4_moved 20 = .ok (.ireturn, 1) := by decide +kernel
theorem dX4_moved_21 : decode cX4_moved 21 = .ok (.iload_n 2, 1) := by decide +kernel
theorem dX4_moved_22 : decode cX4_moved 22 = .ok (.ifCond .lt 46, 3) := by decide +kernel
theorem dX4_moved_25 : decode cX4_moved 25 = .ok (.iload 4, 2) := by decide +kernel
theorem dX4_moved_27 : decode cX4_moved 27 = .ok (.ifCond .lt 41, 3) := by decide +kernel
theorem dX4_moved_30 : decode cX4_moved 30 = .ok (.iload 5, 2) := by decide +kernel
theorem dX4_moved_32 : decode cX4_moved 32 = .ok (.ifCond .lt 36, 3) := by decide +kernel
theorem dX4_moved_35 : decode cX4_moved 35 = .ok (.iload_n 2, 1) := by decide +kernel
theorem dX4_moved_36 : decode cX4_moved 36 = .ok (.i2l, 1) := by decide +kernel
theorem dX4_moved_37 : decode cX4_moved 37 = .ok (.iload 5, 2) := by decide +kernel
theorem dX4_moved_39 : decode cX4_moved 39 = .ok (.i2l, 1) := by decide +kernel
theorem dX4_moved_40 : decode cX4_moved 40 = .ok (.ladd, 1) := by decide +kernel
theorem dX4_moved_41 : decode cX4_moved 41 = .ok (.aload_n 0, 1) := by decide +kernel
theorem dX4_moved_42 : decode cX4_moved 42 = .ok (.iload_n 1, 1) := by decide +kernel
theorem dX4_moved_43 : decode cX4_moved 43 = .ok (.invokevirtual 88, 3) := by decide +kernel
theorem dX4_moved_46 : decode cX4_moved 46 = .ok (.i2l, 1) := by decide +kernel
theorem dX4_moved_47 : decode cX4_moved 47 = .ok (.lcmp, 1) := by decide +kernel
theorem dX4_moved_48 : decode cX4_moved 48 = .ok (.ifCond .gt 20, 3) := by decide +kernel
theorem dX4_moved_51 : decode cX4_moved 51 = .ok (.iload 4, 2) := by decide +kernel
theorem dX4_moved_53 : decode cX4_moved 53 = .ok (.i2l, 1) := by decide +kernel
theorem dX4_moved_54 : decode cX4_moved 54 = .ok (.iload 5, 2) := by decide +kernel
theorem dX4_moved_56 : decode cX4_moved 56 = .ok (.i2l, 1) := by decide +kernel
theorem dX4_moved_57 : decode cX4_moved 57 = .ok (.ladd, 1) := by decide +kernel
theorem dX4_moved_58 : decode cX4_moved 58 = .ok (.aload_n 0, 1) := by decide +kernel
theorem dX4_moved_59 : decode cX4_moved 59 = .ok (.iload_n 3, 1) := by decide +kernel
theorem dX4_moved_60 : decode cX4_moved 60 = .ok (.invokevirtual 88, 3) := by decide +kernel
theorem dX4_moved_63 : decode cX4_moved 63 = .ok (.i2l, 1) := by decide +kernel
theorem dX4_moved_64 : decode cX4_moved 64 = .ok (.lcmp, 1) := by decide +kernel
theorem dX4_moved_65 : decode cX4_moved 65 = .ok (.ifCond .le 6, 3) := by decide +kernel
theorem dX4_moved_68 : decode cX4_moved 68 = .ok (.bipush (-4), 2) := by decide +kernel
theorem dX4_moved_70 : decode cX4_moved 70 = .ok (.ireturn, 1) := by decide +kernel
theorem dX4_moved_71 : decode cX4_moved 71 = .ok (.iconst 0, 1) := by decide +kernel
theorem dX4_moved_72 : decode cX4_moved 72 = .ok (.istore 7, 2) := by decide +kernel
theorem dX4_moved_74 : decode cX4_moved 74 = .ok (.iload 7, 2) := by decide +kernel
theorem dX4_moved_76 : decode cX4_moved 76 = .ok (.iload 5, 2) := by decide +kernel
theorem dX4_moved_78 : decode cX4_moved 78 = .ok (.if_icmp .ge 25, 3) := by decide +kernel
theorem dX4_moved_81 : decode cX4_moved 81 = .ok (.aload_n 0, 1) := by decide +kernel
theorem dX4_moved_82 : decode cX4_moved 82 = .ok (.getfield 36, 3) := by decide +kernel
theorem dX4_moved_85 : decode cX4_moved 85 = .ok (.iload 7, 2) := by decide +kernel
theorem dX4_moved_87 : decode cX4_moved 87 = .ok (.aload_n 0, 1) := by decide +kernel
theorem dX4_moved_88 : decode cX4_moved 88 = .ok (.iload_n 1, 1) := by decide +kernel
theorem dX4_moved_89 : decode cX4_moved 89 = .ok (.iload_n 2, 1) := by decide +kernel
theorem dX4_moved_90 : decode cX4_moved 90 = .ok (.iload 7, 2) := by decide +kernel
theorem dX4_moved_92 : decode cX4_moved 92 = .ok (.iadd, 1) := by decide +kernel
theorem dX4_moved_93 : decode cX4_moved 93 = .ok (.invokevirtual 99, 3) := by decide +kernel
theorem dX4_moved_96 : decode cX4_moved 96 = .ok (.lastore, 1) := by decide +kernel
theorem dX4_moved_97 : decode cX4_moved 97 = .ok (.iinc 7 1, 3) := by decide +kernel
theorem dX4_moved_100 : decode cX4_moved 100 = .ok (.goto (-26), 3) := by decide +kernel
theorem dX4_moved_103 : decode cX4_moved 103 = .ok (.iconst 0, 1) := by decide +kernel
theorem dX4_moved_104 : decode cX4_moved 104 = .ok (.istore 7, 2) := by decide +kernel
theorem dX4_moved_106 : decode cX4_moved 106 = .ok (.iload 7, 2) := by decide +kernel
theorem dX4_moved_108 : decode cX4_moved 108 = .ok (.iload 5, 2) := by decide +kernel
theorem dX4_moved_110 : decode cX4_moved 110 = .ok (.if_icmp .ge 59, 3) := by decide +kernel
theorem dX4_moved_113 : decode cX4_moved 113 = .ok (.aload_n 0, 1) := by decide +kernel
theorem dX4_moved_114 : decode cX4_moved 114 = .ok (.aload_n 0, 1) := by decide +kernel
theorem dX4_moved_115 : decode cX4_moved 115 = .ok (.getfield 7, 3) := by decide +kernel
theorem dX4_moved_118 : decode cX4_moved 118 = .ok (.iload_n 3, 1) := by decide +kernel
theorem dX4_moved_119 : decode cX4_moved 119 = .ok (.iaload, 1) := by decide +kernel
theorem dX4_moved_120 : decode cX4_moved 120 = .ok (.aload_n 0, 1) := by decide +kernel
theorem dX4_moved_121 : decode cX4_moved 121 = .ok (.getfield 36, 3) := by decide +kernel
theorem dX4_moved_124 : decode cX4_moved 124 = .ok (.iload 7, 2) := by decide +kernel
theorem dX4_moved_126 : decode cX4_moved 126 = .ok (.laload, 1) := by decide +kernel
theorem dX4_moved_127 : decode cX4_moved 127 = .ok (.invokevirtual 91, 3) := by decide +kernel
theorem dX4_moved_130 : decode cX4_moved 130 = .ok (.ifCond .ne 6, 3) := by decide +kernel
theorem dX4_moved_133 : decode cX4_moved 133 = .ok (.bipush (-5), 2) := by decide +kernel
theorem dX4_moved_135 : decode cX4_moved 135 = .ok (.ireturn, 1) := by decide +kernel
theorem dX4_moved_136 : decode cX4_moved 136 = .ok (.aload_n 0, 1) := by decide +kernel
theorem dX4_moved_137 : decode cX4_moved 137 = .ok (.iload_n 3, 1) := by decide +kernel
theorem dX4_moved_138 : decode cX4_moved 138 = .ok (.iload 4, 2) := by decide +kernel
theorem dX4_moved_140 : decode cX4_moved 140 = .ok (.iload 7, 2) := by decide +kernel
theorem dX4_moved_142 : decode cX4_moved 142 = .ok (.iadd, 1) := by decide +kernel
theorem dX4_moved_143 : decode cX4_moved 143 = .ok (.aload_n 0, 1) := by decide +kernel
theorem dX4_moved_144 : decode cX4_moved 144 = .ok (.getfield 36, 3) := by decide +kernel
theorem dX4_moved_147 : decode cX4_moved 147 = .ok (.iload 7, 2) := by decide +kernel
theorem dX4_moved_149 : decode cX4_moved 149 = .ok (.laload, 1) := by decide +kernel
theorem dX4_moved_150 : decode cX4_moved 150 = .ok (.invokevirtual 95, 3) := by decide +kernel
theorem dX4_moved_153 : decode cX4_moved 153 = .ok (.aload_n 0, 1) := by decide +kernel
theorem dX4_moved_154 : decode cX4_moved 154 = .ok (.dup, 1) := by decide +kernel
theorem dX4_moved_155 : decode cX4_moved 155 = .ok (.getfield 102, 3) := by decide +kernel
theorem dX4_moved_158 : decode cX4_moved 158 = .ok (.iconst 1, 1) := by decide +kernel
theorem dX4_moved_159 : decode cX4_moved 159 = .ok (.iadd, 1) := by decide +kernel
theorem dX4_moved_160 : decode cX4_moved 160 = .ok (.putfield 102, 3) := by decide +kernel
theorem dX4_moved_163 : decode cX4_moved 163 = .ok (.iinc 7 1, 3) := by decide +kernel
theorem dX4_moved_166 : decode cX4_moved 166 = .ok (.goto (-60), 3) := by decide +kernel
theorem dX4_moved_169 : decode cX4_moved 169 = .ok (.iload 5, 2) := by decide +kernel
theorem dX4_moved_171 : decode cX4_moved 171 = .ok (.ireturn, 1) := by decide +kernel
set_option maxRecDepth 20000 in
theorem ggX4_move_X4_isTray : GoodIn wsX4_move wsX4_isTray := goodIn_r _ [4, 5, 6, 3, 7] (by decide +kernel) (by decide +kernel)
set_option maxRecDepth 20000 in
theorem gX4_move_X4_isTray : GoodIn wsX4_move (va_wsS RX4 60 yX4_isTray wsX4_isTray) := goodIn_app (goodIn_of _ (by decide +kernel)) ggX4_move_X4_isTray
set_option maxRecDepth 20000 in
theorem ggX4_move_X4_keep : GoodIn wsX4_move wsX4_keep := goodIn_r _ [11, 12, 13, 14, 15, 16, 17, 3, 18, 19, 20, 21, 22, 23, 24, 25, 26, 27, 28, 29, 30, 58, 59, 60, 61, 62, 63, 64, 65, 66, 67, 68, 69, 70, 71, 72, 73] (by decide +kernel) (by decide +kernel)
set_option maxRecDepth 20000 in
theorem gX4_move_X4_keep : GoodIn wsX4_move (wsV RX4 109 RX4 yX4_keep wsX4_keep) := goodIn_app (goodIn_of _ (by decide +kernel)) ggX4_move_X4_keep
set_option maxRecDepth 20000 in
theorem ggX4_move_X4_moved : GoodIn wsX4_move wsX4_moved := goodIn_r _ [34, 35, 36, 19, 37, 38, 39, 3, 40, 41, 42, 43, 5, 6, 7, 20, 21, 22, 23, 24, 12, 15, 16, 17, 18, 25, 26, 27, 28, 29, 30, 44, 45, 46, 47, 48, 49, 50, 51, 52, 58, 59, 60, 61, 62, 63, 64, 65, 66, 67, 68, 69, 70, 71, 72, 73] (by decide +kernel) (by decide +kernel)
set_option maxRecDepth 20000 in
theorem gX4_move_X4_moved : GoodIn wsX4_move (wsV RX4 113 RX4 yX4_moved wsX4_moved) := goodIn_app (goodIn_of _ (by decide +kernel)) ggX4_move_X4_moved
set_option maxRecDepth 20000 in
theorem ggX4_move_X4_told0 : GoodIn wsX4_move wsX4_told0 := goodIn_r _ [56, 57, 58, 59, 60, 61, 62, 63, 64, 65, 66, 67, 68, 69, 70, 71, 72, 73] (by decide +kernel) (by decide +kernel)
set_option maxRecDepth 20000 in
theorem gX4_move_X4_told0 : GoodIn wsX4_move (wsV RX4 117 RX4 yX4_told0 wsX4_told0) := goodIn_app (goodIn_of _ (by decide +kernel)) ggX4_move_X4_told0
theorem dX4_move_0 : decode cX4_move 0 = .ok (.iload_n 1, 1) := by decide +kernel
theorem dX4_move_1 : decode cX4_move 1 = .ok (.invokestatic 60, 3) := by decide +kernel
theorem dX4_move_4 : decode cX4_move 4 = .ok (.ifCond .eq 10, 3) := by decide +kernel
theorem dX4_move_7 : decode cX4_move 7 = .ok (.iload_n 3, 1) := by decide +kernel
theorem dX4_move_8 : decode cX4_move 8 = .ok (.invokestatic 60, 3) := by decide +kernel
theorem dX4_move_11 : decode cX4_move 11 = .ok (.ifCond .ne 6, 3) := by decide +kernel
theorem dX4_move_14 : decode cX4_move 14 = .ok (.bipush (-6), 2) := by decide +kernel
theorem dX4_move_16 : decode cX4_move 16 = .ok (.ireturn, 1) := by decide +kernel
theorem dX4_move_17 : decode cX4_move 17 = .ok (.aload_n 0, 1) := by decide +kernel
theorem dX4_move_18 : decode cX4_move 18 = .ok (.iload_n 3, 1) := by decide +kernel
theorem dX4_move_19 : decode cX4_move 19 = .ok (.invokevirtual 109, 3) := by decide +kernel
theorem dX4_move_22 : decode cX4_move 22 = .ok (.aload_n 0, 1) := by decide +kernel
theorem dX4_move_23 : decode cX4_move 23 = .ok (.aload_n 0, 1) := by decide +kernel
theorem dX4_move_24 : decode cX4_move 24 = .ok (.iload_n 1, 1) := by decide +kernel
theorem dX4_move_25 : decode cX4_move 25 = .ok (.iload_n 2, 1) := by decide +kernel
theorem dX4_move_26 : decode cX4_move 26 = .ok (.iload_n 3, 1) := by decide +kernel
theorem dX4_move_27 : decode cX4_move 27 = .ok (.iload 4, 2) := by decide +kernel
theorem dX4_move_29 : decode cX4_move 29 = .ok (.iload 5, 2) := by decide +kernel
theorem dX4_move_31 : decode cX4_move 31 = .ok (.invokevirtual 113, 3) := by decide +kernel
theorem dX4_move_34 : decode cX4_move 34 = .ok (.invokevirtual 117, 3) := by decide +kernel
theorem dX4_move_37 : decode cX4_move 37 = .ok (.ireturn, 1) := by decide +kernel
set_option maxRecDepth 20000 in
theorem ggX4_open_X4_isTray : GoodIn wsX4_open wsX4_isTray := goodIn_r _ [4, 5, 6, 3, 7] (by decide +kernel) (by decide +kernel)
set_option maxRecDepth 20000 in
theorem gX4_open_X4_isTray : GoodIn wsX4_open (va_wsS RX4 60 yX4_isTray wsX4_isTray) := goodIn_app (goodIn_of _ (by decide +kernel)) ggX4_open_X4_isTray
set_option maxRecDepth 20000 in
theorem ggX4_open_X4_keep : GoodIn wsX4_open wsX4_keep := goodIn_r _ [11, 12, 13, 14, 15, 16, 17, 3, 18, 19, 20, 21, 22, 23, 24, 25, 26, 27, 28, 29, 30, 58, 59, 60, 61, 62, 63, 64, 65, 66, 67, 68, 69, 70, 71, 72, 73] (by decide +kernel) (by decide +kernel)
set_option maxRecDepth 20000 in
theorem gX4_open_X4_keep : GoodIn wsX4_open (wsV RX4 109 RX4 yX4_keep wsX4_keep) := goodIn_app (goodIn_of _ (by decide +kernel)) ggX4_open_X4_keep
set_option maxRecDepth 20000 in
theorem ggX4_open_X4_sizeOf : GoodIn wsX4_open wsX4_sizeOf := goodIn_r _ [23, 24, 12, 15, 16, 17, 3, 18, 19, 58, 59, 60, 61, 62, 63, 64, 65, 66, 67, 68, 69, 70, 71, 72, 73] (by decide +kernel) (by decide +kernel)
set_option maxRecDepth 20000 in
theorem gX4_open_X4_sizeOf : GoodIn wsX4_open (wsV RX4 88 RX4 yX4_sizeOf wsX4_sizeOf) := goodIn_app (goodIn_of _ (by decide +kernel)) ggX4_open_X4_sizeOf
set_option maxRecDepth 20000 in
theorem ggX4_open_X4_moved : GoodIn wsX4_open wsX4_moved := goodIn_r _ [34, 35, 36, 19, 37, 38, 39, 3, 40, 41, 42, 43, 5, 6, 7, 20, 21, 22, 23, 24, 12, 15, 16, 17, 18, 25, 26, 27, 28, 29, 30, 44, 45, 46, 47, 48, 49, 50, 51, 52, 58, 59, 60, 61, 62, 63, 64, 65, 66, 67, 68, 69, 70, 71, 72, 73] (by decide +kernel) (by decide +kernel)
set_option maxRecDepth 20000 in
theorem gX4_open_X4_moved : GoodIn wsX4_open (wsV RX4 113 RX4 yX4_moved wsX4_moved) := goodIn_app (goodIn_of _ (by decide +kernel)) ggX4_open_X4_moved
set_option maxRecDepth 20000 in
theorem ggX4_open_X4_told0 : GoodIn wsX4_open wsX4_told0 := goodIn_r _ [56, 57, 58, 59, 60, 61, 62, 63, 64, 65, 66, 67, 68, 69, 70, 71, 72, 73] (by decide +kernel) (by decide +kernel)
set_option maxRecDepth 20000 in
theorem gX4_open_X4_told0 : GoodIn wsX4_open (wsV RX4 117 RX4 yX4_told0 wsX4_told0) := goodIn_app (goodIn_of _ (by decide +kernel)) ggX4_open_X4_told0
theorem dX4_open_0 : decode cX4_open 0 = .ok (.iload_n 1, 1) := by decide +kernel
theorem dX4_open_1 : decode cX4_open 1 = .ok (.invokestatic 60, 3) := by decide +kernel
theorem dX4_open_4 : decode cX4_open 4 = .ok (.ifCond .ne 6, 3) := by decide +kernel
theorem dX4_open_7 : decode cX4_open 7 = .ok (.bipush (-6), 2) := by decide +kernel
theorem dX4_open_9 : decode cX4_open 9 = .ok (.ireturn, 1) := by decide +kernel
theorem dX4_open_10 : decode cX4_open 10 = .ok (.aload_n 0, 1) := by decide +kernel
theorem dX4_open_11 : decode cX4_open 11 = .ok (.iload_n 1, 1) := by decide +kernel
theorem dX4_open_12 : decode cX4_open 12 = .ok (.invokevirtual 109, 3) := by decide +kernel
theorem dX4_open_15 : decode cX4_open 15 = .ok (.aload_n 0, 1) := by decide +kernel
theorem dX4_open_16 : decode cX4_open 16 = .ok (.aload_n 0, 1) := by decide +kernel
theorem dX4_open_17 : decode cX4_open 17 = .ok (.iload_n 1, 1) := by decide +kernel
theorem dX4_open_18 : decode cX4_open 18 = .ok (.iload_n 2, 1) := by decide +kernel
theorem dX4_open_19 : decode cX4_open 19 = .ok (.iload_n 1, 1) := by decide +kernel
theorem dX4_open_20 : decode cX4_open 20 = .ok (.iload_n 2, 1) := by decide +kernel
theorem dX4_open_21 : decode cX4_open 21 = .ok (.iload_n 3, 1) := by decide +kernel
theorem dX4_open_22 : decode cX4_open 22 = .ok (.iadd, 1) := by decide +kernel
theorem dX4_open_23 : decode cX4_open 23 = .ok (.aload_n 0, 1) := by decide +kernel
theorem dX4_open_24 : decode cX4_open 24 = .ok (.iload_n 1, 1) := by decide +kernel
theorem dX4_open_25 : decode cX4_open 25 = .ok (.invokevirtual 88, 3) := by decide +kernel
theorem dX4_open_28 : decode cX4_open 28 = .ok (.iload_n 2, 1) := by decide +kernel
theorem dX4_open_29 : decode cX4_open 29 = .ok (.isub, 1) := by decide +kernel
theorem dX4_open_30 : decode cX4_open 30 = .ok (.iload_n 3, 1) := by decide +kernel
theorem dX4_open_31 : decode cX4_open 31 = .ok (.isub, 1) := by decide +kernel
theorem dX4_open_32 : decode cX4_open 32 = .ok (.invokevirtual 113, 3) := by decide +kernel
theorem dX4_open_35 : decode cX4_open 35 = .ok (.invokevirtual 117, 3) := by decide +kernel
theorem dX4_open_38 : decode cX4_open 38 = .ok (.ireturn, 1) := by decide +kernel
set_option maxRecDepth 20000 in
theorem ggX4_close_X4_isTray : GoodIn wsX4_close wsX4_isTray := goodIn_r _ [4, 5, 6, 3, 7] (by decide +kernel) (by decide +kernel)
set_option maxRecDepth 20000 in
theorem gX4_close_X4_isTray : GoodIn wsX4_close (va_wsS RX4 60 yX4_isTray wsX4_isTray) := goodIn_app (goodIn_of _ (by decide +kernel)) ggX4_close_X4_isTray
set_option maxRecDepth 20000 in
theorem ggX4_close_X4_keep : GoodIn wsX4_close wsX4_keep := goodIn_r _ [11, 12, 13, 14, 15, 16, 17, 3, 18, 19, 20, 21, 22, 23, 24, 25, 26, 27, 28, 29, 30, 58, 59, 60, 61, 62, 63, 64, 65, 66, 67, 68, 69, 70, 71, 72, 73] (by decide +kernel) (by decide +kernel)
set_option maxRecDepth 20000 in
theorem gX4_close_X4_keep : GoodIn wsX4_close (wsV RX4 109 RX4 yX4_keep wsX4_keep) := goodIn_app (goodIn_of _ (by decide +kernel)) ggX4_close_X4_keep
set_option maxRecDepth 20000 in
theorem ggX4_close_X4_sizeOf : GoodIn wsX4_close wsX4_sizeOf := goodIn_r _ [23, 24, 12, 15, 16, 17, 3, 18, 19, 58, 59, 60, 61, 62, 63, 64, 65, 66, 67, 68, 69, 70, 71, 72, 73] (by decide +kernel) (by decide +kernel)
set_option maxRecDepth 20000 in
theorem gX4_close_X4_sizeOf : GoodIn wsX4_close (wsV RX4 88 RX4 yX4_sizeOf wsX4_sizeOf) := goodIn_app (goodIn_of _ (by decide +kernel)) ggX4_close_X4_sizeOf
set_option maxRecDepth 20000 in
theorem ggX4_close_X4_moved : GoodIn wsX4_close wsX4_moved := goodIn_r _ [34, 35, 36, 19, 37, 38, 39, 3, 40, 41, 42, 43, 5, 6, 7, 20, 21, 22, 23, 24, 12, 15, 16, 17, 18, 25, 26, 27, 28, 29, 30, 44, 45, 46, 47, 48, 49, 50, 51, 52, 58, 59, 60, 61, 62, 63, 64, 65, 66, 67, 68, 69, 70, 71, 72, 73] (by decide +kernel) (by decide +kernel)
set_option maxRecDepth 20000 in
theorem gX4_close_X4_moved : GoodIn wsX4_close (wsV RX4 113 RX4 yX4_moved wsX4_moved) := goodIn_app (goodIn_of _ (by decide +kernel)) ggX4_close_X4_moved
set_option maxRecDepth 20000 in
theorem ggX4_close_X4_told0 : GoodIn wsX4_close wsX4_told0 := goodIn_r _ [56, 57, 58, 59, 60, 61, 62, 63, 64, 65, 66, 67, 68, 69, 70, 71, 72, 73] (by decide +kernel) (by decide +kernel)
set_option maxRecDepth 20000 in
theorem gX4_close_X4_told0 : GoodIn wsX4_close (wsV RX4 117 RX4 yX4_told0 wsX4_told0) := goodIn_app (goodIn_of _ (by decide +kernel)) ggX4_close_X4_told0
theorem dX4_close_0 : decode cX4_close 0 = .ok (.iload_n 1, 1) := by decide +kernel
theorem dX4_close_1 : decode cX4_close 1 = .ok (.invokestatic 60, 3) := by decide +kernel
theorem dX4_close_4 : decode cX4_close 4 = .ok (.ifCond .ne 6, 3) := by decide +kernel
theorem dX4_close_7 : decode cX4_close 7 = .ok (.bipush (-6), 2) := by decide +kernel
theorem dX4_close_9 : decode cX4_close 9 = .ok (.ireturn, 1) := by decide +kernel
theorem dX4_close_10 : decode cX4_close 10 = .ok (.aload_n 0, 1) := by decide +kernel
theorem dX4_close_11 : decode cX4_close 11 = .ok (.iload_n 1, 1) := by decide +kernel
theorem dX4_close_12 : decode cX4_close 12 = .ok (.invokevirtual 109, 3) := by decide +kernel
theorem dX4_close_15 : decode cX4_close 15 = .ok (.aload_n 0, 1) := by decide +kernel
theorem dX4_close_16 : decode cX4_close 16 = .ok (.aload_n 0, 1) := by decide +kernel
theorem dX4_close_17 : decode cX4_close 17 = .ok (.iload_n 1, 1) := by decide +kernel
theorem dX4_close_18 : decode cX4_close 18 = .ok (.iload_n 2, 1) := by decide +kernel
theorem dX4_close_19 : decode cX4_close 19 = .ok (.iload_n 3, 1) := by decide +kernel
theorem dX4_close_20 : decode cX4_close 20 = .ok (.iadd, 1) := by decide +kernel
theorem dX4_close_21 : decode cX4_close 21 = .ok (.iload_n 1, 1) := by decide +kernel
theorem dX4_close_22 : decode cX4_close 22 = .ok (.iload_n 2, 1) := by decide +kernel
theorem dX4_close_23 : decode cX4_close 23 = .ok (.aload_n 0, 1) := by decide +kernel
theorem dX4_close_24 : decode cX4_close 24 = .ok (.iload_n 1, 1) := by decide +kernel
theorem dX4_close_25 : decode cX4_close 25 = .ok (.invokevirtual 88, 3) := by decide +kernel
theorem dX4_close_28 : decode cX4_close 28 = .ok (.iload_n 2, 1) := by decide +kernel
theorem dX4_close_29 : decode cX4_close 29 = .ok (.isub, 1) := by decide +kernel
theorem dX4_close_30 : decode cX4_close 30 = .ok (.iload_n 3, 1) := by decide +kernel
theorem dX4_close_31 : decode cX4_close 31 = .ok (.isub, 1) := by decide +kernel
theorem dX4_close_32 : decode cX4_close 32 = .ok (.invokevirtual 113, 3) := by decide +kernel
theorem dX4_close_35 : decode cX4_close 35 = .ok (.invokevirtual 117, 3) := by decide +kernel
theorem dX4_close_38 : decode cX4_close 38 = .ok (.ireturn, 1) := by decide +kernel
set_option maxRecDepth 20000 in
theorem ggX4_turn_X4_isTray : GoodIn wsX4_turn wsX4_isTray := goodIn_r _ [5, 6, 7, 4, 8] (by decide +kernel) (by decide +kernel)
set_option maxRecDepth 20000 in
theorem gX4_turn_X4_isTray : GoodIn wsX4_turn (va_wsS RX4 60 yX4_isTray wsX4_isTray) := goodIn_app (goodIn_of _ (by decide +kernel)) ggX4_turn_X4_isTray
set_option maxRecDepth 20000 in
theorem ggX4_turn_X4_keep : GoodIn wsX4_turn wsX4_keep := goodIn_r _ [12, 13, 14, 1, 15, 16, 17, 4, 18, 19, 20, 21, 22, 23, 24, 25, 26, 27, 28, 29, 30, 44, 45, 46, 47, 48, 49, 50, 51, 52, 53, 54, 55, 56, 57, 58, 59] (by decide +kernel) (by decide +kernel)
set_option maxRecDepth 20000 in
theorem gX4_turn_X4_keep : GoodIn wsX4_turn (wsV RX4 109 RX4 yX4_keep wsX4_keep) := goodIn_app (goodIn_of _ (by decide +kernel)) ggX4_turn_X4_keep
set_option maxRecDepth 20000 in
theorem ggX4_turn_X4_isRow : GoodIn wsX4_turn wsX4_isRow := goodIn_r _ [18, 19, 44, 45, 46, 47, 48, 49, 50, 51, 52, 53, 54, 55, 56, 57, 58, 59] (by decide +kernel) (by decide +kernel)
set_option maxRecDepth 20000 in
theorem gX4_turn_X4_isRow : GoodIn wsX4_turn (wsV RX4 53 RX4 yX4_isRow wsX4_isRow) := goodIn_app (goodIn_of _ (by decide +kernel)) ggX4_turn_X4_isRow
set_option maxRecDepth 20000 in
theorem ggX4_turn_X4_lacks : GoodIn wsX4_turn wsX4_lacks := goodIn_r _ [34, 19, 44, 45, 46, 47, 48, 49, 50, 51, 52, 53, 54, 55, 56, 57, 58, 59] (by decide +kernel) (by decide +kernel)
set_option maxRecDepth 20000 in
theorem gX4_turn_X4_lacks : GoodIn wsX4_turn (wsV RX4 74 RX4 yX4_lacks wsX4_lacks) := goodIn_app (goodIn_of _ (by decide +kernel)) ggX4_turn_X4_lacks
set_option maxRecDepth 20000 in
theorem ggX4_turn_X4_told0 : GoodIn wsX4_turn wsX4_told0 := goodIn_r _ [38, 39, 44, 45, 46, 47, 48, 49, 50, 51, 52, 53, 54, 55, 56, 57, 58, 59] (by decide +kernel) (by decide +kernel)
set_option maxRecDepth 20000 in
theorem gX4_turn_X4_told0 : GoodIn wsX4_turn (wsV RX4 117 RX4 yX4_told0 wsX4_told0) := goodIn_app (goodIn_of _ (by decide +kernel)) ggX4_turn_X4_told0
set_option maxRecDepth 20000 in
theorem ggX4_turn_X4_sizeOf : GoodIn wsX4_turn wsX4_sizeOf := goodIn_r _ [23, 24, 13, 15, 16, 17, 4, 18, 19, 44, 45, 46, 47, 48, 49, 50, 51, 52, 53, 54, 55, 56, 57, 58, 59] (by decide +kernel) (by decide +kernel)
set_option maxRecDepth 20000 in
theorem gX4_turn_X4_sizeOf : GoodIn wsX4_turn (wsV RX4 88 RX4 yX4_sizeOf wsX4_sizeOf) := goodIn_app (goodIn_of _ (by decide +kernel)) ggX4_turn_X4_sizeOf
set_option maxRecDepth 20000 in
theorem ggX4_turn_X4_set : GoodIn wsX4_turn wsX4_set := goodIn_r _ [43, 29, 30, 13, 44, 45, 46, 47, 48, 49, 50, 51, 52, 53, 54, 55, 56, 57, 58, 59] (by decide +kernel) (by decide +kernel)
set_option maxRecDepth 20000 in
theorem gX4_turn_X4_set : GoodIn wsX4_turn (wsV RX4 95 RX4 yX4_set wsX4_set) := goodIn_app (goodIn_of _ (by decide +kernel)) ggX4_turn_X4_set
theorem dX4_turn_0 : decode cX4_turn 0 = .ok (.iload_n 1, 1) := by decide +kernel
theorem dX4_turn_1 : decode cX4_turn 1 = .ok (.invokestatic 60, 3) := by decide +kernel
theorem dX4_turn_4 : decode cX4_turn 4 = .ok (.ifCond .ne 6, 3) := by decide +kernel
theorem dX4_turn_7 : decode cX4_turn 7 = .ok (.bipush (-6), 2) := by decide +kernel
theorem dX4_turn_9 : decode cX4_turn 9 = .ok (.ireturn, 1) := by decide +kernel
theorem dX4_turn_10 : decode cX4_turn 10 = .ok (.aload_n 0, 1) := by decide +kernel
theorem dX4_turn_11 : decode cX4_turn 11 = .ok (.iload_n 1, 1) := by decide +kernel
theorem dX4_turn_12 : decode cX4_turn 12 = .ok (.invokevirtual 109, 3) := by decide +kernel
theorem dX4_turn_15 : decode cX4_turn 15 = .ok (.aload_n 0, 1) := by decide +kernel
theorem dX4_turn_16 : decode cX4_turn 16 = .ok (.iload_n 1, 1) := by decide +kernel
theorem dX4_turn_17 : decode cX4_turn 17 = .ok (.invokevirtual 53, 3) := by decide +kernel
theorem dX4_turn_20 : decode cX4_turn 20 = .ok (.ifCond .ne 13, 3) := by decide +kernel
theorem dX4_turn_23 : decode cX4_turn 23 = .ok (.aload_n 0, 1) := by decide +kernel
theorem dX4_turn_24 : decode cX4_turn 24 = .ok (.aload_n 0, 1) := by decide +kernel
theorem dX4_turn_25 : decode cX4_turn 25 = .ok (.iload_n 1, 1) := by decide +kernel
theorem dX4_turn_26 : decode cX4_turn 26 = .ok (.invokevirtual 74, 3) := by decide +kernel
theorem dX4_turn_29 : decode cX4_turn 29 = .ok (.invokevirtual 117, 3) := by decide +kernel
theorem dX4_turn_32 : decode cX4_turn 32 = .ok (.ireturn, 1) := by decide +kernel
theorem dX4_turn_33 : decode cX4_turn 33 = .ok (.aload_n 0, 1) := by decide +kernel
theorem dX4_turn_34 : decode cX4_turn 34 = .ok (.iload_n 1, 1) := by decide +kernel
theorem dX4_turn_35 : decode cX4_turn 35 = .ok (.invokevirtual 88, 3) := by decide +kernel
theorem dX4_turn_38 : decode cX4_turn 38 = .ok (.istore_n 3, 1) := by decide +kernel
theorem dX4_turn_39 : decode cX4_turn 39 = .ok (.iconst 0, 1) := by decide +kernel
theorem dX4_turn_40 : decode cX4_turn 40 = .ok (.istore 4, 2) := by decide +kernel
theorem dX4_turn_42 : decode cX4_turn 42 = .ok (.iload 4, 2) := by decide +kernel
theorem dX4_turn_44 : decode cX4_turn 44 = .ok (.iload_n 3, 1) := by decide +kernel
theorem dX4_turn_45 : decode cX4_turn 45 = .ok (.if_icmp .ge 50, 3) := by decide +kernel
theorem dX4_turn_48 : decode cX4_turn 48 = .ok (.iload 4, 2) := by decide +kernel
theorem dX4_turn_50 : decode cX4_turn 50 = .ok (.i2l, 1) := by decide +kernel
theorem dX4_turn_51 : decode cX4_turn 51 = .ok (.iload_n 2, 1) := by decide +kernel
theorem dX4_turn_52 : decode cX4_turn 52 = .ok (.i2l, 1) := by decide +kernel
theorem dX4_turn_53 : decode cX4_turn 53 = .ok (.ladd, 1) := by decide +kernel
theorem dX4_turn_54 : decode cX4_turn 54 = .ok (.iload_n 3, 1) := by decide +kernel
theorem dX4_turn_55 : decode cX4_turn 55 = .ok (.i2l, 1) := by decide +kernel
theorem dX4_turn_56 : decode cX4_turn 56 = .ok (.lrem, 1) := by decide +kernel
theorem dX4_turn_57 : decode cX4_turn 57 = .ok (.lstore 5, 2) := by decide +kernel
theorem dX4_turn_59 : decode cX4_turn 59 = .ok (.aload_n 0, 1) := by decide +kernel
theorem dX4_turn_60 : decode cX4_turn 60 = .ok (.iload_n 1, 1) := by decide +kernel
theorem dX4_turn_61 : decode cX4_turn 61 = .ok (.iload 4, 2) := by decide +kernel
theorem dX4_turn_63 : decode cX4_turn 63 = .ok (.aload_n 0, 1) := by decide +kernel
theorem dX4_turn_64 : decode cX4_turn 64 = .ok (.getfield 39, 3) := by decide +kernel
theorem dX4_turn_67 : decode cX4_turn 67 = .ok (.lload 5, 2) := by decide +kernel
theorem dX4_turn_69 : decode cX4_turn 69 = .ok (.lconst 0, 1) := by decide +kernel
theorem dX4_turn_70 : decode cX4_turn 70 = .ok (.lcmp, 1) := by decide +kernel
theorem dX4_turn_71 : decode cX4_turn 71 = .ok (.ifCond .ge 11, 3) := by decide +kernel
theorem dX4_turn_74 : decode cX4_turn 74 = .ok (.lload 5, 2) := by decide +kernel
theorem dX4_turn_76 : decode cX4_turn 76 = .ok (.iload_n 3, 1) := by decide +kernel
theorem dX4_turn_77 : decode cX4_turn 77 = .ok (.i2l, 1) := by decide +kernel
theorem dX4_turn_78 : decode cX4_turn 78 = .ok (.ladd, 1) := by decide +kernel
theorem dX4_turn_79 : decode cX4_turn 79 = .ok (.goto 5, 3) := by decide +kernel
theorem dX4_turn_82 : decode cX4_turn 82 = .ok (.lload 5, 2) := by decide +kernel
theorem dX4_turn_84 : decode cX4_turn 84 = .ok (.l2i, 1) := by decide +kernel
theorem dX4_turn_85 : decode cX4_turn 85 = .ok (.laload, 1) := by decide +kernel
theorem dX4_turn_86 : decode cX4_turn 86 = .ok (.invokevirtual 95, 3) := by decide +kernel
theorem dX4_turn_89 : decode cX4_turn 89 = .ok (.iinc 4 1, 3) := by decide +kernel
theorem dX4_turn_92 : decode cX4_turn 92 = .ok (.goto (-50), 3) := by decide +kernel
theorem dX4_turn_95 : decode cX4_turn 95 = .ok (.aload_n 0, 1) := by decide +kernel
theorem dX4_turn_96 : decode cX4_turn 96 = .ok (.iload_n 3, 1) := by decide +kernel
theorem dX4_turn_97 : decode cX4_turn 97 = .ok (.invokevirtual 117, 3) := by decide +kernel
theorem dX4_turn_100 : decode cX4_turn 100 = .ok (.ireturn, 1) := by decide +kernel
set_option maxRecDepth 20000 in
theorem ggX4_spread_X4_isTray : GoodIn wsX4_spread wsX4_isTray := goodIn_r _ [5, 6, 7, 4, 8] (by decide +kernel) (by decide +kernel)
set_option maxRecDepth 20000 in
theorem gX4_spread_X4_isTray : GoodIn wsX4_spread (va_wsS RX4 60 yX4_isTray wsX4_isTray) := goodIn_app (goodIn_of _ (by decide +kernel)) ggX4_spread_X4_isTray
set_option maxRecDepth 20000 in
theorem ggX4_spread_X4_keep : GoodIn wsX4_spread wsX4_keep := goodIn_r _ [12, 13, 14, 1, 15, 16, 17, 4, 18, 19, 20, 21, 22, 23, 24, 25, 26, 27, 28, 29, 30, 44, 45, 46, 47, 48, 49, 50, 51, 52, 53, 54, 55, 56, 57, 58, 59] (by decide +kernel) (by decide +kernel)
set_option maxRecDepth 20000 in
theorem gX4_spread_X4_keep : GoodIn wsX4_spread (wsV RX4 109 RX4 yX4_keep wsX4_keep) := goodIn_app (goodIn_of _ (by decide +kernel)) ggX4_spread_X4_keep
set_option maxRecDepth 20000 in
theorem ggX4_spread_X4_isRow : GoodIn wsX4_spread wsX4_isRow := goodIn_r _ [18, 19, 44, 45, 46, 47, 48, 49, 50, 51, 52, 53, 54, 55, 56, 57, 58, 59] (by decide +kernel) (by decide +kernel)
set_option maxRecDepth 20000 in
theorem gX4_spread_X4_isRow : GoodIn wsX4_spread (wsV RX4 53 RX4 yX4_isRow wsX4_isRow) := goodIn_app (goodIn_of _ (by decide +kernel)) ggX4_spread_X4_isRow
set_option maxRecDepth 20000 in
theorem ggX4_spread_X4_lacks : GoodIn wsX4_spread wsX4_lacks := goodIn_r _ [34, 19, 44, 45, 46, 47, 48, 49, 50, 51, 52, 53, 54, 55, 56, 57, 58, 59] (by decide +kernel) (by decide +kernel)
set_option maxRecDepth 20000 in
theorem gX4_spread_X4_lacks : GoodIn wsX4_spread (wsV RX4 74 RX4 yX4_lacks wsX4_lacks) := goodIn_app (goodIn_of _ (by decide +kernel)) ggX4_spread_X4_lacks
set_option maxRecDepth 20000 in
theorem ggX4_spread_X4_told0 : GoodIn wsX4_spread wsX4_told0 := goodIn_r _ [38, 39, 44, 45, 46, 47, 48, 49, 50, 51, 52, 53, 54, 55, 56, 57, 58, 59] (by decide +kernel) (by decide +kernel)
set_option maxRecDepth 20000 in
theorem gX4_spread_X4_told0 : GoodIn wsX4_spread (wsV RX4 117 RX4 yX4_told0 wsX4_told0) := goodIn_app (goodIn_of _ (by decide +kernel)) ggX4_spread_X4_told0
set_option maxRecDepth 20000 in
theorem ggX4_spread_X4_sizeOf : GoodIn wsX4_spread wsX4_sizeOf := goodIn_r _ [23, 24, 13, 15, 16, 17, 4, 18, 19, 44, 45, 46, 47, 48, 49, 50, 51, 52, 53, 54, 55, 56, 57, 58, 59] (by decide +kernel) (by decide +kernel)
set_option maxRecDepth 20000 in
theorem gX4_spread_X4_sizeOf : GoodIn wsX4_spread (wsV RX4 88 RX4 yX4_sizeOf wsX4_sizeOf) := goodIn_app (goodIn_of _ (by decide +kernel)) ggX4_spread_X4_sizeOf
set_option maxRecDepth 20000 in
theorem ggX4_spread_X4_in : GoodIn wsX4_spread wsX4_in := goodIn_r _ [8] (by decide +kernel) (by decide +kernel)
set_option maxRecDepth 20000 in
theorem gX4_spread_X4_in : GoodIn wsX4_spread (va_wsS RX4 49 yX4_in wsX4_in) := goodIn_app (goodIn_of _ (by decide +kernel)) ggX4_spread_X4_in
set_option maxRecDepth 20000 in
theorem ggX4_spread_X4_set : GoodIn wsX4_spread wsX4_set := goodIn_r _ [43, 29, 30, 13, 44, 45, 46, 47, 48, 49, 50, 51, 52, 53, 54, 55, 56, 57, 58, 59] (by decide +kernel) (by decide +kernel)
set_option maxRecDepth 20000 in
theorem gX4_spread_X4_set : GoodIn wsX4_spread (wsV RX4 95 RX4 yX4_set wsX4_set) := goodIn_app (goodIn_of _ (by decide +kernel)) ggX4_spread_X4_set
theorem dX4_spread_0 : decode cX4_spread 0 = .ok (.iload_n 1, 1) := by decide +kernel
theorem dX4_spread_1 : decode cX4_spread 1 = .ok (.invokestatic 60, 3) := by decide +kernel
theorem dX4_spread_4 : decode cX4_spread 4 = .ok (.ifCond .ne 6, 3) := by decide +kernel
theorem dX4_spread_7 : decode cX4_spread 7 = .ok (.bipush (-6), 2) := by decide +kernel
theorem dX4_spread_9 : decode cX4_spread 9 = .ok (.ireturn, 1) := by decide +kernel
theorem dX4_spread_10 : decode cX4_spread 10 = .ok (.aload_n 0, 1) := by decide +kernel
theorem dX4_spread_11 : decode cX4_spread 11 = .ok (.iload_n 1, 1) := by decide +kernel
theorem dX4_spread_12 : decode cX4_spread 12 = .ok (.invokevirtual 109, 3) := by decide +kernel
theorem dX4_spread_15 : decode cX4_spread 15 = .ok (.aload_n 0, 1) := by decide +kernel
theorem dX4_spread_16 : decode cX4_spread 16 = .ok (.iload_n 1, 1) := by decide +kernel
theorem dX4_spread_17 : decode cX4_spread 17 = .ok (.invokevirtual 53, 3) := by decide +kernel
theorem dX4_spread_20 : decode cX4_spread 20 = .ok (.ifCond .ne 13, 3) := by decide +kernel
theorem dX4_spread_23 : decode cX4_spread 23 = .ok (.aload_n 0, 1) := by decide +kernel
theorem dX4_spread_24 : decode cX4_spread 24 = .ok (.aload_n 0, 1) := by decide +kernel
theorem dX4_spread_25 : decode cX4_spread 25 = .ok (.iload_n 1, 1) := by decide +kernel
theorem dX4_spread_26 : decode cX4_spread 26 = .ok (.invokevirtual 74, 3) := by decide +kernel
theorem dX4_spread_29 : decode cX4_spread 29 = .ok (.invokevirtual 117, 3) := by decide +kernel
theorem dX4_spread_32 : decode cX4_spread 32 = .ok (.ireturn, 1) := by decide +kernel
theorem dX4_spread_33 : decode cX4_spread 33 = .ok (.aload_n 0, 1) := by decide +kernel
theorem dX4_spread_34 : decode cX4_spread 34 = .ok (.iload_n 1, 1) := by decide +kernel
theorem dX4_spread_35 : decode cX4_spread 35 = .ok (.invokevirtual 88, 3) := by decide +kernel
theorem dX4_spread_38 : decode cX4_spread 38 = .ok (.istore_n 3, 1) := by decide +kernel
theorem dX4_spread_39 : decode cX4_spread 39 = .ok (.iload_n 2, 1) := by decide +kernel
theorem dX4_spread_40 : decode cX4_spread 40 = .ok (.iconst 1, 1) := by decide +kernel
theorem dX4_spread_41 : decode cX4_spread 41 = .ok (.iload_n 3, 1) := by decide +kernel
theorem dX4_spread_42 : decode cX4_spread 42 = .ok (.invokestatic 49, 3) := by decide +kernel
theorem dX4_spread_45 : decode cX4_spread 45 = .ok (.ifCond .ne 10, 3) := by decide +kernel
theorem dX4_spread_48 : decode cX4_spread 48 = .ok (.aload_n 0, 1) := by decide +kernel
theorem dX4_spread_49 : decode cX4_spread 49 = .ok (.bipush (-4), 2) := by decide +kernel
theorem dX4_spread_51 : decode cX4_spread 51 = .ok (.invokevirtual 117, 3) := by decide +kernel
theorem dX4_spread_54 : decode cX4_spread 54 = .ok (.ireturn, 1) := by decide +kernel
theorem dX4_spread_55 : decode cX4_spread 55 = .ok (.iload_n 2, 1) := by decide +kernel
theorem dX4_spread_56 : decode cX4_spread 56 = .ok (.istore 4, 2) := by decide +kernel
theorem dX4_spread_58 : decode cX4_spread 58 = .ok (.iload 4, 2) := by decide +kernel
theorem dX4_spread_60 : decode cX4_spread 60 = .ok (.iload_n 3, 1) := by decide +kernel
theorem dX4_spread_61 : decode cX4_spread 61 = .ok (.if_icmp .ge 25, 3) := by decide +kernel
theorem dX4_spread_64 : decode cX4_spread 64 = .ok (.aload_n 0, 1) := by decide +kernel
theorem dX4_spread_65 : decode cX4_spread 65 = .ok (.iload_n 1, 1) := by decide +kernel
theorem dX4_spread_66 : decode cX4_spread 66 = .ok (.iload 4, 2) := by decide +kernel
theorem dX4_spread_68 : decode cX4_spread 68 = .ok (.aload_n 0, 1) := by decide +kernel
theorem dX4_spread_69 : decode cX4_spread 69 = .ok (.getfield 39, 3) := by decide +kernel
theorem dX4_spread_72 : decode cX4_spread 72 = .ok (.iload 4, 2) := by decide +kernel
theorem dX4_spread_74 : decode cX4_spread 74 = .ok (.iload_n 2, 1) := by decide +kernel
theorem dX4_spread_75 : decode cX4_spread 75 = .ok (.irem, 1) := by decide +kernel
theorem dX4_spread_76 : decode cX4_spread 76 = .ok (.laload, 1) := by decide +kernel
theorem dX4_spread_77 : decode cX4_spread 77 = .ok (.invokevirtual 95, 3) := by decide +kernel
theorem dX4_spread_80 : decode cX4_spread 80 = .ok (.iinc 4 1, 3) := by decide +kernel
theorem dX4_spread_83 : decode cX4_spread 83 = .ok (.goto (-25), 3) := by decide +kernel
theorem dX4_spread_86 : decode cX4_spread 86 = .ok (.aload_n 0, 1) := by decide +kernel
theorem dX4_spread_87 : decode cX4_spread 87 = .ok (.iload_n 3, 1) := by decide +kernel
theorem dX4_spread_88 : decode cX4_spread 88 = .ok (.invokevirtual 117, 3) := by decide +kernel
theorem dX4_spread_91 : decode cX4_spread 91 = .ok (.ireturn, 1) := by decide +kernel
theorem dX4_undo_0 : decode cX4_undo 0 = .ok (.aload_n 0, 1) := by decide +kernel
theorem dX4_undo_1 : decode cX4_undo 1 = .ok (.getfield 42, 3) := by decide +kernel
theorem dX4_undo_4 : decode cX4_undo 4 = .ok (.iconst (-1), 1) := by decide +kernel
theorem dX4_undo_5 : decode cX4_undo 5 = .ok (.if_icmp .ne 5, 3) := by decide +kernel
theorem dX4_undo_8 : decode cX4_undo 8 = .ok (.iconst (-1), 1) := by decide +kernel
theorem dX4_undo_9 : decode cX4_undo 9 = .ok (.ireturn, 1) := by decide +kernel
theorem dX4_undo_10 : decode cX4_undo 10 = .ok (.aload_n 0, 1) := by decide +kernel
theorem dX4_undo_11 : decode cX4_undo 11 = .ok (.getfield 22, 3) := by decide +kernel
theorem dX4_undo_14 : decode cX4_undo 14 = .ok (.aload_n 0, 1) := by decide +kernel
theorem dX4_undo_15 : decode cX4_undo 15 = .ok (.getfield 42, 3) := by decide +kernel
theorem dX4_undo_18 : decode cX4_undo 18 = .ok (.iaload, 1) := by decide +kernel
theorem dX4_undo_19 : decode cX4_undo 19 = .ok (.istore_n 1, 1) := by decide +kernel
theorem dX4_undo_20 : decode cX4_undo 20 = .ok (.iconst 0, 1) := by decide +kernel
theorem dX4_undo_21 : decode cX4_undo 21 = .ok (.istore_n 2, 1) := by decide +kernel
theorem dX4_undo_22 : decode cX4_undo 22 = .ok (.iload_n 2, 1) := by decide +kernel
theorem dX4_undo_23 : decode cX4_undo 23 = .ok (.iload_n 1, 1) := by decide +kernel
theorem dX4_undo_24 : decode cX4_undo 24 = .ok (.if_icmp .ge 31, 3) := by decide +kernel
theorem dX4_undo_27 : decode cX4_undo 27 = .ok (.aload_n 0, 1) := by decide +kernel
theorem dX4_undo_28 : decode cX4_undo 28 = .ok (.getfield 26, 3) := by decide +kernel
theorem dX4_undo_31 : decode cX4_undo 31 = .ok (.aload_n 0, 1) := by decide +kernel
theorem dX4_undo_32 : decode cX4_undo 32 = .ok (.getfield 19, 3) := by decide +kernel
theorem dX4_undo_35 : decode cX4_undo 35 = .ok (.aload_n 0, 1) := by decide +kernel
theorem dX4_undo_36 : decode cX4_undo 36 = .ok (.getfield 42, 3) := by decide +kernel
theorem dX4_undo_39 : decode cX4_undo 39 = .ok (.iaload, 1) := by decide +kernel
theorem dX4_undo_40 : decode cX4_undo 40 = .ok (.iload_n 2, 1) := by decide +kernel
theorem dX4_undo_41 : decode cX4_undo 41 = .ok (.iadd, 1) := by decide +kernel
theorem dX4_undo_42 : decode cX4_undo 42 = .ok (.aload_n 0, 1) := by decide +kernel
theorem dX4_undo_43 : decode cX4_undo 43 = .ok (.getfield 39, 3) := by decide +kernel
theorem dX4_undo_46 : decode cX4_undo 46 = .ok (.iload_n 2, 1) := by decide +kernel
theorem dX4_undo_47 : decode cX4_undo 47 = .ok (.laload, 1) := by decide +kernel
theorem dX4_undo_48 : decode cX4_undo 48 = .ok (.lastore, 1) := by decide +kernel
theorem dX4_undo_49 : decode cX4_undo 49 = .ok (.iinc 2 1, 3) := by decide +kernel
theorem dX4_undo_52 : decode cX4_undo 52 = .ok (.goto (-30), 3) := by decide +kernel
theorem dX4_undo_55 : decode cX4_undo 55 = .ok (.aload_n 0, 1) := by decide +kernel
theorem dX4_undo_56 : decode cX4_undo 56 = .ok (.iconst (-1), 1) := by decide +kernel
theorem dX4_undo_57 : decode cX4_undo 57 = .ok (.putfield 42, 3) := by decide +kernel
theorem dX4_undo_60 : decode cX4_undo 60 = .ok (.iload_n 1, 1) := by decide +kernel
theorem dX4_undo_61 : decode cX4_undo 61 = .ok (.ireturn, 1) := by decide +kernel
set_option maxRecDepth 20000 in
theorem ggX4_match_X4_isTray : GoodIn wsX4_match wsX4_isTray := goodIn_r _ [4, 5, 6, 3, 7] (by decide +kernel) (by decide +kernel)
set_option maxRecDepth 20000 in
theorem gX4_match_X4_isTray : GoodIn wsX4_match (va_wsS RX4 60 yX4_isTray wsX4_isTray) := goodIn_app (goodIn_of _ (by decide +kernel)) ggX4_match_X4_isTray
set_option maxRecDepth 20000 in
theorem ggX4_match_X4_unlike : GoodIn wsX4_match wsX4_unlike := goodIn_r _ [11, 12, 13, 14, 3, 15, 5, 6, 7, 32, 33, 34, 35, 36, 37, 38, 39, 40, 41, 42, 43, 44, 45, 46, 47] (by decide +kernel) (by decide +kernel)
set_option maxRecDepth 20000 in
theorem gX4_match_X4_unlike : GoodIn wsX4_match (wsV RX4 105 RX4 yX4_unlike wsX4_unlike) := goodIn_app (goodIn_of _ (by decide +kernel)) ggX4_match_X4_unlike
set_option maxRecDepth 20000 in
theorem ggX4_match_X4_sizeOf : GoodIn wsX4_match wsX4_sizeOf := goodIn_r _ [19, 20, 21, 22, 23, 24, 3, 25, 12, 32, 33, 34, 35, 36, 37, 38, 39, 40, 41, 42, 43, 44, 45, 46, 47] (by decide +kernel) (by decide +kernel)
set_option maxRecDepth 20000 in
theorem gX4_match_X4_sizeOf : GoodIn wsX4_match (wsV RX4 88 RX4 yX4_sizeOf wsX4_sizeOf) := goodIn_app (goodIn_of _ (by decide +kernel)) ggX4_match_X4_sizeOf
set_option maxRecDepth 20000 in
theorem ggX4_match_X4_get : GoodIn wsX4_match wsX4_get := goodIn_r _ [29, 30, 31, 21, 32, 33, 34, 35, 36, 37, 38, 39, 40, 41, 42, 43, 44, 45, 46, 47] (by decide +kernel) (by decide +kernel)
set_option maxRecDepth 20000 in
theorem gX4_match_X4_get : GoodIn wsX4_match (wsV RX4 99 RX4 yX4_get wsX4_get) := goodIn_app (goodIn_of _ (by decide +kernel)) ggX4_match_X4_get
theorem dX4_match_0 : decode cX4_match 0 = .ok (.iload_n 1, 1) := by decide +kernel
theorem dX4_match_1 : decode cX4_match 1 = .ok (.invokestatic 60, 3) := by decide +kernel
theorem dX4_match_4 : decode cX4_match 4 = .ok (.ifCond .eq 10, 3) := by decide +kernel
theorem dX4_match_7 : decode cX4_match 7 = .ok (.iload_n 3, 1) := by decide +kernel
theorem dX4_match_8 : decode cX4_match 8 = .ok (.invokestatic 60, 3) := by decide +kernel
theorem dX4_match_11 : decode cX4_match 11 = .ok (.ifCond .ne 6, 3) := by decide +kernel
theorem dX4_match_14 : decode cX4_match 14 = .ok (.bipush (-6), 2) := by decide +kernel
theorem dX4_match_16 : decode cX4_match 16 = .ok (.ireturn, 1) := by decide +kernel
theorem dX4_match_17 : decode cX4_match 17 = .ok (.aload_n 0, 1) := by decide +kernel
theorem dX4_match_18 : decode cX4_match 18 = .ok (.iload_n 1, 1) := by decide +kernel
theorem dX4_match_19 : decode cX4_match 19 = .ok (.iload_n 3, 1) := by decide +kernel
theorem dX4_match_20 : decode cX4_match 20 = .ok (.invokevirtual 105, 3) := by decide +kernel
theorem dX4_match_23 : decode cX4_match 23 = .ok (.istore 6, 2) := by decide +kernel
theorem dX4_match_25 : decode cX4_match 25 = .ok (.iload 6, 2) := by decide +kernel
theorem dX4_match_27 : decode cX4_match 27 = .ok (.ifCond .ge 6, 3) := by decide +kernel
theorem dX4_match_30 : decode cX4_match 30 = .ok (.iload 6, 2) := by decide +kernel
theorem dX4_match_32 : decode cX4_match 32 = .ok (.ireturn, 1) := by decide +kernel
theorem dX4_match_33 : decode cX4_match 33 = .ok (.iload_n 2, 1) := by decide +kernel
theorem dX4_match_34 : decode cX4_match 34 = .ok (.ifCond .lt 32, 3) := by decide +kernel
theorem dX4_match_37 : decode cX4_match 37 = .ok (.iload 4, 2) := by decide +kernel
theorem dX4_match_39 : decode cX4_match 39 = .ok (.ifCond .lt 27, 3) := by decide +kernel
theorem dX4_match_42 : decode cX4_match 42 = .ok (.iload 5, 2) := by decide +kernel
theorem dX4_match_44 : decode cX4_match 44 = .ok (.ifCond .lt 22, 3) := by decide +kernel
theorem dX4_match_47 : decode cX4_match 47 = .ok (.iload_n 2, 1) := by decide +kernel
theorem dX4_match_48 : decode cX4_match 48 = .ok (.aload_n 0, 1) := by decide +kernel
theorem dX4_match_49 : decode cX4_match 49 = .ok (.iload_n 1, 1) := by decide +kernel
theorem dX4_match_50 : decode cX4_match 50 = .ok (.invokevirtual 88, 3) := by decide +kernel
theorem dX4_match_53 : decode cX4_match 53 = .ok (.if_icmp .gt 13, 3) := by decide +kernel
theorem dX4_match_56 : decode cX4_match 56 = .ok (.iload 4, 2) := by decide +kernel
theorem dX4_match_58 : decode cX4_match 58 = .ok (.aload_n 0, 1) := by decide +kernel
theorem dX4_match_59 : decode cX4_match 59 = .ok (.iload_n 3, 1) := by decide +kernel
theorem dX4_match_60 : decode cX4_match 60 = .ok (.invokevirtual 88, 3) := by decide +kernel
theorem dX4_match_63 : decode cX4_match 63 = .ok (.if_icmp .le 6, 3) := by decide +kernel
theorem dX4_match_66 : decode cX4_match 66 = .ok (.bipush (-4), 2) := by decide +kernel
theorem dX4_match_68 : decode cX4_match 68 = .ok (.ireturn, 1) := by decide +kernel
theorem dX4_match_69 : decode cX4_match 69 = .ok (.iconst 0, 1) := by decide +kernel
theorem dX4_match_70 : decode cX4_match 70 = .ok (.istore 7, 2) := by decide +kernel
theorem dX4_match_72 : decode cX4_match 72 = .ok (.iload 7, 2) := by decide +kernel
theorem dX4_match_74 : decode cX4_match 74 = .ok (.iload 5, 2) := by decide +kernel
theorem dX4_match_76 : decode cX4_match 76 = .ok (.if_icmp .ge 57, 3) := by decide +kernel
theorem dX4_match_79 : decode cX4_match 79 = .ok (.iload_n 2, 1) := by decide +kernel
theorem dX4_match_80 : decode cX4_match 80 = .ok (.iload 7, 2) := by decide +kernel
theorem dX4_match_82 : decode cX4_match 82 = .ok (.iadd, 1) := by decide +kernel
theorem dX4_match_83 : decode cX4_match 83 = .ok (.aload_n 0, 1) := by decide +kernel
theorem dX4_match_84 : decode cX4_match 84 = .ok (.iload_n 1, 1) := by decide +kernel
theorem dX4_match_85 : decode cX4_match 85 = .ok (.invokevirtual 88, 3) := by decide +kernel
theorem dX4_match_88 : decode cX4_match 88 = .ok (.if_icmp .ge 45, 3) := by decide +kernel
theorem dX4_match_91 : decode cX4_match 91 = .ok (.iload 4, 2) := by decide +kernel
theorem dX4_match_93 : decode cX4_match 93 = .ok (.iload 7, 2) := by decide +kernel
theorem dX4_match_95 : decode cX4_match 95 = .ok (.iadd, 1) := by decide +kernel
theorem dX4_match_96 : decode cX4_match 96 = .ok (.aload_n 0, 1) := by decide +kernel
theorem dX4_match_97 : decode cX4_match 97 = .ok (.iload_n 3, 1) := by decide +kernel
theorem dX4_match_98 : decode cX4_match 98 = .ok (.invokevirtual 88, 3) := by decide +kernel
theorem dX4_match_101 : decode cX4_match 101 = .ok (.if_icmp .ge 32, 3) := by decide +kernel
theorem dX4_match_104 : decode cX4_match 104 = .ok (.aload_n 0, 1) := by decide +kernel
theorem dX4_match_105 : decode cX4_match 105 = .ok (.iload_n 1, 1) := by decide +kernel
theorem dX4_match_106 : decode cX4_match 106 = .ok (.iload_n 2, 1) := by decide +kernel
theorem dX4_match_107 : decode cX4_match 107 = .ok (.iload 7, 2) := by decide +kernel
theorem dX4_match_109 : decode cX4_match 109 = .ok (.iadd, 1) := by decide +kernel
theorem dX4_match_110 : decode cX4_match 110 = .ok (.invokevirtual 99, 3) := by decide +kernel
theorem dX4_match_113 : decode cX4_match 113 = .ok (.aload_n 0, 1) := by decide +kernel
theorem dX4_match_114 : decode cX4_match 114 = .ok (.iload_n 3, 1) := by decide +kernel
theorem dX4_match_115 : decode cX4_match 115 = .ok (.iload 4, 2) := by decide +kernel
theorem dX4_match_117 : decode cX4_match 117 = .ok (.iload 7, 2) := by decide +kernel
theorem dX4_match_119 : decode cX4_match 119 = .ok (.iadd, 1) := by decide +kernel
theorem dX4_match_120 : decode cX4_match 120 = .ok (.invokevirtual 99, 3) := by decide +kernel
theorem dX4_match_123 : decode cX4_match 123 = .ok (.lcmp, 1) := by decide +kernel
theorem dX4_match_124 : decode cX4_match 124 = .ok (.ifCond .ne 9, 3) := by decide +kernel
theorem dX4_match_127 : decode cX4_match 127 = .ok (.iinc 7 1, 3) := by decide +kernel
theorem dX4_match_130 : decode cX4_match 130 = .ok (.goto (-58), 3) := by decide +kernel
theorem dX4_match_133 : decode cX4_match 133 = .ok (.iload 7, 2) := by decide +kernel
theorem dX4_match_135 : decode cX4_match 135 = .ok (.ireturn, 1) := by decide +kernel
set_option maxRecDepth 20000 in
theorem ggX4_polish_X4_isTray : GoodIn wsX4_polish wsX4_isTray := goodIn_r _ [6, 7, 8, 5, 9] (by decide +kernel) (by decide +kernel)
set_option maxRecDepth 20000 in
theorem gX4_polish_X4_isTray : GoodIn wsX4_polish (va_wsS RX4 60 yX4_isTray wsX4_isTray) := goodIn_app (goodIn_of _ (by decide +kernel)) ggX4_polish_X4_isTray
set_option maxRecDepth 20000 in
theorem ggX4_polish_X4_isRow : GoodIn wsX4_polish wsX4_isRow := goodIn_r _ [13, 1, 30, 31, 32, 33, 34, 35, 36, 37, 38, 39, 40, 41, 42, 43, 44, 45] (by decide +kernel) (by decide +kernel)
set_option maxRecDepth 20000 in
theorem gX4_polish_X4_isRow : GoodIn wsX4_polish (wsV RX4 53 RX4 yX4_isRow wsX4_isRow) := goodIn_app (goodIn_of _ (by decide +kernel)) ggX4_polish_X4_isRow
set_option maxRecDepth 20000 in
theorem ggX4_polish_X4_lacks : GoodIn wsX4_polish wsX4_lacks := goodIn_r _ [17, 1, 30, 31, 32, 33, 34, 35, 36, 37, 38, 39, 40, 41, 42, 43, 44, 45] (by decide +kernel) (by decide +kernel)
set_option maxRecDepth 20000 in
theorem gX4_polish_X4_lacks : GoodIn wsX4_polish (wsV RX4 74 RX4 yX4_lacks wsX4_lacks) := goodIn_app (goodIn_of _ (by decide +kernel)) ggX4_polish_X4_lacks
set_option maxRecDepth 20000 in
theorem ggX4_polish_X4_in : GoodIn wsX4_polish wsX4_in := goodIn_r _ [9] (by decide +kernel) (by decide +kernel)
set_option maxRecDepth 20000 in
theorem gX4_polish_X4_in : GoodIn wsX4_polish (va_wsS RX4 49 yX4_in wsX4_in) := goodIn_app (goodIn_of _ (by decide +kernel)) ggX4_polish_X4_in
set_option maxRecDepth 20000 in
theorem ggX4_polish_X4_sizeOf : GoodIn wsX4_polish wsX4_sizeOf := goodIn_r _ [21, 22, 23, 10, 11, 12, 5, 13, 1, 30, 31, 32, 33, 34, 35, 36, 37, 38, 39, 40, 41, 42, 43, 44, 45] (by decide +kernel) (by decide +kernel)
set_option maxRecDepth 20000 in
theorem gX4_polish_X4_sizeOf : GoodIn wsX4_polish (wsV RX4 88 RX4 yX4_sizeOf wsX4_sizeOf) := goodIn_app (goodIn_of _ (by decide +kernel)) ggX4_polish_X4_sizeOf
set_option maxRecDepth 20000 in
theorem ggX4_polish_X4_get : GoodIn wsX4_polish wsX4_get := goodIn_r _ [27, 28, 29, 23, 30, 31, 32, 33, 34, 35, 36, 37, 38, 39, 40, 41, 42, 43, 44, 45] (by decide +kernel) (by decide +kernel)
set_option maxRecDepth 20000 in
theorem gX4_polish_X4_get : GoodIn wsX4_polish (wsV RX4 99 RX4 yX4_get wsX4_get) := goodIn_app (goodIn_of _ (by decide +kernel)) ggX4_polish_X4_get
theorem dX4_polish_0 : decode cX4_polish 0 = .ok (.iload_n 1, 1) := by decide +kernel
theorem dX4_polish_1 : decode cX4_polish 1 = .ok (.invokestatic 60, 3) := by decide +kernel
theorem dX4_polish_4 : decode cX4_polish 4 = .ok (.ifCond .ne 6, 3) := by decide +kernel
theorem dX4_polish_7 : decode cX4_polish 7 = .ok (.bipush (-6), 2) := by decide +kernel
theorem dX4_polish_9 : decode cX4_polish 9 = .ok (.ireturn, 1) := by decide +kernel
theorem dX4_polish_10 : decode cX4_polish 10 = .ok (.aload_n 0, 1) := by decide +kernel
theorem dX4_polish_11 : decode cX4_polish 11 = .ok (.iload_n 1, 1) := by decide +kernel
theorem dX4_polish_12 : decode cX4_polish 12 = .ok (.invokevirtual 53, 3) := by decide +kernel
theorem dX4_polish_15 : decode cX4_polish 15 = .ok (.ifCond .ne 9, 3) := by decide +kernel
theorem dX4_polish_18 : decode cX4_polish 18 = .ok (.aload_n 0, 1) := by decide +kernel
theorem dX4_polish_19 : decode cX4_polish 19 = .ok (.iload_n 1, 1) := by decide +kernel
theorem dX4_polish_20 : decode cX4_polish 20 = .ok (.invokevirtual 74, 3) := by decide +kernel
theorem dX4_polish_23 : decode cX4_polish 23 = .ok (.ireturn, 1) := by decide +kernel
theorem dX4_polish_24 : decode cX4_polish 24 = .ok (.aload_n 0, 1) := by decide +kernel
theorem dX4_polish_25 : decode cX4_polish 25 = .ok (.getfield 7, 3) := by decide +kernel
theorem dX4_polish_28 : decode cX4_polish 28 = .ok (.iload_n 1, 1) := by decide +kernel
theorem dX4_polish_29 : decode cX4_polish 29 = .ok (.iaload, 1) := by decide +kernel
theorem dX4_polish_30 : decode cX4_polish 30 = .ok (.bipush 10, 2) := by decide +kernel
theorem dX4_polish_32 : decode cX4_polish 32 = .ok (.bipush 12, 2) := by decide +kernel
theorem dX4_polish_34 : decode cX4_polish 34 = .ok (.invokestatic 49, 3) := by decide +kernel
theorem dX4_polish_37 : decode cX4_polish 37 = .ok (.ifCond .ne 6, 3) := by decide +kernel
theorem dX4_polish_40 : decode cX4_polish 40 = .ok (.bipush (-3), 2) := by decide +kernel
theorem dX4_polish_42 : decode cX4_polish 42 = .ok (.ireturn, 1) := by decide +kernel
theorem dX4_polish_43 : decode cX4_polish 43 = .ok (.iload_n 2, 1) := by decide +kernel
theorem dX4_polish_44 : decode cX4_polish 44 = .ok (.iconst 0, 1) := by decide +kernel
theorem dX4_polish_45 : decode cX4_polish 45 = .ok (.aload_n 0, 1) := by decide +kernel
theorem dX4_polish_46 : decode cX4_polish 46 = .ok (.iload_n 1, 1) := by decide +kernel
theorem dX4_polish_47 : decode cX4_polish 47 = .ok (.invokevirtual 88, 3) := by decide +kernel
theorem dX4_polish_50 : decode cX4_polish 50 = .ok (.iconst 1, 1) := by decide +kernel
theorem dX4_polish_51 : decode cX4_polish 51 = .ok (.isub, 1) := by decide +kernel
theorem dX4_polish_52 : decode cX4_polish 52 = .ok (.invokestatic 49, 3) := by decide +kernel
theorem dX4_polish_55 : decode cX4_polish 55 = .ok (.ifCond .ne 6, 3) := by decide +kernel
theorem dX4_polish_58 : decode cX4_polish 58 = .ok (.bipush (-4), 2) := by decide +kernel
theorem dX4_polish_60 : decode cX4_polish 60 = .ok (.ireturn, 1) := by decide +kernel
theorem dX4_polish_61 : decode cX4_polish 61 = .ok (.aload_n 0, 1) := by decide +kernel
theorem dX4_polish_62 : decode cX4_polish 62 = .ok (.iload_n 1, 1) := by decide +kernel
theorem dX4_polish_63 : decode cX4_polish 63 = .ok (.iload_n 2, 1) := by decide +kernel
theorem dX4_polish_64 : decode cX4_polish 64 = .ok (.invokevirtual 99, 3) := by decide +kernel
theorem dX4_polish_67 : decode cX4_polish 67 = .ok (.l2i, 1) := by decide +kernel
theorem dX4_polish_68 : decode cX4_polish 68 = .ok (.istore 4, 2) := by decide +kernel
theorem dX4_polish_70 : decode cX4_polish 70 = .ok (.iload 4, 2) := by decide +kernel
theorem dX4_polish_72 : decode cX4_polish 72 = .ok (.ifCond .ne 5, 3) := by decide +kernel
theorem dX4_polish_75 : decode cX4_polish 75 = .ok (.iconst (-1), 1) := by decide +kernel
theorem dX4_polish_76 : decode cX4_polish 76 = .ok (.ireturn, 1) := by decide +kernel
theorem dX4_polish_77 : decode cX4_polish 77 = .ok (.aload_n 0, 1) := by decide +kernel
theorem dX4_polish_78 : decode cX4_polish 78 = .ok (.getfield 33, 3) := by decide +kernel
theorem dX4_polish_81 : decode cX4_polish 81 = .ok (.iload 4, 2) := by decide +kernel
theorem dX4_polish_83 : decode cX4_polish 83 = .ok (.dup2, 1) := by decide +kernel
theorem dX4_polish_84 : decode cX4_polish 84 = .ok (.iaload, 1) := by decide +kernel
theorem dX4_polish_85 : decode cX4_polish 85 = .ok (.iload_n 3, 1) := by decide +kernel
theorem dX4_polish_86 : decode cX4_polish 86 = .ok (.iadd, 1) := by decide +kernel
theorem dX4_polish_87 : decode cX4_polish 87 = .ok (.iastore, 1) := by decide +kernel
theorem dX4_polish_88 : decode cX4_polish 88 = .ok (.iload 4, 2) := by decide +kernel
theorem dX4_polish_90 : decode cX4_polish 90 = .ok (.ireturn, 1) := by decide +kernel
set_option maxRecDepth 20000 in
theorem ggX4_tray_X4_isTray : GoodIn wsX4_tray wsX4_isTray := goodIn_r _ [6, 7, 8, 5, 9] (by decide +kernel) (by decide +kernel)
set_option maxRecDepth 20000 in
theorem gX4_tray_X4_isTray : GoodIn wsX4_tray (va_wsS RX4 60 yX4_isTray wsX4_isTray) := goodIn_app (goodIn_of _ (by decide +kernel)) ggX4_tray_X4_isTray
set_option maxRecDepth 20000 in
theorem ggX4_tray_X4_in : GoodIn wsX4_tray wsX4_in := goodIn_r _ [9] (by decide +kernel) (by decide +kernel)
set_option maxRecDepth 20000 in
theorem gX4_tray_X4_in : GoodIn wsX4_tray (va_wsS RX4 49 yX4_in wsX4_in) := goodIn_app (goodIn_of _ (by decide +kernel)) ggX4_tray_X4_in
set_option maxRecDepth 20000 in
theorem ggX4_tray_X4_sizeOf : GoodIn wsX4_tray wsX4_sizeOf := goodIn_r _ [13, 14, 2, 15, 16, 17, 5, 18, 1, 19, 20, 21, 22, 23, 24, 25, 26, 27, 28, 29, 30, 31, 32, 33, 34] (by decide +kernel) (by decide +kernel)
set_option maxRecDepth 20000 in
theorem gX4_tray_X4_sizeOf : GoodIn wsX4_tray (wsV RX4 88 RX4 yX4_sizeOf wsX4_sizeOf) := goodIn_app (goodIn_of _ (by decide +kernel)) ggX4_tray_X4_sizeOf
theorem dX4_tray_0 : decode cX4_tray 0 = .ok (.iload_n 1, 1) := by decide +kernel
theorem dX4_tray_1 : decode cX4_tray 1 = .ok (.invokestatic 60, 3) := by decide +kernel
theorem dX4_tray_4 : decode cX4_tray 4 = .ok (.ifCond .eq 12, 3) := by decide +kernel
theorem dX4_tray_7 : decode cX4_tray 7 = .ok (.iload_n 2, 1) := by decide +kernel
theorem dX4_tray_8 : decode cX4_tray 8 = .ok (.iconst 0, 1) := by decide +kernel
theorem dX4_tray_9 : decode cX4_tray 9 = .ok (.iconst 1, 1) := by decide +kernel
theorem dX4_tray_10 : decode cX4_tray 10 = .ok (.invokestatic 49, 3) := by decide +kernel
theorem dX4_tray_13 : decode cX4_tray 13 = .ok (.ifCond .ne 6, 3) := by decide +kernel
theorem dX4_tray_16 : decode cX4_tray 16 = .ok (.bipush (-6), 2) := by decide +kernel
theorem dX4_tray_18 : decode cX4_tray 18 = .ok (.ireturn, 1) := by decide +kernel
theorem dX4_tray_19 : decode cX4_tray 19 = .ok (.iload_n 2, 1) := by decide +kernel
theorem dX4_tray_20 : decode cX4_tray 20 = .ok (.ifCond .ne 12, 3) := by decide +kernel
theorem dX4_tray_23 : decode cX4_tray 23 = .ok (.aload_n 0, 1) := by decide +kernel
theorem dX4_tray_24 : decode cX4_tray 24 = .ok (.getfield 7, 3) := by decide +kernel
theorem dX4_tray_27 : decode cX4_tray 27 = .ok (.iload_n 1, 1) := by decide +kernel
theorem dX4_tray_28 : decode cX4_tray 28 = .ok (.iaload, 1) := by decide +kernel
theorem dX4_tray_29 : decode cX4_tray 29 = .ok (.goto 27, 3) := by decide +kernel
theorem dX4_tray_32 : decode cX4_tray 32 = .ok (.aload_n 0, 1) := by decide +kernel
theorem dX4_tray_33 : decode cX4_tray 33 = .ok (.getfield 7, 3) := by decide +kernel
theorem dX4_tray_36 : decode cX4_tray 36 = .ok (.iload_n 1, 1) := by decide +kernel
theorem dX4_tray_37 : decode cX4_tray 37 = .ok (.iaload, 1) := by decide +kernel
theorem dX4_tray_38 : decode cX4_tray 38 = .ok (.iconst 1, 1) := by decide +kernel
theorem dX4_tray_39 : decode cX4_tray 39 = .ok (.if_icmp .ne 12, 3) := by decide +kernel
theorem dX4_tray_42 : decode cX4_tray 42 = .ok (.aload_n 0, 1) := by decide +kernel
theorem dX4_tray_43 : decode cX4_tray 43 = .ok (.getfield 13, 3) := by decide +kernel
theorem dX4_tray_46 : decode cX4_tray 46 = .ok (.iload_n 1, 1) := by decide +kernel
theorem dX4_tray_47 : decode cX4_tray 47 = .ok (.iaload, 1) := by decide +kernel
theorem dX4_tray_48 : decode cX4_tray 48 = .ok (.goto 8, 3) := by decide +kernel
theorem dX4_tray_51 : decode cX4_tray 51 = .ok (.aload_n 0, 1) := by decide +kernel
theorem dX4_tray_52 : decode cX4_tray 52 = .ok (.iload_n 1, 1) := by decide +kernel
theorem dX4_tray_53 : decode cX4_tray 53 = .ok (.invokevirtual 88, 3) := by decide +kernel
theorem dX4_tray_56 : decode cX4_tray 56 = .ok (.ireturn, 1) := by decide +kernel
set_option maxRecDepth 20000 in
theorem ggX4_what_X4_isTray : GoodIn wsX4_what wsX4_isTray := goodIn_r _ [6, 7, 8, 5, 9] (by decide +kernel) (by decide +kernel)
set_option maxRecDepth 20000 in
theorem gX4_what_X4_isTray : GoodIn wsX4_what (va_wsS RX4 60 yX4_isTray wsX4_isTray) := goodIn_app (goodIn_of _ (by decide +kernel)) ggX4_what_X4_isTray
set_option maxRecDepth 20000 in
theorem ggX4_what_X4_isRow : GoodIn wsX4_what wsX4_isRow := goodIn_r _ [13, 1, 33, 34, 35, 36, 37, 38, 39, 40, 41, 42, 43, 44, 45, 46, 47, 48] (by decide +kernel) (by decide +kernel)
set_option maxRecDepth 20000 in
theorem gX4_what_X4_isRow : GoodIn wsX4_what (wsV RX4 53 RX4 yX4_isRow wsX4_isRow) := goodIn_app (goodIn_of _ (by decide +kernel)) ggX4_what_X4_isRow
set_option maxRecDepth 20000 in
theorem ggX4_what_X4_lacks : GoodIn wsX4_what wsX4_lacks := goodIn_r _ [17, 1, 33, 34, 35, 36, 37, 38, 39, 40, 41, 42, 43, 44, 45, 46, 47, 48] (by decide +kernel) (by decide +kernel)
set_option maxRecDepth 20000 in
theorem gX4_what_X4_lacks : GoodIn wsX4_what (wsV RX4 74 RX4 yX4_lacks wsX4_lacks) := goodIn_app (goodIn_of _ (by decide +kernel)) ggX4_what_X4_lacks
set_option maxRecDepth 20000 in
theorem ggX4_what_X4_sizeOf : GoodIn wsX4_what wsX4_sizeOf := goodIn_r _ [21, 22, 23, 10, 11, 12, 5, 13, 1, 33, 34, 35, 36, 37, 38, 39, 40, 41, 42, 43, 44, 45, 46, 47, 48] (by decide +kernel) (by decide +kernel)
set_option maxRecDepth 20000 in
theorem gX4_what_X4_sizeOf : GoodIn wsX4_what (wsV RX4 88 RX4 yX4_sizeOf wsX4_sizeOf) := goodIn_app (goodIn_of _ (by decide +kernel)) ggX4_what_X4_sizeOf
set_option maxRecDepth 20000 in
theorem ggX4_what_X4_in : GoodIn wsX4_what wsX4_in := goodIn_r _ [9] (by decide +kernel) (by decide +kernel)
set_option maxRecDepth 20000 in
theorem gX4_what_X4_in : GoodIn wsX4_what (va_wsS RX4 49 yX4_in wsX4_in) := goodIn_app (goodIn_of _ (by decide +kernel)) ggX4_what_X4_in
set_option maxRecDepth 20000 in
theorem ggX4_what_X4_isNumbers : GoodIn wsX4_what wsX4_isNumbers := goodIn_r _ [26, 7, 8, 5, 9] (by decide +kernel) (by decide +kernel)
set_option maxRecDepth 20000 in
theorem gX4_what_X4_isNumbers : GoodIn wsX4_what (va_wsS RX4 57 yX4_isNumbers wsX4_isNumbers) := goodIn_app (goodIn_of _ (by decide +kernel)) ggX4_what_X4_isNumbers
set_option maxRecDepth 20000 in
theorem ggX4_what_X4_get : GoodIn wsX4_what wsX4_get := goodIn_r _ [30, 31, 32, 23, 33, 34, 35, 36, 37, 38, 39, 40, 41, 42, 43, 44, 45, 46, 47, 48] (by decide +kernel) (by decide +kernel)
set_option maxRecDepth 20000 in
theorem gX4_what_X4_get : GoodIn wsX4_what (wsV RX4 99 RX4 yX4_get wsX4_get) := goodIn_app (goodIn_of _ (by decide +kernel)) ggX4_what_X4_get
theorem dX4_what_0 : decode cX4_what 0 = .ok (.iload_n 1, 1) := by decide +kernel
theorem dX4_what_1 : decode cX4_what 1 = .ok (.invokestatic 60, 3) := by decide +kernel
theorem dX4_what_4 : decode cX4_what 4 = .ok (.ifCond .ne 6, 3) := by decide +kernel
theorem dX4_what_7 : decode cX4_what 7 = .ok (.bipush (-6), 2) := by decide +kernel
theorem dX4_what_9 : decode cX4_what 9 = .ok (.ireturn, 1) := by decide +kernel
theorem dX4_what_10 : decode cX4_what 10 = .ok (.aload_n 0, 1) := by decide +kernel
theorem dX4_what_11 : decode cX4_what 11 = .ok (.iload_n 1, 1) := by decide +kernel
theorem dX4_what_12 : decode cX4_what 12 = .ok (.invokevirtual 53, 3) := by decide +kernel
theorem dX4_what_15 : decode cX4_what 15 = .ok (.ifCond .ne 9, 3) := by decide +kernel
theorem dX4_what_18 : decode cX4_what 18 = .ok (.aload_n 0, 1) := by decide +kernel
theorem dX4_what_19 : decode cX4_what 19 = .ok (.iload_n 1, 1) := by decide +kernel
theorem dX4_what_20 : decode cX4_what 20 = .ok (.invokevirtual 74, 3) := by decide +kernel
theorem dX4_what_23 : decode cX4_what 23 = .ok (.ireturn, 1) := by decide +kernel
theorem dX4_what_24 : decode cX4_what 24 = .ok (.iload_n 2, 1) := by decide +kernel
theorem dX4_what_25 : decode cX4_what 25 = .ok (.iconst 0, 1) := by decide +kernel
theorem dX4_what_26 : decode cX4_what 26 = .ok (.aload_n 0, 1) := by decide +kernel
theorem dX4_what_27 : decode cX4_what 27 = .ok (.iload_n 1, 1) := by decide +kernel
theorem dX4_what_28 : decode cX4_what 28 = .ok (.invokevirtual 88, 3) := by decide +kernel
theorem dX4_what_31 : decode cX4_what 31 = .ok (.iconst 1, 1) := by decide +kernel
theorem dX4_what_32 : decode cX4_what 32 = .ok (.isub, 1) := by decide +kernel
theorem dX4_what_33 : decode cX4_what 33 = .ok (.invokestatic 49, 3) := by decide +kernel
theorem dX4_what_36 : decode cX4_what 36 = .ok (.ifCond .ne 6, 3) := by decide +kernel
theorem dX4_what_39 : decode cX4_what 39 = .ok (.bipush (-4), 2) := by decide +kernel
theorem dX4_what_41 : decode cX4_what 41 = .ok (.ireturn, 1) := by decide +kernel
theorem dX4_what_42 : decode cX4_what 42 = .ok (.aload_n 0, 1) := by decide +kernel
theorem dX4_what_43 : decode cX4_what 43 = .ok (.getfield 7, 3) := by decide +kernel
theorem dX4_what_46 : decode cX4_what 46 = .ok (.iload_n 1, 1) := by decide +kernel
theorem dX4_what_47 : decode cX4_what 47 = .ok (.iaload, 1) := by decide +kernel
theorem dX4_what_48 : decode cX4_what 48 = .ok (.invokestatic 57, 3) := by decide +kernel
theorem dX4_what_51 : decode cX4_what 51 = .ok (.ifCond .eq 5, 3) := by decide +kernel
theorem dX4_what_54 : decode cX4_what 54 = .ok (.iconst 1, 1) := by decide +kernel
theorem dX4_what_55 : decode cX4_what 55 = .ok (.ireturn, 1) := by decide +kernel
theorem dX4_what_56 : decode cX4_what 56 = .ok (.aload_n 0, 1) := by decide +kernel
theorem dX4_what_57 : decode cX4_what 57 = .ok (.iload_n 1, 1) := by decide +kernel
theorem dX4_what_58 : decode cX4_what 58 = .ok (.iload_n 2, 1) := by decide +kernel
theorem dX4_what_59 : decode cX4_what 59 = .ok (.invokevirtual 99, 3) := by decide +kernel
theorem dX4_what_62 : decode cX4_what 62 = .ok (.lstore_n 3, 1) := by decide +kernel
theorem dX4_what_63 : decode cX4_what 63 = .ok (.lload_n 3, 1) := by decide +kernel
theorem dX4_what_64 : decode cX4_what 64 = .ok (.lconst 0, 1) := by decide +kernel
theorem dX4_what_65 : decode cX4_what 65 = .ok (.lcmp, 1) := by decide +kernel
theorem dX4_what_66 : decode cX4_what 66 = .ok (.ifCond .ne 7, 3) := by decide +kernel
theorem dX4_what_69 : decode cX4_what 69 = .ok (.iconst 0, 1) := by decide +kernel
theorem dX4_what_70 : decode cX4_what 70 = .ok (.goto 23, 3) := by decide +kernel
theorem dX4_what_73 : decode cX4_what 73 = .ok (.lload_n 3, 1) := by decide +kernel
theorem dX4_what_74 : decode cX4_what 74 = .ok (.lconst 0, 1) := by decide +kernel
theorem dX4_what_75 : decode cX4_what 75 = .ok (.lcmp, 1) := by decide +kernel
theorem dX4_what_76 : decode cX4_what 76 = .ok (.ifCond .ge 8, 3) := by decide +kernel
theorem dX4_what_79 : decode cX4_what 79 = .ok (.bipush 6, 2) := by decide +kernel
theorem dX4_what_81 : decode cX4_what 81 = .ok (.goto 12, 3) := by decide +kernel
theorem dX4_what_84 : decode cX4_what 84 = .ok (.iconst 1, 1) := by decide +kernel
theorem dX4_what_85 : decode cX4_what 85 = .ok (.aload_n 0, 1) := by decide +kernel
theorem dX4_what_86 : decode cX4_what 86 = .ok (.getfield 30, 3) := by decide +kernel
theorem dX4_what_89 : decode cX4_what 89 = .ok (.lload_n 3, 1) := by decide +kernel
theorem dX4_what_90 : decode cX4_what 90 = .ok (.l2i, 1) := by decide +kernel
theorem dX4_what_91 : decode cX4_what 91 = .ok (.iaload, 1) := by decide +kernel
theorem dX4_what_92 : decode cX4_what 92 = .ok (.iadd, 1) := by decide +kernel
theorem dX4_what_93 : decode cX4_what 93 = .ok (.ireturn, 1) := by decide +kernel
set_option maxRecDepth 20000 in
theorem ggX4_at_X4_what : GoodIn wsX4_at wsX4_what := goodIn_r _ [7, 8, 9, 10, 11, 6, 12, 13, 14, 15, 16, 17, 18, 19, 20, 21, 22, 23, 24, 25, 26, 27, 1, 28, 29, 30, 31, 32, 33, 34, 35, 36, 37, 38, 39, 40, 41, 42, 43, 44, 45, 46, 47, 48, 49, 50, 51, 52, 53] (by decide +kernel) (by decide +kernel)
set_option maxRecDepth 20000 in
theorem gX4_at_X4_what : GoodIn wsX4_at (wsV RX4 120 RX4 yX4_what wsX4_what) := goodIn_app (goodIn_of _ (by decide +kernel)) ggX4_at_X4_what
set_option maxRecDepth 20000 in
theorem ggX4_at_X4_get : GoodIn wsX4_at wsX4_get := goodIn_r _ [35, 36, 37, 28, 38, 39, 40, 41, 42, 43, 44, 45, 46, 47, 48, 49, 50, 51, 52, 53] (by decide +kernel) (by decide +kernel)
set_option maxRecDepth 20000 in
theorem gX4_at_X4_get : GoodIn wsX4_at (wsV RX4 99 RX4 yX4_get wsX4_get) := goodIn_app (goodIn_of _ (by decide +kernel)) ggX4_at_X4_get
theorem dX4_at_0 : decode cX4_at 0 = .ok (.aload_n 0, 1) := by decide +kernel
theorem dX4_at_1 : decode cX4_at 1 = .ok (.iload_n 1, 1) := by decide +kernel
theorem dX4_at_2 : decode cX4_at 2 = .ok (.iload_n 2, 1) := by decide +kernel
theorem dX4_at_3 : decode cX4_at 3 = .ok (.invokevirtual 120, 3) := by decide +kernel
theorem dX4_at_6 : decode cX4_at 6 = .ok (.istore_n 3, 1) := by decide +kernel
theorem dX4_at_7 : decode cX4_at 7 = .ok (.iload_n 3, 1) := by decide +kernel
theorem dX4_at_8 : decode cX4_at 8 = .ok (.ifCond .gt 5, 3) := by decide +kernel
theorem dX4_at_11 : decode cX4_at 11 = .ok (.lconst 0, 1) := by decide +kernel
theorem dX4_at_12 : decode cX4_at 12 = .ok (.lreturn, 1) := by decide +kernel
theorem dX4_at_13 : decode cX4_at 13 = .ok (.iload_n 3, 1) := by decide +kernel
theorem dX4_at_14 : decode cX4_at 14 = .ok (.bipush 6, 2) := by decide +kernel
theorem dX4_at_16 : decode cX4_at 16 = .ok (.if_icmp .ne 23, 3) := by decide +kernel
theorem dX4_at_19 : decode cX4_at 19 = .ok (.aload_n 0, 1) := by decide +kernel
theorem dX4_at_20 : decode cX4_at 20 = .ok (.getfield 22, 3) := by decide +kernel
theorem dX4_at_23 : decode cX4_at 23 = .ok (.ldc2_w 82, 3) := by decide +kernel
theorem dX4_at_26 : decode cX4_at 26 = .ok (.aload_n 0, 1) := by decide +kernel
theorem dX4_at_27 : decode cX4_at 27 = .ok (.iload_n 1, 1) := by decide +kernel
theorem dX4_at_28 : decode cX4_at 28 = .ok (.iload_n 2, 1) := by decide +kernel
theorem dX4_at_29 : decode cX4_at 29 = .ok (.invokevirtual 99, 3) := by decide +kernel
theorem dX4_at_32 : decode cX4_at 32 = .ok (.lsub, 1) := by decide +kernel
theorem dX4_at_33 : decode cX4_at 33 = .ok (.l2i, 1) := by decide +kernel
theorem dX4_at_34 : decode cX4_at 34 = .ok (.iaload, 1) := by decide +kernel
theorem dX4_at_35 : decode cX4_at 35 = .ok (.i2l, 1) := by decide +kernel
theorem dX4_at_36 : decode cX4_at 36 = .ok (.goto 9, 3) := by decide +kernel
theorem dX4_at_39 : decode cX4_at 39 = .ok (.aload_n 0, 1) := by decide +kernel
theorem dX4_at_40 : decode cX4_at 40 = .ok (.iload_n 1, 1) := by decide +kernel
theorem dX4_at_41 : decode cX4_at 41 = .ok (.iload_n 2, 1) := by decide +kernel
theorem dX4_at_42 : decode cX4_at 42 = .ok (.invokevirtual 99, 3) := by decide +kernel
theorem dX4_at_45 : decode cX4_at 45 = .ok (.lreturn, 1) := by decide +kernel
set_option maxRecDepth 20000 in
theorem ggX4_polished_X4_what : GoodIn wsX4_polished wsX4_what := goodIn_r _ [10, 11, 12, 13, 14, 9, 15, 16, 17, 18, 19, 20, 21, 22, 23, 24, 25, 26, 27, 28, 29, 30, 3, 31, 32, 33, 34, 35, 36, 37, 38, 4, 5, 39, 40, 41, 42, 43, 44, 45, 46, 47, 48, 49, 50, 51, 52, 53, 54] (by decide +kernel) (by decide +kernel)
set_option maxRecDepth 20000 in
theorem gX4_polished_X4_what : GoodIn wsX4_polished (wsV RX4 120 RX4 yX4_what wsX4_what) := goodIn_app (goodIn_of _ (by decide +kernel)) ggX4_polished_X4_what
set_option maxRecDepth 20000 in
theorem ggX4_polished_X4_get : GoodIn wsX4_polished wsX4_get := goodIn_r _ [38, 4, 5, 31, 39, 40, 41, 42, 43, 44, 45, 46, 47, 48, 49, 50, 51, 52, 53, 54] (by decide +kernel) (by decide +kernel)
set_option maxRecDepth 20000 in
theorem gX4_polished_X4_get : GoodIn wsX4_polished (wsV RX4 99 RX4 yX4_get wsX4_get) := goodIn_app (goodIn_of _ (by decide +kernel)) ggX4_polished_X4_get
theorem dX4_polished_0 : decode cX4_polished 0 = .ok (.aload_n 0, 1) := by decide +kernel
theorem dX4_polished_1 : decode cX4_polished 1 = .ok (.iload_n 1, 1) := by decide +kernel
theorem dX4_polished_2 : decode cX4_polished 2 = .ok (.iload_n 2, 1) := by decide +kernel
theorem dX4_polished_3 : decode cX4_polished 3 = .ok (.invokevirtual 120, 3) := by decide +kernel
theorem dX4_polished_6 : decode cX4_polished 6 = .ok (.istore_n 3, 1) := by decide +kernel
theorem dX4_polished_7 : decode cX4_polished 7 = .ok (.iload_n 3, 1) := by decide +kernel
theorem dX4_polished_8 : decode cX4_polished 8 = .ok (.iconst 2, 1) := by decide +kernel
theorem dX4_polished_9 : decode cX4_polished 9 = .ok (.if_icmp .ge 5, 3) := by decide +kernel
theorem dX4_polished_12 : decode cX4_polished 12 = .ok (.iconst 0, 1) := by decide +kernel
theorem dX4_polished_13 : decode cX4_polished 13 = .ok (.ireturn, 1) := by decide +kernel
theorem dX4_polished_14 : decode cX4_polished 14 = .ok (.aload_n 0, 1) := by decide +kernel
theorem dX4_polished_15 : decode cX4_polished 15 = .ok (.iload_n 1, 1) := by decide +kernel
theorem dX4_polished_16 : decode cX4_polished 16 = .ok (.iload_n 2, 1) := by decide +kernel
theorem dX4_polished_17 : decode cX4_polished 17 = .ok (.invokevirtual 99, 3) := by decide +kernel
theorem dX4_polished_20 : decode cX4_polished 20 = .ok (.lstore 4, 2) := by decide +kernel
theorem dX4_polished_22 : decode cX4_polished 22 = .ok (.iload_n 3, 1) := by decide +kernel
theorem dX4_polished_23 : decode cX4_polished 23 = .ok (.bipush 6, 2) := by decide +kernel
theorem dX4_polished_25 : decode cX4_polished 25 = .ok (.if_icmp .ge 12, 3) := by decide +kernel
theorem dX4_polished_28 : decode cX4_polished 28 = .ok (.aload_n 0, 1) := by decide +kernel
theorem dX4_polished_29 : decode cX4_polished 29 = .ok (.getfield 33, 3) := by decide +kernel
theorem dX4_polished_32 : decode cX4_polished 32 = .ok (.lload 4, 2) := by decide +kernel
theorem dX4_polished_34 : decode cX4_polished 34 = .ok (.l2i, 1) := by decide +kernel
theorem dX4_polished_35 : decode cX4_polished 35 = .ok (.iaload, 1) := by decide +kernel
theorem dX4_polished_36 : decode cX4_polished 36 = .ok (.ireturn, 1) := by decide +kernel
theorem dX4_polished_37 : decode cX4_polished 37 = .ok (.ldc2_w 82, 3) := by decide +kernel
theorem dX4_polished_40 : decode cX4_polished 40 = .ok (.lload 4, 2) := by decide +kernel
theorem dX4_polished_42 : decode cX4_polished 42 = .ok (.lsub, 1) := by decide +kernel
theorem dX4_polished_43 : decode cX4_polished 43 = .ok (.l2i, 1) := by decide +kernel
theorem dX4_polished_44 : decode cX4_polished 44 = .ok (.istore 6, 2) := by decide +kernel
theorem dX4_polished_46 : decode cX4_polished 46 = .ok (.iconst 0, 1) := by decide +kernel
theorem dX4_polished_47 : decode cX4_polished 47 = .ok (.istore 7, 2) := by decide +kernel
theorem dX4_polished_49 : decode cX4_polished 49 = .ok (.iconst 0, 1) := by decide +kernel
theorem dX4_polished_50 : decode cX4_polished 50 = .ok (.istore 8, 2) := by decide +kernel
theorem dX4_polished_52 : decode cX4_polished 52 = .ok (.iload 8, 2) := by decide +kernel
theorem dX4_polished_54 : decode cX4_polished 54 = .ok (.aload_n 0, 1) := by decide +kernel
theorem dX4_polished_55 : decode cX4_polished 55 = .ok (.getfield 22, 3) := by decide +kernel
theorem dX4_polished_58 : decode cX4_polished 58 = .ok (.iload 6, 2) := by decide +kernel
theorem dX4_polished_60 : decode cX4_polished 60 = .ok (.iaload, 1) := by decide +kernel
theorem dX4_polished_61 : decode cX4_polished 61 = .ok (.if_icmp .ge 30, 3) := by decide +kernel
theorem dX4_polished_64 : decode cX4_polished 64 = .ok (.iload 7, 2) := by decide +kernel
theorem dX4_polished_66 : decode cX4_polished 66 = .ok (.aload_n 0, 1) := by decide +kernel
theorem dX4_polished_67 : decode cX4_polished 67 = .ok (.getfield 26, 3) := by decide +kernel
theorem dX4_polished_70 : decode cX4_polished 70 = .ok (.aload_n 0, 1) := by decide +kernel
theorem dX4_polished_71 : decode cX4_polished 71 = .ok (.getfield 19, 3) := by decide +kernel
theorem dX4_polished_74 : decode cX4_polished 74 = .ok (.iload 6, 2) := by decide +kernel
theorem dX4_polished_76 : decode cX4_polished 76 = .ok (.iaload, 1) := by decide +kernel
theorem dX4_polished_77 : decode cX4_polished 77 = .ok (.iload 8, 2) := by decide +kernel
theorem dX4_polished_79 : decode cX4_polished 79 = .ok (.iadd, 1) := by decide +kernel
theorem dX4_polished_80 : decode cX4_polished 80 = .ok (.laload, 1) := by decide +kernel
theorem dX4_polished_81 : decode cX4_polished 81 = .ok (.l2i, 1) := by decide +kernel
theorem dX4_polished_82 : decode cX4_polished 82 = .ok (.iadd, 1) := by decide +kernel
theorem dX4_polished_83 : decode cX4_polished 83 = .ok (.istore 7, 2) := by decide +kernel
theorem dX4_polished_85 : decode cX4_polished 85 = .ok (.iinc 8 1, 3) := by decide +kernel
theorem dX4_polished_88 : decode cX4_polished 88 = .ok (.goto (-36), 3) := by decide +kernel
theorem dX4_polished_91 : decode cX4_polished 91 = .ok (.iload 7, 2) := by decide +kernel
theorem dX4_polished_93 : decode cX4_polished 93 = .ok (.ireturn, 1) := by decide +kernel
set_option maxRecDepth 20000 in
theorem ggX4_told_X4_in : GoodIn wsX4_told wsX4_in := goodIn_r _ [7] (by decide +kernel) (by decide +kernel)
set_option maxRecDepth 20000 in
theorem gX4_told_X4_in : GoodIn wsX4_told (va_wsS RX4 49 yX4_in wsX4_in) := goodIn_app (goodIn_of _ (by decide +kernel)) ggX4_told_X4_in
theorem dX4_told_0 : decode cX4_told 0 = .ok (.iload_n 1, 1) := by decide +kernel
theorem dX4_told_1 : decode cX4_told 1 = .ok (.ifCond .ne 10, 3) := by decide +kernel
theorem dX4_told_4 : decode cX4_told 4 = .ok (.aload_n 0, 1) := by decide +kernel
theorem dX4_told_5 : decode cX4_told 5 = .ok (.getfield 102, 3) := by decide +kernel
theorem dX4_told_8 : decode cX4_told 8 = .ok (.goto 37, 3) := by decide +kernel
theorem dX4_told_11 : decode cX4_told 11 = .ok (.iload_n 1, 1) := by decide +kernel
theorem dX4_told_12 : decode cX4_told 12 = .ok (.bipush 7, 2) := by decide +kernel
theorem dX4_told_14 : decode cX4_told 14 = .ok (.if_icmp .ne 10, 3) := by decide +kernel
theorem dX4_told_17 : decode cX4_told 17 = .ok (.aload_n 0, 1) := by decide +kernel
theorem dX4_told_18 : decode cX4_told 18 = .ok (.getfield 71, 3) := by decide +kernel
theorem dX4_told_21 : decode cX4_told 21 = .ok (.goto 24, 3) := by decide +kernel
theorem dX4_told_24 : decode cX4_told 24 = .ok (.iload_n 1, 1) := by decide +kernel
theorem dX4_told_25 : decode cX4_told 25 = .ok (.iconst 1, 1) := by decide +kernel
theorem dX4_told_26 : decode cX4_told 26 = .ok (.bipush 6, 2) := by decide +kernel
theorem dX4_told_28 : decode cX4_told 28 = .ok (.invokestatic 49, 3) := by decide +kernel
theorem dX4_told_31 : decode cX4_told 31 = .ok (.ifCond .eq 12, 3) := by decide +kernel
theorem dX4_told_34 : decode cX4_told 34 = .ok (.aload_n 0, 1) := by decide +kernel
theorem dX4_told_35 : decode cX4_told 35 = .ok (.getfield 46, 3) := by decide +kernel
theorem dX4_told_38 : decode cX4_told 38 = .ok (.iload_n 1, 1) := by decide +kernel
theorem dX4_told_39 : decode cX4_told 39 = .ok (.iaload, 1) := by decide +kernel
theorem dX4_told_40 : decode cX4_told 40 = .ok (.goto 5, 3) := by decide +kernel
theorem dX4_told_43 : decode cX4_told 43 = .ok (.bipush (-6), 2) := by decide +kernel
theorem dX4_told_45 : decode cX4_told 45 = .ok (.ireturn, 1) := by decide +kernel
