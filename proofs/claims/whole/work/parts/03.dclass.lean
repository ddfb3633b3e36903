set_option maxRecDepth 20000 in
theorem ggX0_init_X2_init : GoodIn wsX0_init wsX2_init := goodIn_r _ [10, 11, 12, 13] (by decide +kernel) (by decide +kernel)
set_option maxRecDepth 20000 in
theorem gX0_init_X2_init_n3 : GoodIn wsX0_init (wsX2_init) := ggX0_init_X2_init
theorem dX0_init_0 : decode cX0_init 0 = .ok (.aload_n 0, 1) := by decide +kernel
theorem dX0_init_1 : decode cX0_init 1 = .ok (.invokespecial 3, 3) := by decide +kernel
theorem dX0_init_4 : decode cX0_init 4 = .ok (.aload_n 0, 1) := by decide +kernel
theorem dX0_init_5 : decode cX0_init 5 = .ok (.iload_n 1, 1) := by decide +kernel
theorem dX0_init_6 : decode cX0_init 6 = .ok (.putfield 9, 3) := by decide +kernel
theorem dX0_init_9 : decode cX0_init 9 = .ok (.aload_n 0, 1) := by decide +kernel
theorem dX0_init_10 : decode cX0_init 10 = .ok (.iload_n 2, 1) := by decide +kernel
theorem dX0_init_11 : decode cX0_init 11 = .ok (.putfield 15, 3) := by decide +kernel
theorem dX0_init_14 : decode cX0_init 14 = .ok (.aload_n 0, 1) := by decide +kernel
theorem dX0_init_15 : decode cX0_init 15 = .ok (.iload_n 3, 1) := by decide +kernel
theorem dX0_init_16 : decode cX0_init 16 = .ok (.putfield 18, 3) := by decide +kernel
theorem dX0_init_19 : decode cX0_init 19 = .ok (.aload_n 0, 1) := by decide +kernel
theorem dX0_init_20 : decode cX0_init 20 = .ok (.iload_n 2, 1) := by decide +kernel
theorem dX0_init_21 : decode cX0_init 21 = .ok (.newarray .long, 2) := by decide +kernel
theorem dX0_init_23 : decode cX0_init 23 = .ok (.putfield 21, 3) := by decide +kernel
theorem dX0_init_26 : decode cX0_init 26 = .ok (.aload_n 0, 1) := by decide +kernel
theorem dX0_init_27 : decode cX0_init 27 = .ok (.iload_n 2, 1) := by decide +kernel
theorem dX0_init_28 : decode cX0_init 28 = .ok (.anewarray 4, 3) := by decide +kernel
theorem dX0_init_31 : decode cX0_init 31 = .ok (.putfield 25, 3) := by decide +kernel
theorem dX0_init_34 : decode cX0_init 34 = .ok (.return_, 1) := by decide +kernel
theorem dX0_sortOfThing_0 : decode cX0_sortOfThing 0 = .ok (.bipush 6, 2) := by decide +kernel
theorem dX0_sortOfThing_2 : decode cX0_sortOfThing 2 = .ok (.ireturn, 1) := by decide +kernel
theorem dX0_count_0 : decode cX0_count 0 = .ok (.aload_n 0, 1) := by decide +kernel
theorem dX0_count_1 : decode cX0_count 1 = .ok (.getfield 15, 3) := by decide +kernel
theorem dX0_count_4 : decode cX0_count 4 = .ok (.ireturn, 1) := by decide +kernel
theorem dX0_shine_0 : decode cX0_shine 0 = .ok (.iconst 0, 1) := by decide +kernel
theorem dX0_shine_1 : decode cX0_shine 1 = .ok (.istore_n 1, 1) := by decide +kernel
theorem dX0_shine_2 : decode cX0_shine 2 = .ok (.iconst 0, 1) := by decide +kernel
theorem dX0_shine_3 : decode cX0_shine 3 = .ok (.istore_n 2, 1) := by decide +kernel
theorem dX0_shine_4 : decode cX0_shine 4 = .ok (.iload_n 2, 1) := by decide +kernel
theorem dX0_shine_5 : decode cX0_shine 5 = .ok (.aload_n 0, 1) := by decide +kernel
theorem dX0_shine_6 : decode cX0_shine 6 = .ok (.getfield 15, 3) := by decide +kernel
theorem dX0_shine_9 : decode cX0_shine 9 = .ok (.if_icmp .ge 19, 3) := by decide +kernel
theorem dX0_shine_12 : decode cX0_shine 12 = .ok (.iload_n 1, 1) := by decide +kernel
theorem dX0_shine_13 : decode cX0_shine 13 = .ok (.aload_n 0, 1) := by decide +kernel
theorem dX0_shine_14 : decode cX0_shine 14 = .ok (.getfield 21, 3) := by decide +kernel
theorem dX0_shine_17 : decode cX0_shine 17 = .ok (.iload_n 2, 1) := by decide +kernel
theorem dX0_shine_18 : decode cX0_shine 18 = .ok (.laload, 1) := by decide +kernel
theorem dX0_shine_19 : decode cX0_shine 19 = .ok (.l2i, 1) := by decide +kernel
theorem dX0_shine_20 : decode cX0_shine 20 = .ok (.iadd, 1) := by decide +kernel
theorem dX0_shine_21 : decode cX0_shine 21 = .ok (.istore_n 1, 1) := by decide +kernel
theorem dX0_shine_22 : decode cX0_shine 22 = .ok (.iinc 2 1, 3) := by decide +kernel
theorem dX0_shine_25 : decode cX0_shine 25 = .ok (.goto (-21), 3) := by decide +kernel
theorem dX0_shine_28 : decode cX0_shine 28 = .ok (.iload_n 1, 1) := by decide +kernel
theorem dX0_shine_29 : decode cX0_shine 29 = .ok (.ireturn, 1) := by decide +kernel
theorem dX0_refusal_0 : decode cX0_refusal 0 = .ok (.aload_n 0, 1) := by decide +kernel
theorem dX0_refusal_1 : decode cX0_refusal 1 = .ok (.getfield 9, 3) := by decide +kernel
theorem dX0_refusal_4 : decode cX0_refusal 4 = .ok (.ifCond .ne 5, 3) := by decide +kernel
theorem dX0_refusal_7 : decode cX0_refusal 7 = .ok (.iconst (-1), 1) := by decide +kernel
theorem dX0_refusal_8 : decode cX0_refusal 8 = .ok (.ireturn, 1) := by decide +kernel
theorem dX0_refusal_9 : decode cX0_refusal 9 = .ok (.aload_n 0, 1) := by decide +kernel
theorem dX0_refusal_10 : decode cX0_refusal 10 = .ok (.getfield 9, 3) := by decide +kernel
theorem dX0_refusal_13 : decode cX0_refusal 13 = .ok (.iconst 1, 1) := by decide +kernel
theorem dX0_refusal_14 : decode cX0_refusal 14 = .ok (.if_icmp .ne 8, 3) := by decide +kernel
theorem dX0_refusal_17 : decode cX0_refusal 17 = .ok (.bipush (-2), 2) := by decide +kernel
theorem dX0_refusal_19 : decode cX0_refusal 19 = .ok (.goto 4, 3) := by decide +kernel
theorem dX0_refusal_22 : decode cX0_refusal 22 = .ok (.iconst 0, 1) := by decide +kernel
theorem dX0_refusal_23 : decode cX0_refusal 23 = .ok (.ireturn, 1) := by decide +kernel
theorem dX0_isOfNumbers_0 : decode cX0_isOfNumbers 0 = .ok (.aload_n 0, 1) := by decide +kernel
theorem dX0_isOfNumbers_1 : decode cX0_isOfNumbers 1 = .ok (.getfield 9, 3) := by decide +kernel
theorem dX0_isOfNumbers_4 : decode cX0_isOfNumbers 4 = .ok (.iconst 2, 1) := by decide +kernel
theorem dX0_isOfNumbers_5 : decode cX0_isOfNumbers 5 = .ok (.if_icmp .lt 16, 3) := by decide +kernel
theorem dX0_isOfNumbers_8 : decode cX0_isOfNumbers 8 = .ok (.aload_n 0, 1) := by decide +kernel
theorem dX0_isOfNumbers_9 : decode cX0_isOfNumbers 9 = .ok (.getfield 9, 3) := by decide +kernel
theorem dX0_isOfNumbers_12 : decode cX0_isOfNumbers 12 = .ok (.bipush 9, 2) := by decide +kernel
theorem dX0_isOfNumbers_14 : decode cX0_isOfNumbers 14 = .ok (.if_icmp .gt 7, 3) := by decide +kernel
theorem dX0_isOfNumbers_17 : decode cX0_isOfNumbers 17 = .ok (.iconst 1, 1) := by decide +kernel
theorem dX0_isOfNumbers_18 : decode cX0_isOfNumbers 18 = .ok (.goto 4, 3) := by decide +kernel
theorem dX0_isOfNumbers_21 : decode cX0_isOfNumbers 21 = .ok (.iconst 0, 1) := by decide +kernel
theorem dX0_isOfNumbers_22 : decode cX0_isOfNumbers 22 = .ok (.ireturn, 1) := by decide +kernel
theorem dX0_hasPlace_0 : decode cX0_hasPlace 0 = .ok (.iload_n 1, 1) := by decide +kernel
theorem dX0_hasPlace_1 : decode cX0_hasPlace 1 = .ok (.ifCond .lt 15, 3) := by decide +kernel
theorem dX0_hasPlace_4 : decode cX0_hasPlace 4 = .ok (.iload_n 1, 1) := by decide +kernel
theorem dX0_hasPlace_5 : decode cX0_hasPlace 5 = .ok (.aload_n 0, 1) := by decide +kernel
theorem dX0_hasPlace_6 : decode cX0_hasPlace 6 = .ok (.getfield 15, 3) := by decide +kernel
theorem dX0_hasPlace_9 : decode cX0_hasPlace 9 = .ok (.if_icmp .ge 7, 3) := by decide +kernel
theorem dX0_hasPlace_12 : decode cX0_hasPlace 12 = .ok (.iconst 1, 1) := by decide +kernel
theorem dX0_hasPlace_13 : decode cX0_hasPlace 13 = .ok (.goto 4, 3) := by decide +kernel
theorem dX0_hasPlace_16 : decode cX0_hasPlace 16 = .ok (.iconst 0, 1) := by decide +kernel
theorem dX0_hasPlace_17 : decode cX0_hasPlace 17 = .ok (.ireturn, 1) := by decide +kernel
theorem dX0_hasPlaces_0 : decode cX0_hasPlaces 0 = .ok (.iload_n 1, 1) := by decide +kernel
theorem dX0_hasPlaces_1 : decode cX0_hasPlaces 1 = .ok (.ifCond .lt 25, 3) := by decide +kernel
theorem dX0_hasPlaces_4 : decode cX0_hasPlaces 4 = .ok (.iload_n 2, 1) := by decide +kernel
theorem dX0_hasPlaces_5 : decode cX0_hasPlaces 5 = .ok (.ifCond .lt 21, 3) := by decide +kernel
theorem dX0_hasPlaces_8 : decode cX0_hasPlaces 8 = .ok (.iload_n 1, 1) := by decide +kernel
theorem dX0_hasPlaces_9 : decode cX0_hasPlaces 9 = .ok (.i2l, 1) := by decide +kernel
theorem dX0_hasPlaces_10 : decode cX0_hasPlaces 10 = .ok (.iload_n 2, 1) := by decide +kernel
theorem dX0_hasPlaces_11 : decode cX0_hasPlaces 11 = .ok (.i2l, 1) := by decide +kernel
theorem dX0_hasPlaces_12 : decode cX0_hasPlaces 12 = .ok (.ladd, 1) := by decide +kernel
theorem dX0_hasPlaces_13 : decode cX0_hasPlaces 13 = .ok (.aload_n 0, 1) := by decide +kernel
theorem dX0_hasPlaces_14 : decode cX0_hasPlaces 14 = .ok (.getfield 15, 3) := by decide +kernel
theorem dX0_hasPlaces_17 : decode cX0_hasPlaces 17 = .ok (.i2l, 1) := by decide +kernel
theorem dX0_hasPlaces_18 : decode cX0_hasPlaces 18 = .ok (.lcmp, 1) := by decide +kernel
theorem dX0_hasPlaces_19 : decode cX0_hasPlaces 19 = .ok (.ifCond .gt 7, 3) := by decide +kernel
theorem dX0_hasPlaces_22 : decode cX0_hasPlaces 22 = .ok (.iconst 1, 1) := by decide +kernel
theorem dX0_hasPlaces_23 : decode cX0_hasPlaces 23 = .ok (.goto 4, 3) := by decide +kernel
theorem dX0_hasPlaces_26 : decode cX0_hasPlaces 26 = .ok (.iconst 0, 1) := by decide +kernel
theorem dX0_hasPlaces_27 : decode cX0_hasPlaces 27 = .ok (.ireturn, 1) := by decide +kernel
set_option maxRecDepth 20000 in
theorem ggX0_accepts_X0_sortOfThing : GoodIn wsX0_accepts wsX0_sortOfThing := goodIn_r _ [7] (by decide +kernel) (by decide +kernel)
set_option maxRecDepth 20000 in
theorem gX0_accepts_X0_sortOfThing_u29X0 : GoodIn wsX0_accepts (va_wsU RX0 29 RX0 "BeadBench$Thing" ⟨"BeadBench$Thing", "sortOfThing", "()I"⟩ yX0_sortOfThing wsX0_sortOfThing) := goodIn_app (goodIn_of _ (by decide +kernel)) ggX0_accepts_X0_sortOfThing
set_option maxRecDepth 20000 in
theorem ggX0_accepts_X1_sortOfThing : GoodIn wsX0_accepts wsX1_sortOfThing := goodIn_r _ [11, 12, 18, 19, 20] (by decide +kernel) (by decide +kernel)
set_option maxRecDepth 20000 in
theorem gX0_accepts_X1_sortOfThing_u29X1 : GoodIn wsX0_accepts (va_wsU RX0 29 RX1 "BeadBench$Thing" ⟨"BeadBench$Thing", "sortOfThing", "()I"⟩ yX1_sortOfThing wsX1_sortOfThing) := goodIn_app (goodIn_of _ (by decide +kernel)) ggX0_accepts_X1_sortOfThing
theorem dX0_accepts_0 : decode cX0_accepts 0 = .ok (.aload_n 1, 1) := by decide +kernel
theorem dX0_accepts_1 : decode cX0_accepts 1 = .ok (.ifnonnull 5, 3) := by decide +kernel
theorem dX0_accepts_4 : decode cX0_accepts 4 = .ok (.iconst 1, 1) := by decide +kernel
theorem dX0_accepts_5 : decode cX0_accepts 5 = .ok (.ireturn, 1) := by decide +kernel
theorem dX0_accepts_6 : decode cX0_accepts 6 = .ok (.aload_n 1, 1) := by decide +kernel
theorem dX0_accepts_7 : decode cX0_accepts 7 = .ok (.invokevirtual 29, 3) := by decide +kernel
theorem dX0_accepts_10 : decode cX0_accepts 10 = .ok (.istore_n 2, 1) := by decide +kernel
theorem dX0_accepts_11 : decode cX0_accepts 11 = .ok (.aload_n 0, 1) := by decide +kernel
theorem dX0_accepts_12 : decode cX0_accepts 12 = .ok (.getfield 9, 3) := by decide +kernel
theorem dX0_accepts_15 : decode cX0_accepts 15 = .ok (.tableswitch 80 10 13 #[29, 41, 52, 68], 29) := by decide +kernel
theorem dX0_accepts_44 : decode cX0_accepts 44 = .ok (.iload_n 2, 1) := by decide +kernel
theorem dX0_accepts_45 : decode cX0_accepts 45 = .ok (.bipush 6, 2) := by decide +kernel
theorem dX0_accepts_47 : decode cX0_accepts 47 = .ok (.if_icmp .eq 7, 3) := by decide +kernel
theorem dX0_accepts_50 : decode cX0_accepts 50 = .ok (.iconst 1, 1) := by decide +kernel
theorem dX0_accepts_51 : decode cX0_accepts 51 = .ok (.goto 4, 3) := by decide +kernel
theorem dX0_accepts_54 : decode cX0_accepts 54 = .ok (.iconst 0, 1) := by decide +kernel
theorem dX0_accepts_55 : decode cX0_accepts 55 = .ok (.ireturn, 1) := by decide +kernel
theorem dX0_accepts_56 : decode cX0_accepts 56 = .ok (.iload_n 2, 1) := by decide +kernel
theorem dX0_accepts_57 : decode cX0_accepts 57 = .ok (.iconst 3, 1) := by decide +kernel
theorem dX0_accepts_58 : decode cX0_accepts 58 = .ok (.if_icmp .ne 7, 3) := by decide +kernel
theorem dX0_accepts_61 : decode cX0_accepts 61 = .ok (.iconst 1, 1) := by decide +kernel
theorem dX0_accepts_62 : decode cX0_accepts 62 = .ok (.goto 4, 3) := by decide +kernel
theorem dX0_accepts_65 : decode cX0_accepts 65 = .ok (.iconst 0, 1) := by decide +kernel
theorem dX0_accepts_66 : decode cX0_accepts 66 = .ok (.ireturn, 1) := by decide +kernel
theorem dX0_accepts_67 : decode cX0_accepts 67 = .ok (.iload_n 2, 1) := by decide +kernel
theorem dX0_accepts_68 : decode cX0_accepts 68 = .ok (.iconst 4, 1) := by decide +kernel
theorem dX0_accepts_69 : decode cX0_accepts 69 = .ok (.if_icmp .eq 8, 3) := by decide +kernel
theorem dX0_accepts_72 : decode cX0_accepts 72 = .ok (.iload_n 2, 1) := by decide +kernel
theorem dX0_accepts_73 : decode cX0_accepts 73 = .ok (.iconst 5, 1) := by decide +kernel
theorem dX0_accepts_74 : decode cX0_accepts 74 = .ok (.if_icmp .ne 7, 3) := by decide +kernel
theorem dX0_accepts_77 : decode cX0_accepts 77 = .ok (.iconst 1, 1) := by decide +kernel
theorem dX0_accepts_78 : decode cX0_accepts 78 = .ok (.goto 4, 3) := by decide +kernel
theorem dX0_accepts_81 : decode cX0_accepts 81 = .ok (.iconst 0, 1) := by decide +kernel
theorem dX0_accepts_82 : decode cX0_accepts 82 = .ok (.ireturn, 1) := by decide +kernel
theorem dX0_accepts_83 : decode cX0_accepts 83 = .ok (.iload_n 2, 1) := by decide +kernel
theorem dX0_accepts_84 : decode cX0_accepts 84 = .ok (.bipush 6, 2) := by decide +kernel
theorem dX0_accepts_86 : decode cX0_accepts 86 = .ok (.if_icmp .ne 7, 3) := by decide +kernel
theorem dX0_accepts_89 : decode cX0_accepts 89 = .ok (.iconst 1, 1) := by decide +kernel
theorem dX0_accepts_90 : decode cX0_accepts 90 = .ok (.goto 4, 3) := by decide +kernel
theorem dX0_accepts_93 : decode cX0_accepts 93 = .ok (.iconst 0, 1) := by decide +kernel
theorem dX0_accepts_94 : decode cX0_accepts 94 = .ok (.ireturn, 1) := by decide +kernel
theorem dX0_accepts_95 : decode cX0_accepts 95 = .ok (.iconst 0, 1) := by decide +kernel
theorem dX0_accepts_96 : decode cX0_accepts 96 = .ok (.ireturn, 1) := by decide +kernel
theorem dX0_copyPlace_0 : decode cX0_copyPlace 0 = .ok (.aload_n 0, 1) := by decide +kernel
theorem dX0_copyPlace_1 : decode cX0_copyPlace 1 = .ok (.getfield 21, 3) := by decide +kernel
theorem dX0_copyPlace_4 : decode cX0_copyPlace 4 = .ok (.iload_n 1, 1) := by decide +kernel
theorem dX0_copyPlace_5 : decode cX0_copyPlace 5 = .ok (.aload_n 2, 1) := by decide +kernel
theorem dX0_copyPlace_6 : decode cX0_copyPlace 6 = .ok (.getfield 21, 3) := by decide +kernel
theorem dX0_copyPlace_9 : decode cX0_copyPlace 9 = .ok (.iload_n 3, 1) := by decide +kernel
theorem dX0_copyPlace_10 : decode cX0_copyPlace 10 = .ok (.laload, 1) := by decide +kernel
theorem dX0_copyPlace_11 : decode cX0_copyPlace 11 = .ok (.lastore, 1) := by decide +kernel
theorem dX0_copyPlace_12 : decode cX0_copyPlace 12 = .ok (.aload_n 0, 1) := by decide +kernel
theorem dX0_copyPlace_13 : decode cX0_copyPlace 13 = .ok (.getfield 25, 3) := by decide +kernel
theorem dX0_copyPlace_16 : decode cX0_copyPlace 16 = .ok (.iload_n 1, 1) := by decide +kernel
theorem dX0_copyPlace_17 : decode cX0_copyPlace 17 = .ok (.aload_n 2, 1) := by decide +kernel
theorem dX0_copyPlace_18 : decode cX0_copyPlace 18 = .ok (.getfield 25, 3) := by decide +kernel
theorem dX0_copyPlace_21 : decode cX0_copyPlace 21 = .ok (.iload_n 3, 1) := by decide +kernel
theorem dX0_copyPlace_22 : decode cX0_copyPlace 22 = .ok (.aaload, 1) := by decide +kernel
theorem dX0_copyPlace_23 : decode cX0_copyPlace 23 = .ok (.aastore, 1) := by decide +kernel
theorem dX0_copyPlace_24 : decode cX0_copyPlace 24 = .ok (.return_, 1) := by decide +kernel
theorem dX0_isAlike_0 : decode cX0_isAlike 0 = .ok (.aload_n 0, 1) := by decide +kernel
theorem dX0_isAlike_1 : decode cX0_isAlike 1 = .ok (.getfield 21, 3) := by decide +kernel
theorem dX0_isAlike_4 : decode cX0_isAlike 4 = .ok (.iload_n 1, 1) := by decide +kernel
theorem dX0_isAlike_5 : decode cX0_isAlike 5 = .ok (.laload, 1) := by decide +kernel
theorem dX0_isAlike_6 : decode cX0_isAlike 6 = .ok (.aload_n 2, 1) := by decide +kernel
theorem dX0_isAlike_7 : decode cX0_isAlike 7 = .ok (.getfield 21, 3) := by decide +kernel
theorem dX0_isAlike_10 : decode cX0_isAlike 10 = .ok (.iload_n 3, 1) := by decide +kernel
theorem dX0_isAlike_11 : decode cX0_isAlike 11 = .ok (.laload, 1) := by decide +kernel
theorem dX0_isAlike_12 : decode cX0_isAlike 12 = .ok (.lcmp, 1) := by decide +kernel
theorem dX0_isAlike_13 : decode cX0_isAlike 13 = .ok (.ifCond .ne 22, 3) := by decide +kernel
theorem dX0_isAlike_16 : decode cX0_isAlike 16 = .ok (.aload_n 0, 1) := by decide +kernel
theorem dX0_isAlike_17 : decode cX0_isAlike 17 = .ok (.getfield 25, 3) := by decide +kernel
theorem dX0_isAlike_20 : decode cX0_isAlike 20 = .ok (.iload_n 1, 1) := by decide +kernel
theorem dX0_isAlike_21 : decode cX0_isAlike 21 = .ok (.aaload, 1) := by decide +kernel
theorem dX0_isAlike_22 : decode cX0_isAlike 22 = .ok (.aload_n 2, 1) := by decide +kernel
theorem dX0_isAlike_23 : decode cX0_isAlike 23 = .ok (.getfield 25, 3) := by decide +kernel
theorem dX0_isAlike_26 : decode cX0_isAlike 26 = .ok (.iload_n 3, 1) := by decide +kernel
theorem dX0_isAlike_27 : decode cX0_isAlike 27 = .ok (.aaload, 1) := by decide +kernel
theorem dX0_isAlike_28 : decode cX0_isAlike 28 = .ok (.if_acmp .ne 7, 3) := by decide +kernel
theorem dX0_isAlike_31 : decode cX0_isAlike 31 = .ok (.iconst 1, 1) := by decide +kernel
theorem dX0_isAlike_32 : decode cX0_isAlike 32 = .ok (.goto 4, 3) := by decide +kernel
theorem dX0_isAlike_35 : decode cX0_isAlike 35 = .ok (.iconst 0, 1) := by decide +kernel
theorem dX0_isAlike_36 : decode cX0_isAlike 36 = .ok (.ireturn, 1) := by decide +kernel
set_option maxRecDepth 20000 in
theorem ggX1_init_X2_init : GoodIn wsX1_init wsX2_init := goodIn_r _ [6, 7, 8, 9] (by decide +kernel) (by decide +kernel)
set_option maxRecDepth 20000 in
theorem gX1_init_X2_init_n1 : GoodIn wsX1_init (wsX2_init) := ggX1_init_X2_init
theorem dX1_init_0 : decode cX1_init 0 = .ok (.aload_n 0, 1) := by decide +kernel
theorem dX1_init_1 : decode cX1_init 1 = .ok (.invokespecial 1, 3) := by decide +kernel
theorem dX1_init_4 : decode cX1_init 4 = .ok (.aload_n 0, 1) := by decide +kernel
theorem dX1_init_5 : decode cX1_init 5 = .ok (.iload_n 1, 1) := by decide +kernel
theorem dX1_init_6 : decode cX1_init 6 = .ok (.putfield 7, 3) := by decide +kernel
theorem dX1_init_9 : decode cX1_init 9 = .ok (.aload_n 0, 1) := by decide +kernel
theorem dX1_init_10 : decode cX1_init 10 = .ok (.iload_n 2, 1) := by decide +kernel
theorem dX1_init_11 : decode cX1_init 11 = .ok (.putfield 13, 3) := by decide +kernel
theorem dX1_init_14 : decode cX1_init 14 = .ok (.aload_n 0, 1) := by decide +kernel
theorem dX1_init_15 : decode cX1_init 15 = .ok (.iconst 0, 1) := by decide +kernel
theorem dX1_init_16 : decode cX1_init 16 = .ok (.putfield 16, 3) := by decide +kernel
theorem dX1_init_19 : decode cX1_init 19 = .ok (.return_, 1) := by decide +kernel
theorem dX1_sortOfThing_0 : decode cX1_sortOfThing 0 = .ok (.aload_n 0, 1) := by decide +kernel
theorem dX1_sortOfThing_1 : decode cX1_sortOfThing 1 = .ok (.getfield 7, 3) := by decide +kernel
theorem dX1_sortOfThing_4 : decode cX1_sortOfThing 4 = .ok (.ireturn, 1) := by decide +kernel
theorem dX1_count_0 : decode cX1_count 0 = .ok (.aload_n 0, 1) := by decide +kernel
theorem dX1_count_1 : decode cX1_count 1 = .ok (.getfield 13, 3) := by decide +kernel
theorem dX1_count_4 : decode cX1_count 4 = .ok (.ireturn, 1) := by decide +kernel
theorem dX1_shine_0 : decode cX1_shine 0 = .ok (.aload_n 0, 1) := by decide +kernel
theorem dX1_shine_1 : decode cX1_shine 1 = .ok (.getfield 16, 3) := by decide +kernel
theorem dX1_shine_4 : decode cX1_shine 4 = .ok (.ireturn, 1) := by decide +kernel
theorem dX2_init_0 : decode cX2_init 0 = .ok (.aload_n 0, 1) := by decide +kernel
theorem dX2_init_1 : decode cX2_init 1 = .ok (.invokespecial 1, 3) := by decide +kernel
theorem dX2_init_4 : decode cX2_init 4 = .ok (.return_, 1) := by decide +kernel
set_option maxRecDepth 20000 in
theorem ggX3_init_X0_init : GoodIn wsX3_init wsX0_init := goodIn_r _ [17, 18, 19, 20, 21, 22, 23, 24, 25, 26, 27, 28, 2, 3, 29, 30, 31, 32, 33] (by decide +kernel) (by decide +kernel)
set_option maxRecDepth 20000 in
theorem gX3_init_X0_init : GoodIn wsX3_init (wsX0_init) := ggX3_init_X0_init
theorem dX3_init_0 : decode cX3_init 0 = .ok (.aload_n 0, 1) := by decide +kernel
theorem dX3_init_1 : decode cX3_init 1 = .ok (.invokespecial 1, 3) := by decide +kernel
theorem dX3_init_4 : decode cX3_init 4 = .ok (.aload_n 0, 1) := by decide +kernel
theorem dX3_init_5 : decode cX3_init 5 = .ok (.new 7, 3) := by decide +kernel
theorem dX3_init_8 : decode cX3_init 8 = .ok (.dup, 1) := by decide +kernel
theorem dX3_init_9 : decode cX3_init 9 = .ok (.iconst 0, 1) := by decide +kernel
theorem dX3_init_10 : decode cX3_init 10 = .ok (.iconst 0, 1) := by decide +kernel
theorem dX3_init_11 : decode cX3_init 11 = .ok (.iconst 0, 1) := by decide +kernel
theorem dX3_init_12 : decode cX3_init 12 = .ok (.invokespecial 11, 3) := by decide +kernel
theorem dX3_init_15 : decode cX3_init 15 = .ok (.putfield 14, 3) := by decide +kernel
theorem dX3_init_18 : decode cX3_init 18 = .ok (.aload_n 0, 1) := by decide +kernel
theorem dX3_init_19 : decode cX3_init 19 = .ok (.bipush 12, 2) := by decide +kernel
theorem dX3_init_21 : decode cX3_init 21 = .ok (.anewarray 7, 3) := by decide +kernel
theorem dX3_init_24 : decode cX3_init 24 = .ok (.putfield 18, 3) := by decide +kernel
theorem dX3_init_27 : decode cX3_init 27 = .ok (.iconst 0, 1) := by decide +kernel
theorem dX3_init_28 : decode cX3_init 28 = .ok (.istore_n 1, 1) := by decide +kernel
theorem dX3_init_29 : decode cX3_init 29 = .ok (.iload_n 1, 1) := by decide +kernel
theorem dX3_init_30 : decode cX3_init 30 = .ok (.bipush 12, 2) := by decide +kernel
theorem dX3_init_32 : decode cX3_init 32 = .ok (.if_icmp .ge 19, 3) := by decide +kernel
theorem dX3_init_35 : decode cX3_init 35 = .ok (.aload_n 0, 1) := by decide +kernel
theorem dX3_init_36 : decode cX3_init 36 = .ok (.getfield 18, 3) := by decide +kernel
theorem dX3_init_39 : decode cX3_init 39 = .ok (.iload_n 1, 1) := by decide +kernel
theorem dX3_init_40 : decode cX3_init 40 = .ok (.aload_n 0, 1) := by decide +kernel
theorem dX3_init_41 : decode cX3_init 41 = .ok (.getfield 14, 3) := by decide +kernel
theorem dX3_init_44 : decode cX3_init 44 = .ok (.aastore, 1) := by decide +kernel
theorem dX3_init_45 : decode cX3_init 45 = .ok (.iinc 1 1, 3) := by decide +kernel
theorem dX3_init_48 : decode cX3_init 48 = .ok (.goto (-19), 3) := by decide +kernel
theorem dX3_init_51 : decode cX3_init 51 = .ok (.aload_n 0, 1) := by decide +kernel
theorem dX3_init_52 : decode cX3_init 52 = .ok (.new 7, 3) := by decide +kernel
theorem dX3_init_55 : decode cX3_init 55 = .ok (.dup, 1) := by decide +kernel
theorem dX3_init_56 : decode cX3_init 56 = .ok (.iconst 0, 1) := by decide +kernel
theorem dX3_init_57 : decode cX3_init 57 = .ok (.bipush 64, 2) := by decide +kernel
theorem dX3_init_59 : decode cX3_init 59 = .ok (.iconst 0, 1) := by decide +kernel
theorem dX3_init_60 : decode cX3_init 60 = .ok (.invokespecial 11, 3) := by decide +kernel
theorem dX3_init_63 : decode cX3_init 63 = .ok (.putfield 22, 3) := by decide +kernel
theorem dX3_init_66 : decode cX3_init 66 = .ok (.aload_n 0, 1) := by decide +kernel
theorem dX3_init_67 : decode cX3_init 67 = .ok (.aconst_null, 1) := by decide +kernel
theorem dX3_init_68 : decode cX3_init 68 = .ok (.putfield 25, 3) := by decide +kernel
theorem dX3_init_71 : decode cX3_init 71 = .ok (.aload_n 0, 1) := by decide +kernel
theorem dX3_init_72 : decode cX3_init 72 = .ok (.bipush 6, 2) := by decide +kernel
theorem dX3_init_74 : decode cX3_init 74 = .ok (.newarray .int, 2) := by decide +kernel
theorem dX3_init_76 : decode cX3_init 76 = .ok (.putfield 28, 3) := by decide +kernel
theorem dX3_init_79 : decode cX3_init 79 = .ok (.aload_n 0, 1) := by decide +kernel
theorem dX3_init_80 : decode cX3_init 80 = .ok (.iconst 0, 1) := by decide +kernel
theorem dX3_init_81 : decode cX3_init 81 = .ok (.putfield 32, 3) := by decide +kernel
theorem dX3_init_84 : decode cX3_init 84 = .ok (.aload_n 0, 1) := by decide +kernel
theorem dX3_init_85 : decode cX3_init 85 = .ok (.iconst 0, 1) := by decide +kernel
theorem dX3_init_86 : decode cX3_init 86 = .ok (.putfield 36, 3) := by decide +kernel
theorem dX3_init_89 : decode cX3_init 89 = .ok (.return_, 1) := by decide +kernel
set_option maxRecDepth 20000 in
theorem ggX3_lay_X3_isTray : GoodIn wsX3_lay wsX3_isTray := goodIn_r _ [8] (by decide +kernel) (by decide +kernel)
set_option maxRecDepth 20000 in
theorem gX3_lay_X3_isTray : GoodIn wsX3_lay (va_wsS RX3 39 yX3_isTray wsX3_isTray) := goodIn_app (goodIn_of _ (by decide +kernel)) ggX3_lay_X3_isTray
set_option maxRecDepth 20000 in
theorem ggX3_lay_X0_init : GoodIn wsX3_lay wsX0_init := goodIn_r _ [11, 12, 13, 14, 15, 16, 17, 18, 19, 20, 21, 22, 23, 24, 32, 33, 34, 35, 36] (by decide +kernel) (by decide +kernel)
set_option maxRecDepth 20000 in
theorem gX3_lay_X0_init : GoodIn wsX3_lay (wsX0_init) := ggX3_lay_X0_init
theorem dX3_lay_0 : decode cX3_lay 0 = .ok (.iload_n 1, 1) := by decide +kernel
theorem dX3_lay_1 : decode cX3_lay 1 = .ok (.invokestatic 39, 3) := by decide +kernel
theorem dX3_lay_4 : decode cX3_lay 4 = .ok (.ifCond .eq 24, 3) := by decide +kernel
theorem dX3_lay_7 : decode cX3_lay 7 = .ok (.iload_n 2, 1) := by decide +kernel
theorem dX3_lay_8 : decode cX3_lay 8 = .ok (.iconst 2, 1) := by decide +kernel
theorem dX3_lay_9 : decode cX3_lay 9 = .ok (.if_icmp .lt 19, 3) := by decide +kernel
theorem dX3_lay_12 : decode cX3_lay 12 = .ok (.iload_n 2, 1) := by decide +kernel
theorem dX3_lay_13 : decode cX3_lay 13 = .ok (.bipush 13, 2) := by decide +kernel
theorem dX3_lay_15 : decode cX3_lay 15 = .ok (.if_icmp .gt 13, 3) := by decide +kernel
theorem dX3_lay_18 : decode cX3_lay 18 = .ok (.iload_n 3, 1) := by decide +kernel
theorem dX3_lay_19 : decode cX3_lay 19 = .ok (.ifCond .lt 9, 3) := by decide +kernel
theorem dX3_lay_22 : decode cX3_lay 22 = .ok (.iload_n 3, 1) := by decide +kernel
theorem dX3_lay_23 : decode cX3_lay 23 = .ok (.bipush 64, 2) := by decide +kernel
theorem dX3_lay_25 : decode cX3_lay 25 = .ok (.if_icmp .le 6, 3) := by decide +kernel
theorem dX3_lay_28 : decode cX3_lay 28 = .ok (.bipush (-6), 2) := by decide +kernel
theorem dX3_lay_30 : decode cX3_lay 30 = .ok (.ireturn, 1) := by decide +kernel
theorem dX3_lay_31 : decode cX3_lay 31 = .ok (.aload_n 0, 1) := by decide +kernel
theorem dX3_lay_32 : decode cX3_lay 32 = .ok (.getfield 18, 3) := by decide +kernel
theorem dX3_lay_35 : decode cX3_lay 35 = .ok (.iload_n 1, 1) := by decide +kernel
theorem dX3_lay_36 : decode cX3_lay 36 = .ok (.new 7, 3) := by decide +kernel
theorem dX3_lay_39 : decode cX3_lay 39 = .ok (.dup, 1) := by decide +kernel
theorem dX3_lay_40 : decode cX3_lay 40 = .ok (.iload_n 2, 1) := by decide +kernel
theorem dX3_lay_41 : decode cX3_lay 41 = .ok (.iload_n 3, 1) := by decide +kernel
theorem dX3_lay_42 : decode cX3_lay 42 = .ok (.iconst 0, 1) := by decide +kernel
theorem dX3_lay_43 : decode cX3_lay 43 = .ok (.invokespecial 11, 3) := by decide +kernel
theorem dX3_lay_46 : decode cX3_lay 46 = .ok (.aastore, 1) := by decide +kernel
theorem dX3_lay_47 : decode cX3_lay 47 = .ok (.iload_n 3, 1) := by decide +kernel
theorem dX3_lay_48 : decode cX3_lay 48 = .ok (.ireturn, 1) := by decide +kernel
set_option maxRecDepth 20000 in
theorem ggX3_ticket_X3_isTray : GoodIn wsX3_ticket wsX3_isTray := goodIn_r _ [9] (by decide +kernel) (by decide +kernel)
set_option maxRecDepth 20000 in
theorem gX3_ticket_X3_isTray : GoodIn wsX3_ticket (va_wsS RX3 39 yX3_isTray wsX3_isTray) := goodIn_app (goodIn_of _ (by decide +kernel)) ggX3_ticket_X3_isTray
set_option maxRecDepth 20000 in
theorem ggX3_ticket_X0_init : GoodIn wsX3_ticket wsX0_init := goodIn_r _ [12, 13, 14, 15, 16, 17, 18, 19, 20, 21, 22, 23, 24, 25, 33, 34, 35, 36, 37] (by decide +kernel) (by decide +kernel)
set_option maxRecDepth 20000 in
theorem gX3_ticket_X0_init : GoodIn wsX3_ticket (wsX0_init) := ggX3_ticket_X0_init
theorem dX3_ticket_0 : decode cX3_ticket 0 = .ok (.iload_n 1, 1) := by decide +kernel
theorem dX3_ticket_1 : decode cX3_ticket 1 = .ok (.invokestatic 39, 3) := by decide +kernel
theorem dX3_ticket_4 : decode cX3_ticket 4 = .ok (.ifCond .eq 12, 3) := by decide +kernel
theorem dX3_ticket_7 : decode cX3_ticket 7 = .ok (.iload_n 2, 1) := by decide +kernel
theorem dX3_ticket_8 : decode cX3_ticket 8 = .ok (.ifCond .eq 10, 3) := by decide +kernel
theorem dX3_ticket_11 : decode cX3_ticket 11 = .ok (.iload_n 2, 1) := by decide +kernel
theorem dX3_ticket_12 : decode cX3_ticket 12 = .ok (.iconst 1, 1) := by decide +kernel
theorem dX3_ticket_13 : decode cX3_ticket 13 = .ok (.if_icmp .eq 5, 3) := by decide +kernel
theorem dX3_ticket_16 : decode cX3_ticket 16 = .ok (.iconst 0, 1) := by decide +kernel
theorem dX3_ticket_17 : decode cX3_ticket 17 = .ok (.ireturn, 1) := by decide +kernel
theorem dX3_ticket_18 : decode cX3_ticket 18 = .ok (.aload_n 0, 1) := by decide +kernel
theorem dX3_ticket_19 : decode cX3_ticket 19 = .ok (.getfield 18, 3) := by decide +kernel
theorem dX3_ticket_22 : decode cX3_ticket 22 = .ok (.iload_n 1, 1) := by decide +kernel
theorem dX3_ticket_23 : decode cX3_ticket 23 = .ok (.iload_n 2, 1) := by decide +kernel
theorem dX3_ticket_24 : decode cX3_ticket 24 = .ok (.iconst 1, 1) := by decide +kernel
theorem dX3_ticket_25 : decode cX3_ticket 25 = .ok (.if_icmp .ne 16, 3) := by decide +kernel
theorem dX3_ticket_28 : decode cX3_ticket 28 = .ok (.new 7, 3) := by decide +kernel
theorem dX3_ticket_31 : decode cX3_ticket 31 = .ok (.dup, 1) := by decide +kernel
theorem dX3_ticket_32 : decode cX3_ticket 32 = .ok (.iconst 1, 1) := by decide +kernel
theorem dX3_ticket_33 : decode cX3_ticket 33 = .ok (.iconst 0, 1) := by decide +kernel
theorem dX3_ticket_34 : decode cX3_ticket 34 = .ok (.iload_n 3, 1) := by decide +kernel
theorem dX3_ticket_35 : decode cX3_ticket 35 = .ok (.invokespecial 11, 3) := by decide +kernel
theorem dX3_ticket_38 : decode cX3_ticket 38 = .ok (.goto 7, 3) := by decide +kernel
theorem dX3_ticket_41 : decode cX3_ticket 41 = .ok (.aload_n 0, 1) := by decide +kernel
theorem dX3_ticket_42 : decode cX3_ticket 42 = .ok (.getfield 14, 3) := by decide +kernel
theorem dX3_ticket_45 : decode cX3_ticket 45 = .ok (.aastore, 1) := by decide +kernel
theorem dX3_ticket_46 : decode cX3_ticket 46 = .ok (.iconst 1, 1) := by decide +kernel
theorem dX3_ticket_47 : decode cX3_ticket 47 = .ok (.ireturn, 1) := by decide +kernel
set_option maxRecDepth 20000 in
theorem ggX3_share_X3_isTray : GoodIn wsX3_share wsX3_isTray := goodIn_r _ [5] (by decide +kernel) (by decide +kernel)
set_option maxRecDepth 20000 in
theorem gX3_share_X3_isTray : GoodIn wsX3_share (va_wsS RX3 39 yX3_isTray wsX3_isTray) := goodIn_app (goodIn_of _ (by decide +kernel)) ggX3_share_X3_isTray
theorem dX3_share_0 : decode cX3_share 0 = .ok (.iload_n 1, 1) := by decide +kernel
theorem dX3_share_1 : decode cX3_share 1 = .ok (.invokestatic 39, 3) := by decide +kernel
theorem dX3_share_4 : decode cX3_share 4 = .ok (.ifCond .eq 10, 3) := by decide +kernel
theorem dX3_share_7 : decode cX3_share 7 = .ok (.iload_n 2, 1) := by decide +kernel
theorem dX3_share_8 : decode cX3_share 8 = .ok (.invokestatic 39, 3) := by decide +kernel
theorem dX3_share_11 : decode cX3_share 11 = .ok (.ifCond .ne 6, 3) := by decide +kernel
theorem dX3_share_14 : decode cX3_share 14 = .ok (.bipush (-6), 2) := by decide +kernel
theorem dX3_share_16 : decode cX3_share 16 = .ok (.ireturn, 1) := by decide +kernel
theorem dX3_share_17 : decode cX3_share 17 = .ok (.aload_n 0, 1) := by decide +kernel
theorem dX3_share_18 : decode cX3_share 18 = .ok (.getfield 18, 3) := by decide +kernel
theorem dX3_share_21 : decode cX3_share 21 = .ok (.iload_n 2, 1) := by decide +kernel
theorem dX3_share_22 : decode cX3_share 22 = .ok (.aload_n 0, 1) := by decide +kernel
theorem dX3_share_23 : decode cX3_share 23 = .ok (.getfield 18, 3) := by decide +kernel
theorem dX3_share_26 : decode cX3_share 26 = .ok (.iload_n 1, 1) := by decide +kernel
theorem dX3_share_27 : decode cX3_share 27 = .ok (.aaload, 1) := by decide +kernel
theorem dX3_share_28 : decode cX3_share 28 = .ok (.aastore, 1) := by decide +kernel
theorem dX3_share_29 : decode cX3_share 29 = .ok (.aload_n 0, 1) := by decide +kernel
theorem dX3_share_30 : decode cX3_share 30 = .ok (.getfield 18, 3) := by decide +kernel
theorem dX3_share_33 : decode cX3_share 33 = .ok (.iload_n 2, 1) := by decide +kernel
theorem dX3_share_34 : decode cX3_share 34 = .ok (.aaload, 1) := by decide +kernel
theorem dX3_share_35 : decode cX3_share 35 = .ok (.getfield 43, 3) := by decide +kernel
theorem dX3_share_38 : decode cX3_share 38 = .ok (.ireturn, 1) := by decide +kernel
set_option maxRecDepth 20000 in
theorem ggX3_put_X3_isTray : GoodIn wsX3_put wsX3_isTray := goodIn_r _ [5] (by decide +kernel) (by decide +kernel)
set_option maxRecDepth 20000 in
theorem gX3_put_X3_isTray : GoodIn wsX3_put (va_wsS RX3 39 yX3_isTray wsX3_isTray) := goodIn_app (goodIn_of _ (by decide +kernel)) ggX3_put_X3_isTray
set_option maxRecDepth 20000 in
theorem ggX3_put_X0_refusal : GoodIn wsX3_put wsX0_refusal := goodIn_r _ [10, 11, 71, 72, 73, 74, 75] (by decide +kernel) (by decide +kernel)
set_option maxRecDepth 20000 in
theorem gX3_put_X0_refusal : GoodIn wsX3_put (wsV RX3 46 RX0 yX0_refusal wsX0_refusal) := goodIn_app (goodIn_of _ (by decide +kernel)) ggX3_put_X0_refusal
set_option maxRecDepth 20000 in
theorem ggX3_put_X3_thingFor : GoodIn wsX3_put wsX3_thingFor := goodIn_r _ [15, 1, 2, 3, 4, 5, 16, 17, 18, 19, 20, 21, 22, 23, 24, 25, 26, 27, 28, 29, 30, 31, 32, 33, 34, 35, 36, 37, 38, 39, 64, 65, 66, 67, 68, 69, 70, 71, 72, 73, 74, 75, 76, 77, 78] (by decide +kernel) (by decide +kernel)
set_option maxRecDepth 20000 in
theorem gX3_put_X3_thingFor : GoodIn wsX3_put (wsV RX3 50 RX3 yX3_thingFor wsX3_thingFor) := goodIn_app (goodIn_of _ (by decide +kernel)) ggX3_put_X3_thingFor
set_option maxRecDepth 20000 in
theorem ggX3_put_X0_hasPlace : GoodIn wsX3_put wsX0_hasPlace := goodIn_r _ [43, 44, 71, 72, 73, 74, 75] (by decide +kernel) (by decide +kernel)
set_option maxRecDepth 20000 in
theorem gX3_put_X0_hasPlace : GoodIn wsX3_put (wsV RX3 54 RX0 yX0_hasPlace wsX0_hasPlace) := goodIn_app (goodIn_of _ (by decide +kernel)) ggX3_put_X0_hasPlace
set_option maxRecDepth 20000 in
theorem ggX3_put_X0_accepts : GoodIn wsX3_put wsX0_accepts := goodIn_r _ [48, 11, 49, 50, 51, 52, 9, 53, 54, 55, 27, 56, 31, 71, 72, 73, 74, 75, 76, 77, 78] (by decide +kernel) (by decide +kernel)
set_option maxRecDepth 20000 in
theorem gX3_put_X0_accepts : GoodIn wsX3_put (wsV RX3 57 RX0 yX0_accepts wsX0_accepts) := goodIn_app (goodIn_of _ (by decide +kernel)) ggX3_put_X0_accepts
set_option maxRecDepth 20000 in
theorem ggX3_put_X0_isOfNumbers : GoodIn wsX3_put wsX0_isOfNumbers := goodIn_r _ [60, 11, 71, 72, 73, 74, 75] (by decide +kernel) (by decide +kernel)
set_option maxRecDepth 20000 in
theorem gX3_put_X0_isOfNumbers : GoodIn wsX3_put (wsV RX3 65 RX0 yX0_isOfNumbers wsX0_isOfNumbers) := goodIn_app (goodIn_of _ (by decide +kernel)) ggX3_put_X0_isOfNumbers
set_option maxRecDepth 20000 in
theorem ggX3_put_X3_numberFor : GoodIn wsX3_put wsX3_numberFor := goodIn_r _ [63] (by decide +kernel) (by decide +kernel)
set_option maxRecDepth 20000 in
theorem gX3_put_X3_numberFor : GoodIn wsX3_put (va_wsS RX3 69 yX3_numberFor wsX3_numberFor) := goodIn_app (goodIn_of _ (by decide +kernel)) ggX3_put_X3_numberFor
theorem dX3_put_0 : decode cX3_put 0 = .ok (.iload_n 1, 1) := by decide +kernel
theorem dX3_put_1 : decode cX3_put 1 = .ok (.invokestatic 39, 3) := by decide +kernel
theorem dX3_put_4 : decode cX3_put 4 = .ok (.ifCond .ne 6, 3) := by decide +kernel
theorem dX3_put_7 : decode cX3_put 7 = .ok (.bipush (-6), 2) := by decide +kernel
theorem dX3_put_9 : decode cX3_put 9 = .ok (.ireturn, 1) := by decide +kernel
theorem dX3_put_10 : decode cX3_put 10 = .ok (.aload_n 0, 1) := by decide +kernel
theorem dX3_put_11 : decode cX3_put 11 = .ok (.getfield 18, 3) := by decide +kernel
theorem dX3_put_14 : decode cX3_put 14 = .ok (.iload_n 1, 1) := by decide +kernel
theorem dX3_put_15 : decode cX3_put 15 = .ok (.aaload, 1) := by decide +kernel
theorem dX3_put_16 : decode cX3_put 16 = .ok (.astore 4, 2) := by decide +kernel
theorem dX3_put_18 : decode cX3_put 18 = .ok (.aload 4, 2) := by decide +kernel
theorem dX3_put_20 : decode cX3_put 20 = .ok (.invokevirtual 46, 3) := by decide +kernel
theorem dX3_put_23 : decode cX3_put 23 = .ok (.istore 5, 2) := by decide +kernel
theorem dX3_put_25 : decode cX3_put 25 = .ok (.iload 5, 2) := by decide +kernel
theorem dX3_put_27 : decode cX3_put 27 = .ok (.ifCond .eq 6, 3) := by decide +kernel
theorem dX3_put_30 : decode cX3_put 30 = .ok (.iload 5, 2) := by decide +kernel
theorem dX3_put_32 : decode cX3_put 32 = .ok (.ireturn, 1) := by decide +kernel
theorem dX3_put_33 : decode cX3_put 33 = .ok (.aload_n 0, 1) := by decide +kernel
theorem dX3_put_34 : decode cX3_put 34 = .ok (.aload 4, 2) := by decide +kernel
theorem dX3_put_36 : decode cX3_put 36 = .ok (.getfield 43, 3) := by decide +kernel
theorem dX3_put_39 : decode cX3_put 39 = .ok (.iload_n 3, 1) := by decide +kernel
theorem dX3_put_40 : decode cX3_put 40 = .ok (.invokevirtual 50, 3) := by decide +kernel
theorem dX3_put_43 : decode cX3_put 43 = .ok (.astore 6, 2) := by decide +kernel
theorem dX3_put_45 : decode cX3_put 45 = .ok (.aload 4, 2) := by decide +kernel
theorem dX3_put_47 : decode cX3_put 47 = .ok (.iload_n 2, 1) := by decide +kernel
theorem dX3_put_48 : decode cX3_put 48 = .ok (.invokevirtual 54, 3) := by decide +kernel
theorem dX3_put_51 : decode cX3_put 51 = .ok (.ifCond .ne 6, 3) := by decide +kernel
theorem dX3_put_54 : decode cX3_put 54 = .ok (.bipush (-4), 2) := by decide +kernel
theorem dX3_put_56 : decode cX3_put 56 = .ok (.ireturn, 1) := by decide +kernel
theorem dX3_put_57 : decode cX3_put 57 = .ok (.aload 4, 2) := by decide +kernel
theorem dX3_put_59 : decode cX3_put 59 = .ok (.aload 6, 2) := by decide +kernel
theorem dX3_put_61 : decode cX3_put 61 = .ok (.invokevirtual 57, 3) := by decide +kernel
theorem dX3_put_64 : decode cX3_put 64 = .ok (.ifCond .ne 6, 3) := by decide +kernel
theorem dX3_put_67 : decode cX3_put 67 = .ok (.bipush (-3), 2) := by decide +kernel
theorem dX3_put_69 : decode cX3_put 69 = .ok (.ireturn, 1) := by decide +kernel
theorem dX3_put_70 : decode cX3_put 70 = .ok (.aload 4, 2) := by decide +kernel
theorem dX3_put_72 : decode cX3_put 72 = .ok (.getfield 61, 3) := by decide +kernel
theorem dX3_put_75 : decode cX3_put 75 = .ok (.iload_n 2, 1) := by decide +kernel
theorem dX3_put_76 : decode cX3_put 76 = .ok (.aload 4, 2) := by decide +kernel
theorem dX3_put_78 : decode cX3_put 78 = .ok (.invokevirtual 65, 3) := by decide +kernel
theorem dX3_put_81 : decode cX3_put 81 = .ok (.ifCond .eq 15, 3) := by decide +kernel
theorem dX3_put_84 : decode cX3_put 84 = .ok (.aload 4, 2) := by decide +kernel
theorem dX3_put_86 : decode cX3_put 86 = .ok (.getfield 43, 3) := by decide +kernel
theorem dX3_put_89 : decode cX3_put 89 = .ok (.iload_n 3, 1) := by decide +kernel
theorem dX3_put_90 : decode cX3_put 90 = .ok (.invokestatic 69, 3) := by decide +kernel
theorem dX3_put_93 : decode cX3_put 93 = .ok (.goto 4, 3) := by decide +kernel
theorem dX3_put_96 : decode cX3_put 96 = .ok (.lconst 0, 1) := by decide +kernel
theorem dX3_put_97 : decode cX3_put 97 = .ok (.lastore, 1) := by decide +kernel
theorem dX3_put_98 : decode cX3_put 98 = .ok (.aload 4, 2) := by decide +kernel
theorem dX3_put_100 : decode cX3_put 100 = .ok (.getfield 73, 3) := by decide +kernel
theorem dX3_put_103 : decode cX3_put 103 = .ok (.iload_n 2, 1) := by decide +kernel
theorem dX3_put_104 : decode cX3_put 104 = .ok (.aload 6, 2) := by decide +kernel
theorem dX3_put_106 : decode cX3_put 106 = .ok (.aastore, 1) := by decide +kernel
theorem dX3_put_107 : decode cX3_put 107 = .ok (.iconst 1, 1) := by decide +kernel
theorem dX3_put_108 : decode cX3_put 108 = .ok (.ireturn, 1) := by decide +kernel
set_option maxRecDepth 20000 in
theorem ggX3_move_X3_isTray : GoodIn wsX3_move wsX3_isTray := goodIn_r _ [5] (by decide +kernel) (by decide +kernel)
set_option maxRecDepth 20000 in
theorem gX3_move_X3_isTray : GoodIn wsX3_move (va_wsS RX3 39 yX3_isTray wsX3_isTray) := goodIn_app (goodIn_of _ (by decide +kernel)) ggX3_move_X3_isTray
set_option maxRecDepth 20000 in
theorem ggX3_move_X3_keep : GoodIn wsX3_move wsX3_keep := goodIn_r _ [9, 10, 11, 12, 13, 14, 15, 16, 17, 18, 19, 20, 21, 22, 23, 60, 61, 62, 63, 64, 65, 66, 67, 68, 69, 70, 71] (by decide +kernel) (by decide +kernel)
set_option maxRecDepth 20000 in
theorem gX3_move_X3_keep : GoodIn wsX3_move (wsV RX3 77 RX3 yX3_keep wsX3_keep) := goodIn_app (goodIn_of _ (by decide +kernel)) ggX3_move_X3_keep
set_option maxRecDepth 20000 in
theorem ggX3_move_X3_carry : GoodIn wsX3_move wsX3_carry := goodIn_r _ [27, 28, 11, 29, 30, 4, 31, 32, 33, 34, 15, 35, 17, 36, 37, 38, 39, 40, 41, 42, 43, 44, 45, 46, 47, 48, 49, 50, 51, 52, 53, 54, 18, 19, 20, 21, 22, 23, 60, 61, 62, 63, 64, 65, 66, 67, 68, 69, 70, 71, 72, 73, 74] (by decide +kernel) (by decide +kernel)
set_option maxRecDepth 20000 in
theorem gX3_move_X3_carry : GoodIn wsX3_move (wsV RX3 81 RX3 yX3_carry wsX3_carry) := goodIn_app (goodIn_of _ (by decide +kernel)) ggX3_move_X3_carry
set_option maxRecDepth 20000 in
theorem ggX3_move_X3_counted : GoodIn wsX3_move wsX3_counted := goodIn_r _ [58, 59, 60, 61, 62, 63, 64, 65, 66] (by decide +kernel) (by decide +kernel)
set_option maxRecDepth 20000 in
theorem gX3_move_X3_counted : GoodIn wsX3_move (wsV RX3 85 RX3 yX3_counted wsX3_counted) := goodIn_app (goodIn_of _ (by decide +kernel)) ggX3_move_X3_counted
theorem dX3_move_0 : decode cX3_move 0 = .ok (.iload_n 1, 1) := by decide +kernel
theorem dX3_move_1 : decode cX3_move 1 = .ok (.invokestatic 39, 3) := by decide +kernel
theorem dX3_move_4 : decode cX3_move 4 = .ok (.ifCond .eq 10, 3) := by decide +kernel
theorem dX3_move_7 : decode cX3_move 7 = .ok (.iload_n 3, 1) := by decide +kernel
theorem dX3_move_8 : decode cX3_move 8 = .ok (.invokestatic 39, 3) := by decide +kernel
theorem dX3_move_11 : decode cX3_move 11 = .ok (.ifCond .ne 6, 3) := by decide +kernel
theorem dX3_move_14 : decode cX3_move 14 = .ok (.bipush (-6), 2) := by decide +kernel
theorem dX3_move_16 : decode cX3_move 16 = .ok (.ireturn, 1) := by decide +kernel
theorem dX3_move_17 : decode cX3_move 17 = .ok (.aload_n 0, 1) := by decide +kernel
theorem dX3_move_18 : decode cX3_move 18 = .ok (.aload_n 0, 1) := by decide +kernel
theorem dX3_move_19 : decode cX3_move 19 = .ok (.getfield 18, 3) := by decide +kernel
theorem dX3_move_22 : decode cX3_move 22 = .ok (.iload_n 3, 1) := by decide +kernel
theorem dX3_move_23 : decode cX3_move 23 = .ok (.aaload, 1) := by decide +kernel
theorem dX3_move_24 : decode cX3_move 24 = .ok (.invokevirtual 77, 3) := by decide +kernel
theorem dX3_move_27 : decode cX3_move 27 = .ok (.aload_n 0, 1) := by decide +kernel
theorem dX3_move_28 : decode cX3_move 28 = .ok (.aload_n 0, 1) := by decide +kernel
theorem dX3_move_29 : decode cX3_move 29 = .ok (.aload_n 0, 1) := by decide +kernel
theorem dX3_move_30 : decode cX3_move 30 = .ok (.getfield 18, 3) := by decide +kernel
theorem dX3_move_33 : decode cX3_move 33 = .ok (.iload_n 1, 1) := by decide +kernel
theorem dX3_move_34 : decode cX3_move 34 = .ok (.aaload, 1) := by decide +kernel
theorem dX3_move_35 : decode cX3_move 35 = .ok (.iload_n 2, 1) := by decide +kernel
theorem dX3_move_36 : decode cX3_move 36 = .ok (.aload_n 0, 1) := by decide +kernel
theorem dX3_move_37 : decode cX3_move 37 = .ok (.getfield 18, 3) := by decide +kernel
theorem dX3_move_40 : decode cX3_move 40 = .ok (.iload_n 3, 1) := by decide +kernel
theorem dX3_move_41 : decode cX3_move 41 = .ok (.aaload, 1) := by decide +kernel
theorem dX3_move_42 : decode cX3_move 42 = .ok (.iload 4, 2) := by decide +kernel
theorem dX3_move_44 : decode cX3_move 44 = .ok (.iload 5, 2) := by decide +kernel
theorem dX3_move_46 : decode cX3_move 46 = .ok (.invokevirtual 81, 3) := by decide +kernel
theorem dX3_move_49 : decode cX3_move 49 = .ok (.invokevirtual 85, 3) := by decide +kernel
theorem dX3_move_52 : decode cX3_move 52 = .ok (.ireturn, 1) := by decide +kernel
set_option maxRecDepth 20000 in
theorem ggX3_open_X3_isTray : GoodIn wsX3_open wsX3_isTray := goodIn_r _ [5] (by decide +kernel) (by decide +kernel)
set_option maxRecDepth 20000 in
theorem gX3_open_X3_isTray : GoodIn wsX3_open (va_wsS RX3 39 yX3_isTray wsX3_isTray) := goodIn_app (goodIn_of _ (by decide +kernel)) ggX3_open_X3_isTray
set_option maxRecDepth 20000 in
theorem ggX3_open_X3_move : GoodIn wsX3_open wsX3_move := goodIn_r _ [9, 1, 2, 3, 4, 5, 10, 11, 12, 13, 14, 15, 16, 17, 18, 19, 20, 21, 22, 23, 24, 25, 26, 27, 28, 29, 30, 31, 32, 33, 34, 35, 36, 37, 38, 39, 40, 41, 42, 43, 44, 45, 46, 47, 48, 49, 50, 51, 52, 53, 54, 55, 56, 57, 58, 59, 60, 61, 62, 63, 64, 65, 66, 67, 68, 69, 70, 71, 72, 73, 74, 75, 76, 77, 78] (by decide +kernel) (by decide +kernel)
set_option maxRecDepth 20000 in
theorem gX3_open_X3_move : GoodIn wsX3_open (wsV RX3 92 RX3 yX3_move wsX3_move) := goodIn_app (goodIn_of _ (by decide +kernel)) ggX3_open_X3_move
theorem dX3_open_0 : decode cX3_open 0 = .ok (.iload_n 1, 1) := by decide +kernel
theorem dX3_open_1 : decode cX3_open 1 = .ok (.invokestatic 39, 3) := by decide +kernel
theorem dX3_open_4 : decode cX3_open 4 = .ok (.ifCond .ne 6, 3) := by decide +kernel
theorem dX3_open_7 : decode cX3_open 7 = .ok (.bipush (-6), 2) := by decide +kernel
theorem dX3_open_9 : decode cX3_open 9 = .ok (.ireturn, 1) := by decide +kernel
theorem dX3_open_10 : decode cX3_open 10 = .ok (.aload_n 0, 1) := by decide +kernel
theorem dX3_open_11 : decode cX3_open 11 = .ok (.iload_n 1, 1) := by decide +kernel
theorem dX3_open_12 : decode cX3_open 12 = .ok (.iload_n 2, 1) := by decide +kernel
theorem dX3_open_13 : decode cX3_open 13 = .ok (.iload_n 1, 1) := by decide +kernel
theorem dX3_open_14 : decode cX3_open 14 = .ok (.iload_n 2, 1) := by decide +kernel
theorem dX3_open_15 : decode cX3_open 15 = .ok (.iload_n 3, 1) := by decide +kernel
theorem dX3_open_16 : decode cX3_open 16 = .ok (.iadd, 1) := by decide +kernel
theorem dX3_open_17 : decode cX3_open 17 = .ok (.aload_n 0, 1) := by decide +kernel
theorem dX3_open_18 : decode cX3_open 18 = .ok (.getfield 18, 3) := by decide +kernel
theorem dX3_open_21 : decode cX3_open 21 = .ok (.iload_n 1, 1) := by decide +kernel
theorem dX3_open_22 : decode cX3_open 22 = .ok (.aaload, 1) := by decide +kernel
theorem dX3_open_23 : decode cX3_open 23 = .ok (.getfield 89, 3) := by decide +kernel
theorem dX3_open_26 : decode cX3_open 26 = .ok (.iload_n 2, 1) := by decide +kernel
theorem dX3_open_27 : decode cX3_open 27 = .ok (.isub, 1) := by decide +kernel
theorem dX3_open_28 : decode cX3_open 28 = .ok (.iload_n 3, 1) := by decide +kernel
theorem dX3_open_29 : decode cX3_open 29 = .ok (.isub, 1) := by decide +kernel
theorem dX3_open_30 : decode cX3_open 30 = .ok (.invokevirtual 92, 3) := by decide +kernel
theorem dX3_open_33 : decode cX3_open 33 = .ok (.ireturn, 1) := by decide +kernel
set_option maxRecDepth 20000 in
theorem ggX3_close_X3_isTray : GoodIn wsX3_close wsX3_isTray := goodIn_r _ [5] (by decide +kernel) (by decide +kernel)
set_option maxRecDepth 20000 in
theorem gX3_close_X3_isTray : GoodIn wsX3_close (va_wsS RX3 39 yX3_isTray wsX3_isTray) := goodIn_app (goodIn_of _ (by decide +kernel)) ggX3_close_X3_isTray
set_option maxRecDepth 20000 in
theorem ggX3_close_X3_move : GoodIn wsX3_close wsX3_move := goodIn_r _ [9, 1, 2, 3, 4, 5, 10, 11, 12, 13, 14, 15, 16, 17, 18, 19, 20, 21, 22, 23, 24, 25, 26, 27, 28, 29, 30, 31, 32, 33, 34, 35, 36, 37, 38, 39, 40, 41, 42, 43, 44, 45, 46, 47, 48, 49, 50, 51, 52, 53, 54, 55, 56, 57, 58, 59, 60, 61, 62, 63, 64, 65, 66, 67, 68, 69, 70, 71, 72, 73, 74, 75, 76, 77, 78] (by decide +kernel) (by decide +kernel)
set_option maxRecDepth 20000 in
theorem gX3_close_X3_move : GoodIn wsX3_close (wsV RX3 92 RX3 yX3_move wsX3_move) := goodIn_app (goodIn_of _ (by decide +kernel)) ggX3_close_X3_move
theorem dX3_close_0 : decode cX3_close 0 = .ok (.iload_n 1, 1) := by decide +kernel
theorem dX3_close_1 : decode cX3_close 1 = .ok (.invokestatic 39, 3) := by decide +kernel
theorem dX3_close_4 : decode cX3_close 4 = .ok (.ifCond .ne 6, 3) := by decide +kernel
theorem dX3_close_7 : decode cX3_close 7 = .ok (.bipush (-6), 2) := by decide +kernel
theorem dX3_close_9 : decode cX3_close 9 = .ok (.ireturn, 1) := by decide +kernel
theorem dX3_close_10 : decode cX3_close 10 = .ok (.aload_n 0, 1) := by decide +kernel
theorem dX3_close_11 : decode cX3_close 11 = .ok (.iload_n 1, 1) := by decide +kernel
theorem dX3_close_12 : decode cX3_close 12 = .ok (.iload_n 2, 1) := by decide +kernel
theorem dX3_close_13 : decode cX3_close 13 = .ok (.iload_n 3, 1) := by decide +kernel
theorem dX3_close_14 : decode cX3_close 14 = .ok (.iadd, 1) := by decide +kernel
theorem dX3_close_15 : decode cX3_close 15 = .ok (.iload_n 1, 1) := by decide +kernel
theorem dX3_close_16 : decode cX3_close 16 = .ok (.iload_n 2, 1) := by decide +kernel
theorem dX3_close_17 : decode cX3_close 17 = .ok (.aload_n 0, 1) := by decide +kernel
theorem dX3_close_18 : decode cX3_close 18 = .ok (.getfield 18, 3) := by decide +kernel
theorem dX3_close_21 : decode cX3_close 21 = .ok (.iload_n 1, 1) := by decide +kernel
theorem dX3_close_22 : decode cX3_close 22 = .ok (.aaload, 1) := by decide +kernel
theorem dX3_close_23 : decode cX3_close 23 = .ok (.getfield 89, 3) := by decide +kernel
theorem dX3_close_26 : decode cX3_close 26 = .ok (.iload_n 2, 1) := by decide +kernel
theorem dX3_close_27 : decode cX3_close 27 = .ok (.isub, 1) := by decide +kernel
theorem dX3_close_28 : decode cX3_close 28 = .ok (.iload_n 3, 1) := by decide +kernel
theorem dX3_close_29 : decode cX3_close 29 = .ok (.isub, 1) := by decide +kernel
theorem dX3_close_30 : decode cX3_close 30 = .ok (.invokevirtual 92, 3) := by decide +kernel
theorem dX3_close_33 : decode cX3_close 33 = .ok (.ireturn, 1) := by decide +kernel
set_option maxRecDepth 20000 in
theorem ggX3_turn_X3_isTray : GoodIn wsX3_turn wsX3_isTray := goodIn_r _ [6] (by decide +kernel) (by decide +kernel)
set_option maxRecDepth 20000 in
theorem gX3_turn_X3_isTray : GoodIn wsX3_turn (va_wsS RX3 39 yX3_isTray wsX3_isTray) := goodIn_app (goodIn_of _ (by decide +kernel)) ggX3_turn_X3_isTray
set_option maxRecDepth 20000 in
theorem ggX3_turn_X3_keep : GoodIn wsX3_turn wsX3_keep := goodIn_r _ [10, 11, 2, 12, 13, 14, 15, 16, 17, 18, 19, 20, 21, 22, 23, 33, 34, 35, 36, 37, 38, 39, 40, 41, 42, 43, 44] (by decide +kernel) (by decide +kernel)
set_option maxRecDepth 20000 in
theorem gX3_turn_X3_keep : GoodIn wsX3_turn (wsV RX3 77 RX3 yX3_keep wsX3_keep) := goodIn_app (goodIn_of _ (by decide +kernel)) ggX3_turn_X3_keep
set_option maxRecDepth 20000 in
theorem ggX3_turn_X0_refusal : GoodIn wsX3_turn wsX0_refusal := goodIn_r _ [16, 17, 40, 41, 42, 43, 44] (by decide +kernel) (by decide +kernel)
set_option maxRecDepth 20000 in
theorem gX3_turn_X0_refusal : GoodIn wsX3_turn (wsV RX3 46 RX0 yX0_refusal wsX0_refusal) := goodIn_app (goodIn_of _ (by decide +kernel)) ggX3_turn_X0_refusal
set_option maxRecDepth 20000 in
theorem ggX3_turn_X3_counted : GoodIn wsX3_turn wsX3_counted := goodIn_r _ [27, 28, 33, 34, 35, 36, 37, 38, 39] (by decide +kernel) (by decide +kernel)
set_option maxRecDepth 20000 in
theorem gX3_turn_X3_counted : GoodIn wsX3_turn (wsV RX3 85 RX3 yX3_counted wsX3_counted) := goodIn_app (goodIn_of _ (by decide +kernel)) ggX3_turn_X3_counted
set_option maxRecDepth 20000 in
theorem ggX3_turn_J9_floorMod_7cf53 : GoodIn wsX3_turn wsJ9_floorMod_7cf53 := goodIn_r _ [32] (by decide +kernel) (by decide +kernel)
set_option maxRecDepth 20000 in
theorem gX3_turn_J9_floorMod_7cf53 : GoodIn wsX3_turn (va_wsS RX3 96 yJ9_floorMod_7cf53 wsJ9_floorMod_7cf53) := goodIn_app (goodIn_of _ (by decide +kernel)) ggX3_turn_J9_floorMod_7cf53
set_option maxRecDepth 20000 in
theorem ggX3_turn_X0_copyPlace : GoodIn wsX3_turn wsX0_copyPlace := goodIn_r _ [21, 22, 23, 40, 41, 42, 43, 44] (by decide +kernel) (by decide +kernel)
set_option maxRecDepth 20000 in
theorem gX3_turn_X0_copyPlace : GoodIn wsX3_turn (wsV RX3 102 RX0 yX0_copyPlace wsX0_copyPlace) := goodIn_app (goodIn_of _ (by decide +kernel)) ggX3_turn_X0_copyPlace
theorem dX3_turn_0 : decode cX3_turn 0 = .ok (.iload_n 1, 1) := by decide +kernel
theorem dX3_turn_1 : decode cX3_turn 1 = .ok (.invokestatic 39, 3) := by decide +kernel
theorem dX3_turn_4 : decode cX3_turn 4 = .ok (.ifCond .ne 6, 3) := by decide +kernel
theorem dX3_turn_7 : decode cX3_turn 7 = .ok (.bipush (-6), 2) := by decide +kernel
theorem dX3_turn_9 : decode cX3_turn 9 = .ok (.ireturn, 1) := by decide +kernel
theorem dX3_turn_10 : decode cX3_turn 10 = .ok (.aload_n 0, 1) := by decide +kernel
theorem dX3_turn_11 : decode cX3_turn 11 = .ok (.getfield 18, 3) := by decide +kernel
theorem dX3_turn_14 : decode cX3_turn 14 = .ok (.iload_n 1, 1) := by decide +kernel
theorem dX3_turn_15 : decode cX3_turn 15 = .ok (.aaload, 1) := by decide +kernel
theorem dX3_turn_16 : decode cX3_turn 16 = .ok (.astore_n 3, 1) := by decide +kernel
theorem dX3_turn_17 : decode cX3_turn 17 = .ok (.aload_n 0, 1) := by decide +kernel
theorem dX3_turn_18 : decode cX3_turn 18 = .ok (.aload_n 3, 1) := by decide +kernel
theorem dX3_turn_19 : decode cX3_turn 19 = .ok (.invokevirtual 77, 3) := by decide +kernel
theorem dX3_turn_22 : decode cX3_turn 22 = .ok (.aload_n 3, 1) := by decide +kernel
theorem dX3_turn_23 : decode cX3_turn 23 = .ok (.invokevirtual 46, 3) := by decide +kernel
theorem dX3_turn_26 : decode cX3_turn 26 = .ok (.istore 4, 2) := by decide +kernel
theorem dX3_turn_28 : decode cX3_turn 28 = .ok (.iload 4, 2) := by decide +kernel
theorem dX3_turn_30 : decode cX3_turn 30 = .ok (.ifCond .eq 10, 3) := by decide +kernel
theorem dX3_turn_33 : decode cX3_turn 33 = .ok (.aload_n 0, 1) := by decide +kernel
theorem dX3_turn_34 : decode cX3_turn 34 = .ok (.iload 4, 2) := by decide +kernel
theorem dX3_turn_36 : decode cX3_turn 36 = .ok (.invokevirtual 85, 3) := by decide +kernel
theorem dX3_turn_39 : decode cX3_turn 39 = .ok (.ireturn, 1) := by decide +kernel
theorem dX3_turn_40 : decode cX3_turn 40 = .ok (.aload_n 3, 1) := by decide +kernel
theorem dX3_turn_41 : decode cX3_turn 41 = .ok (.getfield 89, 3) := by decide +kernel
theorem dX3_turn_44 : decode cX3_turn 44 = .ok (.istore 5, 2) := by decide +kernel
theorem dX3_turn_46 : decode cX3_turn 46 = .ok (.iload 5, 2) := by decide +kernel
theorem dX3_turn_48 : decode cX3_turn 48 = .ok (.ifCond .le 12, 3) := by decide +kernel
theorem dX3_turn_51 : decode cX3_turn 51 = .ok (.iload_n 2, 1) := by decide +kernel
theorem dX3_turn_52 : decode cX3_turn 52 = .ok (.iload 5, 2) := by decide +kernel
theorem dX3_turn_54 : decode cX3_turn 54 = .ok (.invokestatic 96, 3) := by decide +kernel
theorem dX3_turn_57 : decode cX3_turn 57 = .ok (.goto 4, 3) := by decide +kernel
theorem dX3_turn_60 : decode cX3_turn 60 = .ok (.iconst 0, 1) := by decide +kernel
theorem dX3_turn_61 : decode cX3_turn 61 = .ok (.istore 6, 2) := by decide +kernel
theorem dX3_turn_63 : decode cX3_turn 63 = .ok (.iconst 0, 1) := by decide +kernel
theorem dX3_turn_64 : decode cX3_turn 64 = .ok (.istore 7, 2) := by decide +kernel
theorem dX3_turn_66 : decode cX3_turn 66 = .ok (.iload 7, 2) := by decide +kernel
theorem dX3_turn_68 : decode cX3_turn 68 = .ok (.iload 5, 2) := by decide +kernel
theorem dX3_turn_70 : decode cX3_turn 70 = .ok (.if_icmp .ge 27, 3) := by decide +kernel
theorem dX3_turn_73 : decode cX3_turn 73 = .ok (.aload_n 3, 1) := by decide +kernel
theorem dX3_turn_74 : decode cX3_turn 74 = .ok (.iload 7, 2) := by decide +kernel
theorem dX3_turn_76 : decode cX3_turn 76 = .ok (.aload_n 0, 1) := by decide +kernel
theorem dX3_turn_77 : decode cX3_turn 77 = .ok (.getfield 22, 3) := by decide +kernel
theorem dX3_turn_80 : decode cX3_turn 80 = .ok (.iload 6, 2) := by decide +kernel
theorem dX3_turn_82 : decode cX3_turn 82 = .ok (.iload 7, 2) := by decide +kernel
theorem dX3_turn_84 : decode cX3_turn 84 = .ok (.iadd, 1) := by decide +kernel
theorem dX3_turn_85 : decode cX3_turn 85 = .ok (.iload 5, 2) := by decide +kernel
theorem dX3_turn_87 : decode cX3_turn 87 = .ok (.irem, 1) := by decide +kernel
theorem dX3_turn_88 : decode cX3_turn 88 = .ok (.invokevirtual 102, 3) := by decide +kernel
theorem dX3_turn_91 : decode cX3_turn 91 = .ok (.iinc 7 1, 3) := by decide +kernel
theorem dX3_turn_94 : decode cX3_turn 94 = .ok (.goto (-28), 3) := by decide +kernel
theorem dX3_turn_97 : decode cX3_turn 97 = .ok (.aload_n 0, 1) := by decide +kernel
theorem dX3_turn_98 : decode cX3_turn 98 = .ok (.iload 5, 2) := by decide +kernel
theorem dX3_turn_100 : decode cX3_turn 100 = .ok (.invokevirtual 85, 3) := by decide +kernel
theorem dX3_turn_103 : decode cX3_turn 103 = .ok (.ireturn, 1) := by decide +kernel
set_option maxRecDepth 20000 in
theorem ggX3_spread_X3_isTray : GoodIn wsX3_spread wsX3_isTray := goodIn_r _ [6] (by decide +kernel) (by decide +kernel)
set_option maxRecDepth 20000 in
theorem gX3_spread_X3_isTray : GoodIn wsX3_spread (va_wsS RX3 39 yX3_isTray wsX3_isTray) := goodIn_app (goodIn_of _ (by decide +kernel)) ggX3_spread_X3_isTray
set_option maxRecDepth 20000 in
theorem ggX3_spread_X3_keep : GoodIn wsX3_spread wsX3_keep := goodIn_r _ [10, 11, 2, 12, 13, 14, 15, 16, 17, 18, 19, 20, 21, 22, 23, 29, 30, 31, 32, 33, 34, 35, 36, 37, 38, 39, 40] (by decide +kernel) (by decide +kernel)
set_option maxRecDepth 20000 in
theorem gX3_spread_X3_keep : GoodIn wsX3_spread (wsV RX3 77 RX3 yX3_keep wsX3_keep) := goodIn_app (goodIn_of _ (by decide +kernel)) ggX3_spread_X3_keep
set_option maxRecDepth 20000 in
theorem ggX3_spread_X0_refusal : GoodIn wsX3_spread wsX0_refusal := goodIn_r _ [16, 17, 36, 37, 38, 39, 40] (by decide +kernel) (by decide +kernel)
set_option maxRecDepth 20000 in
theorem gX3_spread_X0_refusal : GoodIn wsX3_spread (wsV RX3 46 RX0 yX0_refusal wsX0_refusal) := goodIn_app (goodIn_of _ (by decide +kernel)) ggX3_spread_X0_refusal
set_option maxRecDepth 20000 in
theorem ggX3_spread_X3_counted : GoodIn wsX3_spread wsX3_counted := goodIn_r _ [27, 28, 29, 30, 31, 32, 33, 34, 35] (by decide +kernel) (by decide +kernel)
set_option maxRecDepth 20000 in
theorem gX3_spread_X3_counted : GoodIn wsX3_spread (wsV RX3 85 RX3 yX3_counted wsX3_counted) := goodIn_app (goodIn_of _ (by decide +kernel)) ggX3_spread_X3_counted
set_option maxRecDepth 20000 in
theorem ggX3_spread_X0_copyPlace : GoodIn wsX3_spread wsX0_copyPlace := goodIn_r _ [21, 22, 23, 36, 37, 38, 39, 40] (by decide +kernel) (by decide +kernel)
set_option maxRecDepth 20000 in
theorem gX3_spread_X0_copyPlace : GoodIn wsX3_spread (wsV RX3 102 RX0 yX0_copyPlace wsX0_copyPlace) := goodIn_app (goodIn_of _ (by decide +kernel)) ggX3_spread_X0_copyPlace
theorem dX3_spread_0 : decode cX3_spread 0 = .ok (.iload_n 1, 1) := by decide +kernel
theorem dX3_spread_1 : decode cX3_spread 1 = .ok (.invokestatic 39, 3) := by decide +kernel
theorem dX3_spread_4 : decode cX3_spread 4 = .ok (.ifCond .ne 6, 3) := by decide +kernel
theorem dX3_spread_7 : decode cX3_spread 7 = .ok (.bipush (-6), 2) := by decide +kernel
theorem dX3_spread_9 : decode cX3_spread 9 = .ok (.ireturn, 1) := by decide +kernel
theorem dX3_spread_10 : decode cX3_spread 10 = .ok (.aload_n 0, 1) := by decide +kernel
theorem dX3_spread_11 : decode cX3_spread 11 = .ok (.getfield 18, 3) := by decide +kernel
theorem dX3_spread_14 : decode cX3_spread 14 = .ok (.iload_n 1, 1) := by decide +kernel
theorem dX3_spread_15 : decode cX3_spread 15 = .ok (.aaload, 1) := by decide +kernel
theorem dX3_spread_16 : decode cX3_spread 16 = .ok (.astore_n 3, 1) := by decide +kernel
theorem dX3_spread_17 : decode cX3_spread 17 = .ok (.aload_n 0, 1) := by decide +kernel
theorem dX3_spread_18 : decode cX3_spread 18 = .ok (.aload_n 3, 1) := by decide +kernel
theorem dX3_spread_19 : decode cX3_spread 19 = .ok (.invokevirtual 77, 3) := by decide +kernel
theorem dX3_spread_22 : decode cX3_spread 22 = .ok (.aload_n 3, 1) := by decide +kernel
theorem dX3_spread_23 : decode cX3_spread 23 = .ok (.invokevirtual 46, 3) := by decide +kernel
theorem dX3_spread_26 : decode cX3_spread 26 = .ok (.istore 4, 2) := by decide +kernel
theorem dX3_spread_28 : decode cX3_spread 28 = .ok (.iload 4, 2) := by decide +kernel
theorem dX3_spread_30 : decode cX3_spread 30 = .ok (.ifCond .eq 10, 3) := by decide +kernel
theorem dX3_spread_33 : decode cX3_spread 33 = .ok (.aload_n 0, 1) := by decide +kernel
theorem dX3_spread_34 : decode cX3_spread 34 = .ok (.iload 4, 2) := by decide +kernel
theorem dX3_spread_36 : decode cX3_spread 36 = .ok (.invokevirtual 85, 3) := by decide +kernel
theorem dX3_spread_39 : decode cX3_spread 39 = .ok (.ireturn, 1) := by decide +kernel
theorem dX3_spread_40 : decode cX3_spread 40 = .ok (.iload_n 2, 1) := by decide +kernel
theorem dX3_spread_41 : decode cX3_spread 41 = .ok (.iconst 1, 1) := by decide +kernel
theorem dX3_spread_42 : decode cX3_spread 42 = .ok (.if_icmp .lt 11, 3) := by decide +kernel
theorem dX3_spread_45 : decode cX3_spread 45 = .ok (.iload_n 2, 1) := by decide +kernel
theorem dX3_spread_46 : decode cX3_spread 46 = .ok (.aload_n 3, 1) := by decide +kernel
theorem dX3_spread_47 : decode cX3_spread 47 = .ok (.getfield 89, 3) := by decide +kernel
theorem dX3_spread_50 : decode cX3_spread 50 = .ok (.if_icmp .le 10, 3) := by decide +kernel
theorem dX3_spread_53 : decode cX3_spread 53 = .ok (.aload_n 0, 1) := by decide +kernel
theorem dX3_spread_54 : decode cX3_spread 54 = .ok (.bipush (-4), 2) := by decide +kernel
theorem dX3_spread_56 : decode cX3_spread 56 = .ok (.invokevirtual 85, 3) := by decide +kernel
theorem dX3_spread_59 : decode cX3_spread 59 = .ok (.ireturn, 1) := by decide +kernel
theorem dX3_spread_60 : decode cX3_spread 60 = .ok (.iload_n 2, 1) := by decide +kernel
theorem dX3_spread_61 : decode cX3_spread 61 = .ok (.istore 5, 2) := by decide +kernel
theorem dX3_spread_63 : decode cX3_spread 63 = .ok (.iload 5, 2) := by decide +kernel
theorem dX3_spread_65 : decode cX3_spread 65 = .ok (.aload_n 3, 1) := by decide +kernel
theorem dX3_spread_66 : decode cX3_spread 66 = .ok (.getfield 89, 3) := by decide +kernel
theorem dX3_spread_69 : decode cX3_spread 69 = .ok (.if_icmp .ge 23, 3) := by decide +kernel
theorem dX3_spread_72 : decode cX3_spread 72 = .ok (.aload_n 3, 1) := by decide +kernel
theorem dX3_spread_73 : decode cX3_spread 73 = .ok (.iload 5, 2) := by decide +kernel
theorem dX3_spread_75 : decode cX3_spread 75 = .ok (.aload_n 0, 1) := by decide +kernel
theorem dX3_spread_76 : decode cX3_spread 76 = .ok (.getfield 22, 3) := by decide +kernel
theorem dX3_spread_79 : decode cX3_spread 79 = .ok (.iload 5, 2) := by decide +kernel
theorem dX3_spread_81 : decode cX3_spread 81 = .ok (.iload_n 2, 1) := by decide +kernel
theorem dX3_spread_82 : decode cX3_spread 82 = .ok (.irem, 1) := by decide +kernel
theorem dX3_spread_83 : decode cX3_spread 83 = .ok (.invokevirtual 102, 3) := by decide +kernel
theorem dX3_spread_86 : decode cX3_spread 86 = .ok (.iinc 5 1, 3) := by decide +kernel
theorem dX3_spread_89 : decode cX3_spread 89 = .ok (.goto (-26), 3) := by decide +kernel
theorem dX3_spread_92 : decode cX3_spread 92 = .ok (.aload_n 0, 1) := by decide +kernel
theorem dX3_spread_93 : decode cX3_spread 93 = .ok (.aload_n 3, 1) := by decide +kernel
theorem dX3_spread_94 : decode cX3_spread 94 = .ok (.getfield 89, 3) := by decide +kernel
theorem dX3_spread_97 : decode cX3_spread 97 = .ok (.invokevirtual 85, 3) := by decide +kernel
theorem dX3_spread_100 : decode cX3_spread 100 = .ok (.ireturn, 1) := by decide +kernel
set_option maxRecDepth 20000 in
theorem ggX3_undo_X0_copyPlace : GoodIn wsX3_undo wsX0_copyPlace := goodIn_r _ [7, 8, 9, 17, 18, 19, 20, 21] (by decide +kernel) (by decide +kernel)
set_option maxRecDepth 20000 in
theorem gX3_undo_X0_copyPlace : GoodIn wsX3_undo (wsV RX3 102 RX0 yX0_copyPlace wsX0_copyPlace) := goodIn_app (goodIn_of _ (by decide +kernel)) ggX3_undo_X0_copyPlace
theorem dX3_undo_0 : decode cX3_undo 0 = .ok (.aload_n 0, 1) := by decide +kernel
theorem dX3_undo_1 : decode cX3_undo 1 = .ok (.getfield 25, 3) := by decide +kernel
theorem dX3_undo_4 : decode cX3_undo 4 = .ok (.astore_n 1, 1) := by decide +kernel
theorem dX3_undo_5 : decode cX3_undo 5 = .ok (.aload_n 0, 1) := by decide +kernel
theorem dX3_undo_6 : decode cX3_undo 6 = .ok (.aconst_null, 1) := by decide +kernel
theorem dX3_undo_7 : decode cX3_undo 7 = .ok (.putfield 25, 3) := by decide +kernel
theorem dX3_undo_10 : decode cX3_undo 10 = .ok (.aload_n 1, 1) := by decide +kernel
theorem dX3_undo_11 : decode cX3_undo 11 = .ok (.ifnonnull 5, 3) := by decide +kernel
theorem dX3_undo_14 : decode cX3_undo 14 = .ok (.iconst (-1), 1) := by decide +kernel
theorem dX3_undo_15 : decode cX3_undo 15 = .ok (.ireturn, 1) := by decide +kernel
theorem dX3_undo_16 : decode cX3_undo 16 = .ok (.iconst 0, 1) := by decide +kernel
theorem dX3_undo_17 : decode cX3_undo 17 = .ok (.istore_n 2, 1) := by decide +kernel
theorem dX3_undo_18 : decode cX3_undo 18 = .ok (.iload_n 2, 1) := by decide +kernel
theorem dX3_undo_19 : decode cX3_undo 19 = .ok (.aload_n 1, 1) := by decide +kernel
theorem dX3_undo_20 : decode cX3_undo 20 = .ok (.getfield 89, 3) := by decide +kernel
theorem dX3_undo_23 : decode cX3_undo 23 = .ok (.if_icmp .ge 19, 3) := by decide +kernel
theorem dX3_undo_26 : decode cX3_undo 26 = .ok (.aload_n 1, 1) := by decide +kernel
theorem dX3_undo_27 : decode cX3_undo 27 = .ok (.iload_n 2, 1) := by decide +kernel
theorem dX3_undo_28 : decode cX3_undo 28 = .ok (.aload_n 0, 1) := by decide +kernel
theorem dX3_undo_29 : decode cX3_undo 29 = .ok (.getfield 22, 3) := by decide +kernel
theorem dX3_undo_32 : decode cX3_undo 32 = .ok (.iload_n 2, 1) := by decide +kernel
theorem dX3_undo_33 : decode cX3_undo 33 = .ok (.invokevirtual 102, 3) := by decide +kernel
theorem dX3_undo_36 : decode cX3_undo 36 = .ok (.iinc 2 1, 3) := by decide +kernel
theorem dX3_undo_39 : decode cX3_undo 39 = .ok (.goto (-21), 3) := by decide +kernel
theorem dX3_undo_42 : decode cX3_undo 42 = .ok (.aload_n 1, 1) := by decide +kernel
theorem dX3_undo_43 : decode cX3_undo 43 = .ok (.getfield 89, 3) := by decide +kernel
theorem dX3_undo_46 : decode cX3_undo 46 = .ok (.ireturn, 1) := by decide +kernel
set_option maxRecDepth 20000 in
theorem ggX3_match_X3_isTray : GoodIn wsX3_match wsX3_isTray := goodIn_r _ [9] (by decide +kernel) (by decide +kernel)
set_option maxRecDepth 20000 in
theorem gX3_match_X3_isTray : GoodIn wsX3_match (va_wsS RX3 39 yX3_isTray wsX3_isTray) := goodIn_app (goodIn_of _ (by decide +kernel)) ggX3_match_X3_isTray
set_option maxRecDepth 20000 in
theorem ggX3_match_X3_refusalOfPair : GoodIn wsX3_match wsX3_refusalOfPair := goodIn_r _ [12, 13, 14, 15, 16, 17, 18, 32, 33, 34, 35, 36] (by decide +kernel) (by decide +kernel)
set_option maxRecDepth 20000 in
theorem gX3_match_X3_refusalOfPair : GoodIn wsX3_match (va_wsS RX3 106 yX3_refusalOfPair wsX3_refusalOfPair) := goodIn_app (goodIn_of _ (by decide +kernel)) ggX3_match_X3_refusalOfPair
set_option maxRecDepth 20000 in
theorem ggX3_match_X0_isAlike : GoodIn wsX3_match wsX0_isAlike := goodIn_r _ [22, 23, 24, 32, 33, 34, 35, 36] (by decide +kernel) (by decide +kernel)
set_option maxRecDepth 20000 in
theorem gX3_match_X0_isAlike : GoodIn wsX3_match (wsV RX3 113 RX0 yX0_isAlike wsX0_isAlike) := goodIn_app (goodIn_of _ (by decide +kernel)) ggX3_match_X0_isAlike
theorem dX3_match_0 : decode cX3_match 0 = .ok (.iload_n 1, 1) := by decide +kernel
theorem dX3_match_1 : decode cX3_match 1 = .ok (.invokestatic 39, 3) := by decide +kernel
theorem dX3_match_4 : decode cX3_match 4 = .ok (.ifCond .eq 10, 3) := by decide +kernel
theorem dX3_match_7 : decode cX3_match 7 = .ok (.iload_n 3, 1) := by decide +kernel
theorem dX3_match_8 : decode cX3_match 8 = .ok (.invokestatic 39, 3) := by decide +kernel
theorem dX3_match_11 : decode cX3_match 11 = .ok (.ifCond .ne 6, 3) := by decide +kernel
theorem dX3_match_14 : decode cX3_match 14 = .ok (.bipush (-6), 2) := by decide +kernel
theorem dX3_match_16 : decode cX3_match 16 = .ok (.ireturn, 1) := by decide +kernel
theorem dX3_match_17 : decode cX3_match 17 = .ok (.aload_n 0, 1) := by decide +kernel
theorem dX3_match_18 : decode cX3_match 18 = .ok (.getfield 18, 3) := by decide +kernel
theorem dX3_match_21 : decode cX3_match 21 = .ok (.iload_n 1, 1) := by decide +kernel
theorem dX3_match_22 : decode cX3_match 22 = .ok (.aaload, 1) := by decide +kernel
theorem dX3_match_23 : decode cX3_match 23 = .ok (.astore 6, 2) := by decide +kernel
theorem dX3_match_25 : decode cX3_match 25 = .ok (.aload_n 0, 1) := by decide +kernel
theorem dX3_match_26 : decode cX3_match 26 = .ok (.getfield 18, 3) := by decide +kernel
theorem dX3_match_29 : decode cX3_match 29 = .ok (.iload_n 3, 1) := by decide +kernel
theorem dX3_match_30 : decode cX3_match 30 = .ok (.aaload, 1) := by decide +kernel
theorem dX3_match_31 : decode cX3_match 31 = .ok (.astore 7, 2) := by decide +kernel
theorem dX3_match_33 : decode cX3_match 33 = .ok (.aload 6, 2) := by decide +kernel
theorem dX3_match_35 : decode cX3_match 35 = .ok (.aload 7, 2) := by decide +kernel
theorem dX3_match_37 : decode cX3_match 37 = .ok (.invokestatic 106, 3) := by decide +kernel
theorem dX3_match_40 : decode cX3_match 40 = .ok (.istore 8, 2) := by decide +kernel
theorem dX3_match_42 : decode cX3_match 42 = .ok (.iload 8, 2) := by decide +kernel
theorem dX3_match_44 : decode cX3_match 44 = .ok (.ifCond .eq 6, 3) := by decide +kernel
theorem dX3_match_47 : decode cX3_match 47 = .ok (.iload 8, 2) := by decide +kernel
theorem dX3_match_49 : decode cX3_match 49 = .ok (.ireturn, 1) := by decide +kernel
theorem dX3_match_50 : decode cX3_match 50 = .ok (.iload 5, 2) := by decide +kernel
theorem dX3_match_52 : decode cX3_match 52 = .ok (.ifCond .lt 31, 3) := by decide +kernel
theorem dX3_match_55 : decode cX3_match 55 = .ok (.iload_n 2, 1) := by decide +kernel
theorem dX3_match_56 : decode cX3_match 56 = .ok (.ifCond .lt 27, 3) := by decide +kernel
theorem dX3_match_59 : decode cX3_match 59 = .ok (.iload_n 2, 1) := by decide +kernel
theorem dX3_match_60 : decode cX3_match 60 = .ok (.aload 6, 2) := by decide +kernel
theorem dX3_match_62 : decode cX3_match 62 = .ok (.getfield 89, 3) := by decide +kernel
theorem dX3_match_65 : decode cX3_match 65 = .ok (.if_icmp .gt 18, 3) := by decide +kernel
theorem dX3_match_68 : decode cX3_match 68 = .ok (.iload 4, 2) := by decide +kernel
theorem dX3_match_70 : decode cX3_match 70 = .ok (.ifCond .lt 13, 3) := by decide +kernel
theorem dX3_match_73 : decode cX3_match 73 = .ok (.iload 4, 2) := by decide +kernel
theorem dX3_match_75 : decode cX3_match 75 = .ok (.aload 7, 2) := by decide +kernel
theorem dX3_match_77 : decode cX3_match 77 = .ok (.getfield 89, 3) := by decide +kernel
theorem dX3_match_80 : decode cX3_match 80 = .ok (.if_icmp .le 6, 3) := by decide +kernel
theorem dX3_match_83 : decode cX3_match 83 = .ok (.bipush (-4), 2) := by decide +kernel
theorem dX3_match_85 : decode cX3_match 85 = .ok (.ireturn, 1) := by decide +kernel
theorem dX3_match_86 : decode cX3_match 86 = .ok (.iload 5, 2) := by decide +kernel
theorem dX3_match_88 : decode cX3_match 88 = .ok (.aload 6, 2) := by decide +kernel
theorem dX3_match_90 : decode cX3_match 90 = .ok (.getfield 89, 3) := by decide +kernel
theorem dX3_match_93 : decode cX3_match 93 = .ok (.iload_n 2, 1) := by decide +kernel
theorem dX3_match_94 : decode cX3_match 94 = .ok (.isub, 1) := by decide +kernel
theorem dX3_match_95 : decode cX3_match 95 = .ok (.aload 7, 2) := by decide +kernel
theorem dX3_match_97 : decode cX3_match 97 = .ok (.getfield 89, 3) := by decide +kernel
theorem dX3_match_100 : decode cX3_match 100 = .ok (.iload 4, 2) := by decide +kernel
theorem dX3_match_102 : decode cX3_match 102 = .ok (.isub, 1) := by decide +kernel
theorem dX3_match_103 : decode cX3_match 103 = .ok (.invokestatic 110, 3) := by decide +kernel
theorem dX3_match_106 : decode cX3_match 106 = .ok (.invokestatic 110, 3) := by decide +kernel
theorem dX3_match_109 : decode cX3_match 109 = .ok (.istore 9, 2) := by decide +kernel
theorem dX3_match_111 : decode cX3_match 111 = .ok (.iconst 0, 1) := by decide +kernel
theorem dX3_match_112 : decode cX3_match 112 = .ok (.istore 10, 2) := by decide +kernel
theorem dX3_match_114 : decode cX3_match 114 = .ok (.iload 10, 2) := by decide +kernel
theorem dX3_match_116 : decode cX3_match 116 = .ok (.iload 9, 2) := by decide +kernel
theorem dX3_match_118 : decode cX3_match 118 = .ok (.if_icmp .ge 28, 3) := by decide +kernel
theorem dX3_match_121 : decode cX3_match 121 = .ok (.aload 6, 2) := by decide +kernel
theorem dX3_match_123 : decode cX3_match 123 = .ok (.iload_n 2, 1) := by decide +kernel
theorem dX3_match_124 : decode cX3_match 124 = .ok (.iload 10, 2) := by decide +kernel
theorem dX3_match_126 : decode cX3_match 126 = .ok (.iadd, 1) := by decide +kernel
theorem dX3_match_127 : decode cX3_match 127 = .ok (.aload 7, 2) := by decide +kernel
theorem dX3_match_129 : decode cX3_match 129 = .ok (.iload 4, 2) := by decide +kernel
theorem dX3_match_131 : decode cX3_match 131 = .ok (.iload 10, 2) := by decide +kernel
theorem dX3_match_133 : decode cX3_match 133 = .ok (.iadd, 1) := by decide +kernel
theorem dX3_match_134 : decode cX3_match 134 = .ok (.invokevirtual 113, 3) := by decide +kernel
theorem dX3_match_137 : decode cX3_match 137 = .ok (.ifCond .eq 9, 3) := by decide +kernel
theorem dX3_match_140 : decode cX3_match 140 = .ok (.iinc 10 1, 3) := by decide +kernel
theorem dX3_match_143 : decode cX3_match 143 = .ok (.goto (-29), 3) := by decide +kernel
theorem dX3_match_146 : decode cX3_match 146 = .ok (.iload 10, 2) := by decide +kernel
theorem dX3_match_148 : decode cX3_match 148 = .ok (.ireturn, 1) := by decide +kernel
set_option maxRecDepth 20000 in
theorem ggX3_polish_X3_isTray : GoodIn wsX3_polish wsX3_isTray := goodIn_r _ [6] (by decide +kernel) (by decide +kernel)
set_option maxRecDepth 20000 in
theorem gX3_polish_X3_isTray : GoodIn wsX3_polish (va_wsS RX3 39 yX3_isTray wsX3_isTray) := goodIn_app (goodIn_of _ (by decide +kernel)) ggX3_polish_X3_isTray
set_option maxRecDepth 20000 in
theorem ggX3_polish_X0_refusal : GoodIn wsX3_polish wsX0_refusal := goodIn_r _ [11, 12, 29, 30, 31, 32, 33] (by decide +kernel) (by decide +kernel)
set_option maxRecDepth 20000 in
theorem gX3_polish_X0_refusal : GoodIn wsX3_polish (wsV RX3 46 RX0 yX0_refusal wsX0_refusal) := goodIn_app (goodIn_of _ (by decide +kernel)) ggX3_polish_X0_refusal
set_option maxRecDepth 20000 in
theorem ggX3_polish_X0_isOfNumbers : GoodIn wsX3_polish wsX0_isOfNumbers := goodIn_r _ [16, 12, 29, 30, 31, 32, 33] (by decide +kernel) (by decide +kernel)
set_option maxRecDepth 20000 in
theorem gX3_polish_X0_isOfNumbers : GoodIn wsX3_polish (wsV RX3 65 RX0 yX0_isOfNumbers wsX0_isOfNumbers) := goodIn_app (goodIn_of _ (by decide +kernel)) ggX3_polish_X0_isOfNumbers
set_option maxRecDepth 20000 in
theorem ggX3_polish_X0_hasPlace : GoodIn wsX3_polish wsX0_hasPlace := goodIn_r _ [20, 21, 29, 30, 31, 32, 33] (by decide +kernel) (by decide +kernel)
set_option maxRecDepth 20000 in
theorem gX3_polish_X0_hasPlace : GoodIn wsX3_polish (wsV RX3 54 RX0 yX0_hasPlace wsX0_hasPlace) := goodIn_app (goodIn_of _ (by decide +kernel)) ggX3_polish_X0_hasPlace
theorem dX3_polish_0 : decode cX3_polish 0 = .ok (.iload_n 1, 1) := by decide +kernel
theorem dX3_polish_1 : decode cX3_polish 1 = .ok (.invokestatic 39, 3) := by decide +kernel
theorem dX3_polish_4 : decode cX3_polish 4 = .ok (.ifCond .ne 6, 3) := by decide +kernel
theorem dX3_polish_7 : decode cX3_polish 7 = .ok (.bipush (-6), 2) := by decide +kernel
theorem dX3_polish_9 : decode cX3_polish 9 = .ok (.ireturn, 1) := by decide +kernel
theorem dX3_polish_10 : decode cX3_polish 10 = .ok (.aload_n 0, 1) := by decide +kernel
theorem dX3_polish_11 : decode cX3_polish 11 = .ok (.getfield 18, 3) := by decide +kernel
theorem dX3_polish_14 : decode cX3_polish 14 = .ok (.iload_n 1, 1) := by decide +kernel
theorem dX3_polish_15 : decode cX3_polish 15 = .ok (.aaload, 1) := by decide +kernel
theorem dX3_polish_16 : decode cX3_polish 16 = .ok (.astore 4, 2) := by decide +kernel
theorem dX3_polish_18 : decode cX3_polish 18 = .ok (.aload 4, 2) := by decide +kernel
theorem dX3_polish_20 : decode cX3_polish 20 = .ok (.invokevirtual 46, 3) := by decide +kernel
theorem dX3_polish_23 : decode cX3_polish 23 = .ok (.istore 5, 2) := by decide +kernel
theorem dX3_polish_25 : decode cX3_polish 25 = .ok (.iload 5, 2) := by decide +kernel
theorem dX3_polish_27 : decode cX3_polish 27 = .ok (.ifCond .eq 6, 3) := by decide +kernel
theorem dX3_polish_30 : decode cX3_polish 30 = .ok (.iload 5, 2) := by decide +kernel
theorem dX3_polish_32 : decode cX3_polish 32 = .ok (.ireturn, 1) := by decide +kernel
theorem dX3_polish_33 : decode cX3_polish 33 = .ok (.aload 4, 2) := by decide +kernel
theorem dX3_polish_35 : decode cX3_polish 35 = .ok (.invokevirtual 65, 3) := by decide +kernel
theorem dX3_polish_38 : decode cX3_polish 38 = .ok (.ifCond .ne 13, 3) := by decide +kernel
theorem dX3_polish_41 : decode cX3_polish 41 = .ok (.aload 4, 2) := by decide +kernel
theorem dX3_polish_43 : decode cX3_polish 43 = .ok (.getfield 43, 3) := by decide +kernel
theorem dX3_polish_46 : decode cX3_polish 46 = .ok (.bipush 13, 2) := by decide +kernel
theorem dX3_polish_48 : decode cX3_polish 48 = .ok (.if_icmp .ne 6, 3) := by decide +kernel
theorem dX3_polish_51 : decode cX3_polish 51 = .ok (.bipush (-3), 2) := by decide +kernel
theorem dX3_polish_53 : decode cX3_polish 53 = .ok (.ireturn, 1) := by decide +kernel
theorem dX3_polish_54 : decode cX3_polish 54 = .ok (.aload 4, 2) := by decide +kernel
theorem dX3_polish_56 : decode cX3_polish 56 = .ok (.iload_n 2, 1) := by decide +kernel
theorem dX3_polish_57 : decode cX3_polish 57 = .ok (.invokevirtual 54, 3) := by decide +kernel
theorem dX3_polish_60 : decode cX3_polish 60 = .ok (.ifCond .ne 6, 3) := by decide +kernel
theorem dX3_polish_63 : decode cX3_polish 63 = .ok (.bipush (-4), 2) := by decide +kernel
theorem dX3_polish_65 : decode cX3_polish 65 = .ok (.ireturn, 1) := by decide +kernel
theorem dX3_polish_66 : decode cX3_polish 66 = .ok (.aload 4, 2) := by decide +kernel
theorem dX3_polish_68 : decode cX3_polish 68 = .ok (.getfield 73, 3) := by decide +kernel
theorem dX3_polish_71 : decode cX3_polish 71 = .ok (.iload_n 2, 1) := by decide +kernel
theorem dX3_polish_72 : decode cX3_polish 72 = .ok (.aaload, 1) := by decide +kernel
theorem dX3_polish_73 : decode cX3_polish 73 = .ok (.astore 7, 2) := by decide +kernel
theorem dX3_polish_75 : decode cX3_polish 75 = .ok (.aload 7, 2) := by decide +kernel
theorem dX3_polish_77 : decode cX3_polish 77 = .ok (.instanceof 117, 3) := by decide +kernel
theorem dX3_polish_80 : decode cX3_polish 80 = .ok (.ifCond .eq 27, 3) := by decide +kernel
theorem dX3_polish_83 : decode cX3_polish 83 = .ok (.aload 7, 2) := by decide +kernel
theorem dX3_polish_85 : decode cX3_polish 85 = .ok (.checkcast 117, 3) := by decide +kernel
theorem dX3_polish_88 : decode cX3_polish 88 = .ok (.astore 6, 2) := by decide +kernel
theorem dX3_polish_90 : decode cX3_polish 90 = .ok (.aload 6, 2) := by decide +kernel
theorem dX3_polish_92 : decode cX3_polish 92 = .ok (.dup, 1) := by decide +kernel
theorem dX3_polish_93 : decode cX3_polish 93 = .ok (.getfield 119, 3) := by decide +kernel
theorem dX3_polish_96 : decode cX3_polish 96 = .ok (.iload_n 3, 1) := by decide +kernel
theorem dX3_polish_97 : decode cX3_polish 97 = .ok (.iadd, 1) := by decide +kernel
theorem dX3_polish_98 : decode cX3_polish 98 = .ok (.putfield 119, 3) := by decide +kernel
theorem dX3_polish_101 : decode cX3_polish 101 = .ok (.aload 6, 2) := by decide +kernel
theorem dX3_polish_103 : decode cX3_polish 103 = .ok (.getfield 122, 3) := by decide +kernel
theorem dX3_polish_106 : decode cX3_polish 106 = .ok (.ireturn, 1) := by decide +kernel
theorem dX3_polish_107 : decode cX3_polish 107 = .ok (.iconst (-1), 1) := by decide +kernel
theorem dX3_polish_108 : decode cX3_polish 108 = .ok (.ireturn, 1) := by decide +kernel
set_option maxRecDepth 20000 in
theorem ggX3_tray_X3_isTray : GoodIn wsX3_tray wsX3_isTray := goodIn_r _ [5] (by decide +kernel) (by decide +kernel)
set_option maxRecDepth 20000 in
theorem gX3_tray_X3_isTray : GoodIn wsX3_tray (va_wsS RX3 39 yX3_isTray wsX3_isTray) := goodIn_app (goodIn_of _ (by decide +kernel)) ggX3_tray_X3_isTray
theorem dX3_tray_0 : decode cX3_tray 0 = .ok (.iload_n 1, 1) := by decide +kernel
theorem dX3_tray_1 : decode cX3_tray 1 = .ok (.invokestatic 39, 3) := by decide +kernel
theorem dX3_tray_4 : decode cX3_tray 4 = .ok (.ifCond .eq 12, 3) := by decide +kernel
theorem dX3_tray_7 : decode cX3_tray 7 = .ok (.iload_n 2, 1) := by decide +kernel
theorem dX3_tray_8 : decode cX3_tray 8 = .ok (.ifCond .lt 8, 3) := by decide +kernel
theorem dX3_tray_11 : decode cX3_tray 11 = .ok (.iload_n 2, 1) := by decide +kernel
theorem dX3_tray_12 : decode cX3_tray 12 = .ok (.iconst 1, 1) := by decide +kernel
theorem dX3_tray_13 : decode cX3_tray 13 = .ok (.if_icmp .le 6, 3) := by decide +kernel
theorem dX3_tray_16 : decode cX3_tray 16 = .ok (.bipush (-6), 2) := by decide +kernel
theorem dX3_tray_18 : decode cX3_tray 18 = .ok (.ireturn, 1) := by decide +kernel
theorem dX3_tray_19 : decode cX3_tray 19 = .ok (.aload_n 0, 1) := by decide +kernel
theorem dX3_tray_20 : decode cX3_tray 20 = .ok (.getfield 18, 3) := by decide +kernel
theorem dX3_tray_23 : decode cX3_tray 23 = .ok (.iload_n 1, 1) := by decide +kernel
theorem dX3_tray_24 : decode cX3_tray 24 = .ok (.aaload, 1) := by decide +kernel
theorem dX3_tray_25 : decode cX3_tray 25 = .ok (.astore_n 3, 1) := by decide +kernel
theorem dX3_tray_26 : decode cX3_tray 26 = .ok (.iload_n 2, 1) := by decide +kernel
theorem dX3_tray_27 : decode cX3_tray 27 = .ok (.ifCond .ne 8, 3) := by decide +kernel
theorem dX3_tray_30 : decode cX3_tray 30 = .ok (.aload_n 3, 1) := by decide +kernel
theorem dX3_tray_31 : decode cX3_tray 31 = .ok (.getfield 43, 3) := by decide +kernel
theorem dX3_tray_34 : decode cX3_tray 34 = .ok (.ireturn, 1) := by decide +kernel
theorem dX3_tray_35 : decode cX3_tray 35 = .ok (.aload_n 3, 1) := by decide +kernel
theorem dX3_tray_36 : decode cX3_tray 36 = .ok (.getfield 43, 3) := by decide +kernel
theorem dX3_tray_39 : decode cX3_tray 39 = .ok (.iconst 1, 1) := by decide +kernel
theorem dX3_tray_40 : decode cX3_tray 40 = .ok (.if_icmp .ne 10, 3) := by decide +kernel
theorem dX3_tray_43 : decode cX3_tray 43 = .ok (.aload_n 3, 1) := by decide +kernel
theorem dX3_tray_44 : decode cX3_tray 44 = .ok (.getfield 125, 3) := by decide +kernel
theorem dX3_tray_47 : decode cX3_tray 47 = .ok (.goto 7, 3) := by decide +kernel
theorem dX3_tray_50 : decode cX3_tray 50 = .ok (.aload_n 3, 1) := by decide +kernel
theorem dX3_tray_51 : decode cX3_tray 51 = .ok (.getfield 89, 3) := by decide +kernel
theorem dX3_tray_54 : decode cX3_tray 54 = .ok (.ireturn, 1) := by decide +kernel
set_option maxRecDepth 20000 in
theorem ggX3_what_X3_isTray : GoodIn wsX3_what wsX3_isTray := goodIn_r _ [5] (by decide +kernel) (by decide +kernel)
set_option maxRecDepth 20000 in
theorem gX3_what_X3_isTray : GoodIn wsX3_what (va_wsS RX3 39 yX3_isTray wsX3_isTray) := goodIn_app (goodIn_of _ (by decide +kernel)) ggX3_what_X3_isTray
set_option maxRecDepth 20000 in
theorem ggX3_what_X0_refusal : GoodIn wsX3_what wsX0_refusal := goodIn_r _ [10, 11, 38, 39, 40, 41, 42] (by decide +kernel) (by decide +kernel)
set_option maxRecDepth 20000 in
theorem gX3_what_X0_refusal : GoodIn wsX3_what (wsV RX3 46 RX0 yX0_refusal wsX0_refusal) := goodIn_app (goodIn_of _ (by decide +kernel)) ggX3_what_X0_refusal
set_option maxRecDepth 20000 in
theorem ggX3_what_X0_hasPlace : GoodIn wsX3_what wsX0_hasPlace := goodIn_r _ [15, 16, 38, 39, 40, 41, 42] (by decide +kernel) (by decide +kernel)
set_option maxRecDepth 20000 in
theorem gX3_what_X0_hasPlace : GoodIn wsX3_what (wsV RX3 54 RX0 yX0_hasPlace wsX0_hasPlace) := goodIn_app (goodIn_of _ (by decide +kernel)) ggX3_what_X0_hasPlace
set_option maxRecDepth 20000 in
theorem ggX3_what_X0_isOfNumbers : GoodIn wsX3_what wsX0_isOfNumbers := goodIn_r _ [20, 11, 38, 39, 40, 41, 42] (by decide +kernel) (by decide +kernel)
set_option maxRecDepth 20000 in
theorem gX3_what_X0_isOfNumbers : GoodIn wsX3_what (wsV RX3 65 RX0 yX0_isOfNumbers wsX0_isOfNumbers) := goodIn_app (goodIn_of _ (by decide +kernel)) ggX3_what_X0_isOfNumbers
set_option maxRecDepth 20000 in
theorem ggX3_what_X0_sortOfThing : GoodIn wsX3_what wsX0_sortOfThing := goodIn_r _ [25] (by decide +kernel) (by decide +kernel)
set_option maxRecDepth 20000 in
theorem gX3_what_X0_sortOfThing_u128X0 : GoodIn wsX3_what (va_wsU RX3 128 RX0 "BeadBench$Thing" ⟨"BeadBench$Thing", "sortOfThing", "()I"⟩ yX0_sortOfThing wsX0_sortOfThing) := goodIn_app (goodIn_of _ (by decide +kernel)) ggX3_what_X0_sortOfThing
set_option maxRecDepth 20000 in
theorem ggX3_what_X1_sortOfThing : GoodIn wsX3_what wsX1_sortOfThing := goodIn_r _ [29, 30, 43, 44, 45] (by decide +kernel) (by decide +kernel)
set_option maxRecDepth 20000 in
theorem gX3_what_X1_sortOfThing_u128X1 : GoodIn wsX3_what (va_wsU RX3 128 RX1 "BeadBench$Thing" ⟨"BeadBench$Thing", "sortOfThing", "()I"⟩ yX1_sortOfThing wsX1_sortOfThing) := goodIn_app (goodIn_of _ (by decide +kernel)) ggX3_what_X1_sortOfThing
theorem dX3_what_0 : decode cX3_what 0 = .ok (.iload_n 1, 1) := by decide +kernel
theorem dX3_what_1 : decode cX3_what 1 = .ok (.invokestatic 39, 3) := by decide +kernel
theorem dX3_what_4 : decode cX3_what 4 = .ok (.ifCond .ne 6, 3) := by decide +kernel
theorem dX3_what_7 : decode cX3_what 7 = .ok (.bipush (-6), 2) := by decide +kernel
theorem dX3_what_9 : decode cX3_what 9 = .ok (.ireturn, 1) := by decide +kernel
theorem dX3_what_10 : decode cX3_what 10 = .ok (.aload_n 0, 1) := by decide +kernel
theorem dX3_what_11 : decode cX3_what 11 = .ok (.getfield 18, 3) := by decide +kernel
theorem dX3_what_14 : decode cX3_what 14 = .ok (.iload_n 1, 1) := by decide +kernel
theorem dX3_what_15 : decode cX3_what 15 = .ok (.aaload, 1) := by decide +kernel
theorem dX3_what_16 : decode cX3_what 16 = .ok (.astore_n 3, 1) := by decide +kernel
theorem dX3_what_17 : decode cX3_what 17 = .ok (.aload_n 3, 1) := by decide +kernel
theorem dX3_what_18 : decode cX3_what 18 = .ok (.invokevirtual 46, 3) := by decide +kernel
theorem dX3_what_21 : decode cX3_what 21 = .ok (.istore 4, 2) := by decide +kernel
theorem dX3_what_23 : decode cX3_what 23 = .ok (.iload 4, 2) := by decide +kernel
theorem dX3_what_25 : decode cX3_what 25 = .ok (.ifCond .eq 6, 3) := by decide +kernel
theorem dX3_what_28 : decode cX3_what 28 = .ok (.iload 4, 2) := by decide +kernel
theorem dX3_what_30 : decode cX3_what 30 = .ok (.ireturn, 1) := by decide +kernel
theorem dX3_what_31 : decode cX3_what 31 = .ok (.aload_n 3, 1) := by decide +kernel
theorem dX3_what_32 : decode cX3_what 32 = .ok (.iload_n 2, 1) := by decide +kernel
theorem dX3_what_33 : decode cX3_what 33 = .ok (.invokevirtual 54, 3) := by decide +kernel
theorem dX3_what_36 : decode cX3_what 36 = .ok (.ifCond .ne 6, 3) := by decide +kernel
theorem dX3_what_39 : decode cX3_what 39 = .ok (.bipush (-4), 2) := by decide +kernel
theorem dX3_what_41 : decode cX3_what 41 = .ok (.ireturn, 1) := by decide +kernel
theorem dX3_what_42 : decode cX3_what 42 = .ok (.aload_n 3, 1) := by decide +kernel
theorem dX3_what_43 : decode cX3_what 43 = .ok (.invokevirtual 65, 3) := by decide +kernel
theorem dX3_what_46 : decode cX3_what 46 = .ok (.ifCond .eq 5, 3) := by decide +kernel
theorem dX3_what_49 : decode cX3_what 49 = .ok (.iconst 1, 1) := by decide +kernel
theorem dX3_what_50 : decode cX3_what 50 = .ok (.ireturn, 1) := by decide +kernel
theorem dX3_what_51 : decode cX3_what 51 = .ok (.aload_n 3, 1) := by decide +kernel
theorem dX3_what_52 : decode cX3_what 52 = .ok (.getfield 73, 3) := by decide +kernel
theorem dX3_what_55 : decode cX3_what 55 = .ok (.iload_n 2, 1) := by decide +kernel
theorem dX3_what_56 : decode cX3_what 56 = .ok (.aaload, 1) := by decide +kernel
theorem dX3_what_57 : decode cX3_what 57 = .ok (.astore 5, 2) := by decide +kernel
theorem dX3_what_59 : decode cX3_what 59 = .ok (.aload 5, 2) := by decide +kernel
theorem dX3_what_61 : decode cX3_what 61 = .ok (.ifnonnull 7, 3) := by decide +kernel
theorem dX3_what_64 : decode cX3_what 64 = .ok (.iconst 0, 1) := by decide +kernel
theorem dX3_what_65 : decode cX3_what 65 = .ok (.goto 8, 3) := by decide +kernel
theorem dX3_what_68 : decode cX3_what 68 = .ok (.aload 5, 2) := by decide +kernel
theorem dX3_what_70 : decode cX3_what 70 = .ok (.invokevirtual 128, 3) := by decide +kernel
theorem dX3_what_73 : decode cX3_what 73 = .ok (.ireturn, 1) := by decide +kernel
set_option maxRecDepth 20000 in
theorem ggX3_at_X3_isTray : GoodIn wsX3_at wsX3_isTray := goodIn_r _ [5] (by decide +kernel) (by decide +kernel)
set_option maxRecDepth 20000 in
theorem gX3_at_X3_isTray : GoodIn wsX3_at (va_wsS RX3 39 yX3_isTray wsX3_isTray) := goodIn_app (goodIn_of _ (by decide +kernel)) ggX3_at_X3_isTray
set_option maxRecDepth 20000 in
theorem ggX3_at_X0_hasPlace : GoodIn wsX3_at wsX0_hasPlace := goodIn_r _ [10, 11, 29, 30, 31, 32, 33] (by decide +kernel) (by decide +kernel)
set_option maxRecDepth 20000 in
theorem gX3_at_X0_hasPlace : GoodIn wsX3_at (wsV RX3 54 RX0 yX0_hasPlace wsX0_hasPlace) := goodIn_app (goodIn_of _ (by decide +kernel)) ggX3_at_X0_hasPlace
set_option maxRecDepth 20000 in
theorem ggX3_at_X0_count : GoodIn wsX3_at wsX0_count := goodIn_r _ [16, 11, 29, 30, 31, 32, 33] (by decide +kernel) (by decide +kernel)
set_option maxRecDepth 20000 in
theorem gX3_at_X0_count_u133X0 : GoodIn wsX3_at (va_wsU RX3 133 RX0 "BeadBench$Thing" ⟨"BeadBench$Thing", "count", "()I"⟩ yX0_count wsX0_count) := goodIn_app (goodIn_of _ (by decide +kernel)) ggX3_at_X0_count
set_option maxRecDepth 20000 in
theorem ggX3_at_X1_count : GoodIn wsX3_at wsX1_count := goodIn_r _ [20, 21, 34, 35, 36] (by decide +kernel) (by decide +kernel)
set_option maxRecDepth 20000 in
theorem gX3_at_X1_count_u133X1 : GoodIn wsX3_at (va_wsU RX3 133 RX1 "BeadBench$Thing" ⟨"BeadBench$Thing", "count", "()I"⟩ yX1_count wsX1_count) := goodIn_app (goodIn_of _ (by decide +kernel)) ggX3_at_X1_count
theorem dX3_at_0 : decode cX3_at 0 = .ok (.iload_n 1, 1) := by decide +kernel
theorem dX3_at_1 : decode cX3_at 1 = .ok (.invokestatic 39, 3) := by decide +kernel
theorem dX3_at_4 : decode cX3_at 4 = .ok (.ifCond .eq 16, 3) := by decide +kernel
theorem dX3_at_7 : decode cX3_at 7 = .ok (.aload_n 0, 1) := by decide +kernel
theorem dX3_at_8 : decode cX3_at 8 = .ok (.getfield 18, 3) := by decide +kernel
theorem dX3_at_11 : decode cX3_at 11 = .ok (.iload_n 1, 1) := by decide +kernel
theorem dX3_at_12 : decode cX3_at 12 = .ok (.aaload, 1) := by decide +kernel
theorem dX3_at_13 : decode cX3_at 13 = .ok (.iload_n 2, 1) := by decide +kernel
theorem dX3_at_14 : decode cX3_at 14 = .ok (.invokevirtual 54, 3) := by decide +kernel
theorem dX3_at_17 : decode cX3_at 17 = .ok (.ifCond .ne 5, 3) := by decide +kernel
theorem dX3_at_20 : decode cX3_at 20 = .ok (.lconst 0, 1) := by decide +kernel
theorem dX3_at_21 : decode cX3_at 21 = .ok (.lreturn, 1) := by decide +kernel
theorem dX3_at_22 : decode cX3_at 22 = .ok (.aload_n 0, 1) := by decide +kernel
theorem dX3_at_23 : decode cX3_at 23 = .ok (.getfield 18, 3) := by decide +kernel
theorem dX3_at_26 : decode cX3_at 26 = .ok (.iload_n 1, 1) := by decide +kernel
theorem dX3_at_27 : decode cX3_at 27 = .ok (.aaload, 1) := by decide +kernel
theorem dX3_at_28 : decode cX3_at 28 = .ok (.astore_n 3, 1) := by decide +kernel
theorem dX3_at_29 : decode cX3_at 29 = .ok (.aload_n 3, 1) := by decide +kernel
theorem dX3_at_30 : decode cX3_at 30 = .ok (.getfield 73, 3) := by decide +kernel
theorem dX3_at_33 : decode cX3_at 33 = .ok (.iload_n 2, 1) := by decide +kernel
theorem dX3_at_34 : decode cX3_at 34 = .ok (.aaload, 1) := by decide +kernel
theorem dX3_at_35 : decode cX3_at 35 = .ok (.astore 4, 2) := by decide +kernel
theorem dX3_at_37 : decode cX3_at 37 = .ok (.aload 4, 2) := by decide +kernel
theorem dX3_at_39 : decode cX3_at 39 = .ok (.ifnonnull 12, 3) := by decide +kernel
theorem dX3_at_42 : decode cX3_at 42 = .ok (.aload_n 3, 1) := by decide +kernel
theorem dX3_at_43 : decode cX3_at 43 = .ok (.getfield 61, 3) := by decide +kernel
theorem dX3_at_46 : decode cX3_at 46 = .ok (.iload_n 2, 1) := by decide +kernel
theorem dX3_at_47 : decode cX3_at 47 = .ok (.laload, 1) := by decide +kernel
theorem dX3_at_48 : decode cX3_at 48 = .ok (.goto 9, 3) := by decide +kernel
theorem dX3_at_51 : decode cX3_at 51 = .ok (.aload 4, 2) := by decide +kernel
theorem dX3_at_53 : decode cX3_at 53 = .ok (.invokevirtual 133, 3) := by decide +kernel
theorem dX3_at_56 : decode cX3_at 56 = .ok (.i2l, 1) := by decide +kernel
theorem dX3_at_57 : decode cX3_at 57 = .ok (.lreturn, 1) := by decide +kernel
set_option maxRecDepth 20000 in
theorem ggX3_polished_X3_isTray : GoodIn wsX3_polished wsX3_isTray := goodIn_r _ [5] (by decide +kernel) (by decide +kernel)
set_option maxRecDepth 20000 in
theorem gX3_polished_X3_isTray : GoodIn wsX3_polished (va_wsS RX3 39 yX3_isTray wsX3_isTray) := goodIn_app (goodIn_of _ (by decide +kernel)) ggX3_polished_X3_isTray
set_option maxRecDepth 20000 in
theorem ggX3_polished_X0_hasPlace : GoodIn wsX3_polished wsX0_hasPlace := goodIn_r _ [10, 11, 30, 31, 32, 33, 34] (by decide +kernel) (by decide +kernel)
set_option maxRecDepth 20000 in
theorem gX3_polished_X0_hasPlace : GoodIn wsX3_polished (wsV RX3 54 RX0 yX0_hasPlace wsX0_hasPlace) := goodIn_app (goodIn_of _ (by decide +kernel)) ggX3_polished_X0_hasPlace
set_option maxRecDepth 20000 in
theorem ggX3_polished_X0_shine : GoodIn wsX3_polished wsX0_shine := goodIn_r _ [16, 11, 17, 30, 31, 32, 33, 34] (by decide +kernel) (by decide +kernel)
set_option maxRecDepth 20000 in
theorem gX3_polished_X0_shine_u136X0 : GoodIn wsX3_polished (va_wsU RX3 136 RX0 "BeadBench$Thing" ⟨"BeadBench$Thing", "shine", "()I"⟩ yX0_shine wsX0_shine) := goodIn_app (goodIn_of _ (by decide +kernel)) ggX3_polished_X0_shine
set_option maxRecDepth 20000 in
theorem ggX3_polished_X1_shine : GoodIn wsX3_polished wsX1_shine := goodIn_r _ [21, 22, 35, 36, 37] (by decide +kernel) (by decide +kernel)
set_option maxRecDepth 20000 in
theorem gX3_polished_X1_shine_u136X1 : GoodIn wsX3_polished (va_wsU RX3 136 RX1 "BeadBench$Thing" ⟨"BeadBench$Thing", "shine", "()I"⟩ yX1_shine wsX1_shine) := goodIn_app (goodIn_of _ (by decide +kernel)) ggX3_polished_X1_shine
theorem dX3_polished_0 : decode cX3_polished 0 = .ok (.iload_n 1, 1) := by decide +kernel
theorem dX3_polished_1 : decode cX3_polished 1 = .ok (.invokestatic 39, 3) := by decide +kernel
theorem dX3_polished_4 : decode cX3_polished 4 = .ok (.ifCond .eq 16, 3) := by decide +kernel
theorem dX3_polished_7 : decode cX3_polished 7 = .ok (.aload_n 0, 1) := by decide +kernel
theorem dX3_polished_8 : decode cX3_polished 8 = .ok (.getfield 18, 3) := by decide +kernel
theorem dX3_polished_11 : decode cX3_polished 11 = .ok (.iload_n 1, 1) := by decide +kernel
theorem dX3_polished_12 : decode cX3_polished 12 = .ok (.aaload, 1) := by decide +kernel
theorem dX3_polished_13 : decode cX3_polished 13 = .ok (.iload_n 2, 1) := by decide +kernel
theorem dX3_polished_14 : decode cX3_polished 14 = .ok (.invokevirtual 54, 3) := by decide +kernel
theorem dX3_polished_17 : decode cX3_polished 17 = .ok (.ifCond .ne 5, 3) := by decide +kernel
theorem dX3_polished_20 : decode cX3_polished 20 = .ok (.iconst 0, 1) := by decide +kernel
theorem dX3_polished_21 : decode cX3_polished 21 = .ok (.ireturn, 1) := by decide +kernel
theorem dX3_polished_22 : decode cX3_polished 22 = .ok (.aload_n 0, 1) := by decide +kernel
theorem dX3_polished_23 : decode cX3_polished 23 = .ok (.getfield 18, 3) := by decide +kernel
theorem dX3_polished_26 : decode cX3_polished 26 = .ok (.iload_n 1, 1) := by decide +kernel
theorem dX3_polished_27 : decode cX3_polished 27 = .ok (.aaload, 1) := by decide +kernel
theorem dX3_polished_28 : decode cX3_polished 28 = .ok (.getfield 73, 3) := by decide +kernel
theorem dX3_polished_31 : decode cX3_polished 31 = .ok (.iload_n 2, 1) := by decide +kernel
theorem dX3_polished_32 : decode cX3_polished 32 = .ok (.aaload, 1) := by decide +kernel
theorem dX3_polished_33 : decode cX3_polished 33 = .ok (.astore_n 3, 1) := by decide +kernel
theorem dX3_polished_34 : decode cX3_polished 34 = .ok (.aload_n 3, 1) := by decide +kernel
theorem dX3_polished_35 : decode cX3_polished 35 = .ok (.ifnonnull 7, 3) := by decide +kernel
theorem dX3_polished_38 : decode cX3_polished 38 = .ok (.iconst 0, 1) := by decide +kernel
theorem dX3_polished_39 : decode cX3_polished 39 = .ok (.goto 7, 3) := by decide +kernel
theorem dX3_polished_42 : decode cX3_polished 42 = .ok (.aload_n 3, 1) := by decide +kernel
theorem dX3_polished_43 : decode cX3_polished 43 = .ok (.invokevirtual 136, 3) := by decide +kernel
theorem dX3_polished_46 : decode cX3_polished 46 = .ok (.ireturn, 1) := by decide +kernel
theorem dX3_told_0 : decode cX3_told 0 = .ok (.iload_n 1, 1) := by decide +kernel
theorem dX3_told_1 : decode cX3_told 1 = .ok (.ifCond .ne 8, 3) := by decide +kernel
theorem dX3_told_4 : decode cX3_told 4 = .ok (.aload_n 0, 1) := by decide +kernel
theorem dX3_told_5 : decode cX3_told 5 = .ok (.getfield 32, 3) := by decide +kernel
theorem dX3_told_8 : decode cX3_told 8 = .ok (.ireturn, 1) := by decide +kernel
theorem dX3_told_9 : decode cX3_told 9 = .ok (.iload_n 1, 1) := by decide +kernel
theorem dX3_told_10 : decode cX3_told 10 = .ok (.iconst 1, 1) := by decide +kernel
theorem dX3_told_11 : decode cX3_told 11 = .ok (.if_icmp .lt 21, 3) := by decide +kernel
theorem dX3_told_14 : decode cX3_told 14 = .ok (.iload_n 1, 1) := by decide +kernel
theorem dX3_told_15 : decode cX3_told 15 = .ok (.aload_n 0, 1) := by decide +kernel
theorem dX3_told_16 : decode cX3_told 16 = .ok (.getfield 28, 3) := by decide +kernel
theorem dX3_told_19 : decode cX3_told 19 = .ok (.arraylength, 1) := by decide +kernel
theorem dX3_told_20 : decode cX3_told 20 = .ok (.if_icmp .gt 12, 3) := by decide +kernel
theorem dX3_told_23 : decode cX3_told 23 = .ok (.aload_n 0, 1) := by decide +kernel
theorem dX3_told_24 : decode cX3_told 24 = .ok (.getfield 28, 3) := by decide +kernel
theorem dX3_told_27 : decode cX3_told 27 = .ok (.iload_n 1, 1) := by decide +kernel
theorem dX3_told_28 : decode cX3_told 28 = .ok (.iconst 1, 1) := by decide +kernel
theorem dX3_told_29 : decode cX3_told 29 = .ok (.isub, 1) := by decide +kernel
theorem dX3_told_30 : decode cX3_told 30 = .ok (.iaload, 1) := by decide +kernel
theorem dX3_told_31 : decode cX3_told 31 = .ok (.ireturn, 1) := by decide +kernel
theorem dX3_told_32 : decode cX3_told 32 = .ok (.iload_n 1, 1) := by decide +kernel
theorem dX3_told_33 : decode cX3_told 33 = .ok (.bipush 7, 2) := by decide +kernel
theorem dX3_told_35 : decode cX3_told 35 = .ok (.if_icmp .ne 10, 3) := by decide +kernel
theorem dX3_told_38 : decode cX3_told 38 = .ok (.aload_n 0, 1) := by decide +kernel
theorem dX3_told_39 : decode cX3_told 39 = .ok (.getfield 36, 3) := by decide +kernel
theorem dX3_told_42 : decode cX3_told 42 = .ok (.goto 5, 3) := by decide +kernel
theorem dX3_told_45 : decode cX3_told 45 = .ok (.bipush (-6), 2) := by decide +kernel
theorem dX3_told_47 : decode cX3_told 47 = .ok (.ireturn, 1) := by decide +kernel
theorem dX3_isTray_0 : decode cX3_isTray 0 = .ok (.iload_n 0, 1) := by decide +kernel
theorem dX3_isTray_1 : decode cX3_isTray 1 = .ok (.ifCond .lt 13, 3) := by decide +kernel
theorem dX3_isTray_4 : decode cX3_isTray 4 = .ok (.iload_n 0, 1) := by decide +kernel
theorem dX3_isTray_5 : decode cX3_isTray 5 = .ok (.bipush 12, 2) := by decide +kernel
theorem dX3_isTray_7 : decode cX3_isTray 7 = .ok (.if_icmp .ge 7, 3) := by decide +kernel
theorem dX3_isTray_10 : decode cX3_isTray 10 = .ok (.iconst 1, 1) := by decide +kernel
theorem dX3_isTray_11 : decode cX3_isTray 11 = .ok (.goto 4, 3) := by decide +kernel
theorem dX3_isTray_14 : decode cX3_isTray 14 = .ok (.iconst 0, 1) := by decide +kernel
theorem dX3_isTray_15 : decode cX3_isTray 15 = .ok (.ireturn, 1) := by decide +kernel
set_option maxRecDepth 20000 in
theorem ggX3_keep_X0_refusal : GoodIn wsX3_keep wsX0_refusal := goodIn_r _ [7, 8, 22, 23, 24, 25, 26] (by decide +kernel) (by decide +kernel)
set_option maxRecDepth 20000 in
theorem gX3_keep_X0_refusal : GoodIn wsX3_keep (wsV RX3 46 RX0 yX0_refusal wsX0_refusal) := goodIn_app (goodIn_of _ (by decide +kernel)) ggX3_keep_X0_refusal
set_option maxRecDepth 20000 in
theorem ggX3_keep_X0_copyPlace : GoodIn wsX3_keep wsX0_copyPlace := goodIn_r _ [12, 13, 14, 22, 23, 24, 25, 26] (by decide +kernel) (by decide +kernel)
set_option maxRecDepth 20000 in
theorem gX3_keep_X0_copyPlace : GoodIn wsX3_keep (wsV RX3 102 RX0 yX0_copyPlace wsX0_copyPlace) := goodIn_app (goodIn_of _ (by decide +kernel)) ggX3_keep_X0_copyPlace
theorem dX3_keep_0 : decode cX3_keep 0 = .ok (.aload_n 0, 1) := by decide +kernel
theorem dX3_keep_1 : decode cX3_keep 1 = .ok (.aload_n 1, 1) := by decide +kernel
theorem dX3_keep_2 : decode cX3_keep 2 = .ok (.invokevirtual 46, 3) := by decide +kernel
theorem dX3_keep_5 : decode cX3_keep 5 = .ok (.ifCond .ne 7, 3) := by decide +kernel
theorem dX3_keep_8 : decode cX3_keep 8 = .ok (.aload_n 1, 1) := by decide +kernel
theorem dX3_keep_9 : decode cX3_keep 9 = .ok (.goto 4, 3) := by decide +kernel
theorem dX3_keep_12 : decode cX3_keep 12 = .ok (.aconst_null, 1) := by decide +kernel
theorem dX3_keep_13 : decode cX3_keep 13 = .ok (.putfield 25, 3) := by decide +kernel
theorem dX3_keep_16 : decode cX3_keep 16 = .ok (.iconst 0, 1) := by decide +kernel
theorem dX3_keep_17 : decode cX3_keep 17 = .ok (.istore_n 2, 1) := by decide +kernel
theorem dX3_keep_18 : decode cX3_keep 18 = .ok (.iload_n 2, 1) := by decide +kernel
theorem dX3_keep_19 : decode cX3_keep 19 = .ok (.aload_n 1, 1) := by decide +kernel
theorem dX3_keep_20 : decode cX3_keep 20 = .ok (.getfield 89, 3) := by decide +kernel
theorem dX3_keep_23 : decode cX3_keep 23 = .ok (.if_icmp .ge 19, 3) := by decide +kernel
theorem dX3_keep_26 : decode cX3_keep 26 = .ok (.aload_n 0, 1) := by decide +kernel
theorem dX3_keep_27 : decode cX3_keep 27 = .ok (.getfield 22, 3) := by decide +kernel
theorem dX3_keep_30 : decode cX3_keep 30 = .ok (.iload_n 2, 1) := by decide +kernel
theorem dX3_keep_31 : decode cX3_keep 31 = .ok (.aload_n 1, 1) := by decide +kernel
theorem dX3_keep_32 : decode cX3_keep 32 = .ok (.iload_n 2, 1) := by decide +kernel
theorem dX3_keep_33 : decode cX3_keep 33 = .ok (.invokevirtual 102, 3) := by decide +kernel
theorem dX3_keep_36 : decode cX3_keep 36 = .ok (.iinc 2 1, 3) := by decide +kernel
theorem dX3_keep_39 : decode cX3_keep 39 = .ok (.goto (-21), 3) := by decide +kernel
theorem dX3_keep_42 : decode cX3_keep 42 = .ok (.return_, 1) := by decide +kernel
theorem dX3_counted_0 : decode cX3_counted 0 = .ok (.aload_n 0, 1) := by decide +kernel
theorem dX3_counted_1 : decode cX3_counted 1 = .ok (.getfield 28, 3) := by decide +kernel
theorem dX3_counted_4 : decode cX3_counted 4 = .ok (.iload_n 1, 1) := by decide +kernel
theorem dX3_counted_5 : decode cX3_counted 5 = .ok (.ifCond .ge 8, 3) := by decide +kernel
theorem dX3_counted_8 : decode cX3_counted 8 = .ok (.iload_n 1, 1) := by decide +kernel
theorem dX3_counted_9 : decode cX3_counted 9 = .ok (.ineg, 1) := by decide +kernel
theorem dX3_counted_10 : decode cX3_counted 10 = .ok (.goto 4, 3) := by decide +kernel
theorem dX3_counted_13 : decode cX3_counted 13 = .ok (.iconst 0, 1) := by decide +kernel
theorem dX3_counted_14 : decode cX3_counted 14 = .ok (.dup2, 1) := by decide +kernel
theorem dX3_counted_15 : decode cX3_counted 15 = .ok (.iaload, 1) := by decide +kernel
theorem dX3_counted_16 : decode cX3_counted 16 = .ok (.iconst 1, 1) := by decide +kernel
theorem dX3_counted_17 : decode cX3_counted 17 = .ok (.iadd, 1) := by decide +kernel
theorem dX3_counted_18 : decode cX3_counted 18 = .ok (.iastore, 1) := by decide +kernel
theorem dX3_counted_19 : decode cX3_counted 19 = .ok (.iload_n 1, 1) := by decide +kernel
theorem dX3_counted_20 : decode cX3_counted 20 = .ok (.ireturn, 1) := by decide +kernel
set_option maxRecDepth 20000 in
theorem ggX3_carry_X3_refusalOfPair : GoodIn wsX3_carry wsX3_refusalOfPair := goodIn_r _ [6, 7, 8, 9, 10, 11, 12, 45, 46, 47, 48, 49] (by decide +kernel) (by decide +kernel)
set_option maxRecDepth 20000 in
theorem gX3_carry_X3_refusalOfPair : GoodIn wsX3_carry (va_wsS RX3 106 yX3_refusalOfPair wsX3_refusalOfPair) := goodIn_app (goodIn_of _ (by decide +kernel)) ggX3_carry_X3_refusalOfPair
set_option maxRecDepth 20000 in
theorem ggX3_carry_X0_hasPlaces : GoodIn wsX3_carry wsX0_hasPlaces := goodIn_r _ [16, 17, 45, 46, 47, 48, 49] (by decide +kernel) (by decide +kernel)
set_option maxRecDepth 20000 in
theorem gX3_carry_X0_hasPlaces : GoodIn wsX3_carry (wsV RX3 139 RX0 yX0_hasPlaces wsX0_hasPlaces) := goodIn_app (goodIn_of _ (by decide +kernel)) ggX3_carry_X0_hasPlaces
set_option maxRecDepth 20000 in
theorem ggX3_carry_X0_accepts : GoodIn wsX3_carry wsX0_accepts := goodIn_r _ [21, 12, 22, 23, 24, 25, 10, 26, 27, 28, 29, 30, 31, 45, 46, 47, 48, 49, 50, 51, 52] (by decide +kernel) (by decide +kernel)
set_option maxRecDepth 20000 in
theorem gX3_carry_X0_accepts : GoodIn wsX3_carry (wsV RX3 57 RX0 yX0_accepts wsX0_accepts) := goodIn_app (goodIn_of _ (by decide +kernel)) ggX3_carry_X0_accepts
set_option maxRecDepth 20000 in
theorem ggX3_carry_X0_copyPlace : GoodIn wsX3_carry wsX0_copyPlace := goodIn_r _ [35, 36, 37, 45, 46, 47, 48, 49] (by decide +kernel) (by decide +kernel)
set_option maxRecDepth 20000 in
theorem gX3_carry_X0_copyPlace : GoodIn wsX3_carry (wsV RX3 102 RX0 yX0_copyPlace wsX0_copyPlace) := goodIn_app (goodIn_of _ (by decide +kernel)) ggX3_carry_X0_copyPlace
theorem dX3_carry_0 : decode cX3_carry 0 = .ok (.aload_n 0, 1) := by decide +kernel
theorem dX3_carry_1 : decode cX3_carry 1 = .ok (.iconst 0, 1) := by decide +kernel
theorem dX3_carry_2 : decode cX3_carry 2 = .ok (.putfield 32, 3) := by decide +kernel
theorem dX3_carry_5 : decode cX3_carry 5 = .ok (.aload_n 1, 1) := by decide +kernel
theorem dX3_carry_6 : decode cX3_carry 6 = .ok (.aload_n 3, 1) := by decide +kernel
theorem dX3_carry_7 : decode cX3_carry 7 = .ok (.invokestatic 106, 3) := by decide +kernel
theorem dX3_carry_10 : decode cX3_carry 10 = .ok (.istore 6, 2) := by decide +kernel
theorem dX3_carry_12 : decode cX3_carry 12 = .ok (.iload 6, 2) := by decide +kernel
theorem dX3_carry_14 : decode cX3_carry 14 = .ok (.ifCond .eq 6, 3) := by decide +kernel
theorem dX3_carry_17 : decode cX3_carry 17 = .ok (.iload 6, 2) := by decide +kernel
theorem dX3_carry_19 : decode cX3_carry 19 = .ok (.ireturn, 1) := by decide +kernel
theorem dX3_carry_20 : decode cX3_carry 20 = .ok (.aload_n 1, 1) := by decide +kernel
theorem dX3_carry_21 : decode cX3_carry 21 = .ok (.iload_n 2, 1) := by decide +kernel
theorem dX3_carry_22 : decode cX3_carry 22 = .ok (.iload 5, 2) := by decide +kernel
theorem dX3_carry_24 : decode cX3_carry 24 = .ok (.invokevirtual 139, 3) := by decide +kernel
theorem dX3_carry_27 : decode cX3_carry 27 = .ok (.ifCond .eq 14, 3) := by decide +kernel
theorem dX3_carry_30 : decode cX3_carry 30 = .ok (.aload_n 3, 1) := by decide +kernel
theorem dX3_carry_31 : decode cX3_carry 31 = .ok (.iload 4, 2) := by decide +kernel
theorem dX3_carry_33 : decode cX3_carry 33 = .ok (.iload 5, 2) := by decide +kernel
theorem dX3_carry_35 : decode cX3_carry 35 = .ok (.invokevirtual 139, 3) := by decide +kernel
theorem dX3_carry_38 : decode cX3_carry 38 = .ok (.ifCond .ne 6, 3) := by decide +kernel
theorem dX3_carry_41 : decode cX3_carry 41 = .ok (.bipush (-4), 2) := by decide +kernel
theorem dX3_carry_43 : decode cX3_carry 43 = .ok (.ireturn, 1) := by decide +kernel
theorem dX3_carry_44 : decode cX3_carry 44 = .ok (.aload_n 1, 1) := by decide +kernel
theorem dX3_carry_45 : decode cX3_carry 45 = .ok (.aload_n 3, 1) := by decide +kernel
theorem dX3_carry_46 : decode cX3_carry 46 = .ok (.if_acmp .ne 10, 3) := by decide +kernel
theorem dX3_carry_49 : decode cX3_carry 49 = .ok (.aload_n 0, 1) := by decide +kernel
theorem dX3_carry_50 : decode cX3_carry 50 = .ok (.getfield 22, 3) := by decide +kernel
theorem dX3_carry_53 : decode cX3_carry 53 = .ok (.goto 4, 3) := by decide +kernel
theorem dX3_carry_56 : decode cX3_carry 56 = .ok (.aload_n 1, 1) := by decide +kernel
theorem dX3_carry_57 : decode cX3_carry 57 = .ok (.astore 7, 2) := by decide +kernel
theorem dX3_carry_59 : decode cX3_carry 59 = .ok (.aload_n 0, 1) := by decide +kernel
theorem dX3_carry_60 : decode cX3_carry 60 = .ok (.getfield 32, 3) := by decide +kernel
theorem dX3_carry_63 : decode cX3_carry 63 = .ok (.iload 5, 2) := by decide +kernel
theorem dX3_carry_65 : decode cX3_carry 65 = .ok (.if_icmp .ge 54, 3) := by decide +kernel
theorem dX3_carry_68 : decode cX3_carry 68 = .ok (.aload_n 3, 1) := by decide +kernel
theorem dX3_carry_69 : decode cX3_carry 69 = .ok (.aload 7, 2) := by decide +kernel
theorem dX3_carry_71 : decode cX3_carry 71 = .ok (.getfield 73, 3) := by decide +kernel
theorem dX3_carry_74 : decode cX3_carry 74 = .ok (.iload_n 2, 1) := by decide +kernel
theorem dX3_carry_75 : decode cX3_carry 75 = .ok (.aload_n 0, 1) := by decide +kernel
theorem dX3_carry_76 : decode cX3_carry 76 = .ok (.getfield 32, 3) := by decide +kernel
theorem dX3_carry_79 : decode cX3_carry 79 = .ok (.iadd, 1) := by decide +kernel
theorem dX3_carry_80 : decode cX3_carry 80 = .ok (.aaload, 1) := by decide +kernel
theorem dX3_carry_81 : decode cX3_carry 81 = .ok (.invokevirtual 57, 3) := by decide +kernel
theorem dX3_carry_84 : decode cX3_carry 84 = .ok (.ifCond .eq 35, 3) := by decide +kernel
theorem dX3_carry_87 : decode cX3_carry 87 = .ok (.aload_n 3, 1) := by decide +kernel
theorem dX3_carry_88 : decode cX3_carry 88 = .ok (.iload 4, 2) := by decide +kernel
theorem dX3_carry_90 : decode cX3_carry 90 = .ok (.aload_n 0, 1) := by decide +kernel
theorem dX3_carry_91 : decode cX3_carry 91 = .ok (.getfield 32, 3) := by decide +kernel
theorem dX3_carry_94 : decode cX3_carry 94 = .ok (.iadd, 1) := by decide +kernel
theorem dX3_carry_95 : decode cX3_carry 95 = .ok (.aload 7, 2) := by decide +kernel
theorem dX3_carry_97 : decode cX3_carry 97 = .ok (.iload_n 2, 1) := by decide +kernel
theorem dX3_carry_98 : decode cX3_carry 98 = .ok (.aload_n 0, 1) := by decide +kernel
theorem dX3_carry_99 : decode cX3_carry 99 = .ok (.getfield 32, 3) := by decide +kernel
theorem dX3_carry_102 : decode cX3_carry 102 = .ok (.iadd, 1) := by decide +kernel
theorem dX3_carry_103 : decode cX3_carry 103 = .ok (.invokevirtual 102, 3) := by decide +kernel
theorem dX3_carry_106 : decode cX3_carry 106 = .ok (.aload_n 0, 1) := by decide +kernel
theorem dX3_carry_107 : decode cX3_carry 107 = .ok (.dup, 1) := by decide +kernel
theorem dX3_carry_108 : decode cX3_carry 108 = .ok (.getfield 32, 3) := by decide +kernel
theorem dX3_carry_111 : decode cX3_carry 111 = .ok (.iconst 1, 1) := by decide +kernel
theorem dX3_carry_112 : decode cX3_carry 112 = .ok (.iadd, 1) := by decide +kernel
theorem dX3_carry_113 : decode cX3_carry 113 = .ok (.putfield 32, 3) := by decide +kernel
theorem dX3_carry_116 : decode cX3_carry 116 = .ok (.goto (-57), 3) := by decide +kernel
theorem dX3_carry_119 : decode cX3_carry 119 = .ok (.aload_n 0, 1) := by decide +kernel
theorem dX3_carry_120 : decode cX3_carry 120 = .ok (.getfield 32, 3) := by decide +kernel
theorem dX3_carry_123 : decode cX3_carry 123 = .ok (.iload 5, 2) := by decide +kernel
theorem dX3_carry_125 : decode cX3_carry 125 = .ok (.if_icmp .ge 8, 3) := by decide +kernel
theorem dX3_carry_128 : decode cX3_carry 128 = .ok (.bipush (-5), 2) := by decide +kernel
theorem dX3_carry_130 : decode cX3_carry 130 = .ok (.goto 5, 3) := by decide +kernel
theorem dX3_carry_133 : decode cX3_carry 133 = .ok (.iload 5, 2) := by decide +kernel
theorem dX3_carry_135 : decode cX3_carry 135 = .ok (.ireturn, 1) := by decide +kernel
set_option maxRecDepth 20000 in
theorem ggX3_refusalOfPair_X0_isOfNumbers : GoodIn wsX3_refusalOfPair wsX0_isOfNumbers := goodIn_r _ [5, 6, 7, 8, 9, 10, 11] (by decide +kernel) (by decide +kernel)
set_option maxRecDepth 20000 in
theorem gX3_refusalOfPair_X0_isOfNumbers : GoodIn wsX3_refusalOfPair (wsV RX3 65 RX0 yX0_isOfNumbers wsX0_isOfNumbers) := goodIn_app (goodIn_of _ (by decide +kernel)) ggX3_refusalOfPair_X0_isOfNumbers
theorem dX3_refusalOfPair_0 : decode cX3_refusalOfPair 0 = .ok (.aload_n 0, 1) := by decide +kernel
theorem dX3_refusalOfPair_1 : decode cX3_refusalOfPair 1 = .ok (.getfield 43, 3) := by decide +kernel
theorem dX3_refusalOfPair_4 : decode cX3_refusalOfPair 4 = .ok (.ifCond .eq 10, 3) := by decide +kernel
theorem dX3_refusalOfPair_7 : decode cX3_refusalOfPair 7 = .ok (.aload_n 1, 1) := by decide +kernel
theorem dX3_refusalOfPair_8 : decode cX3_refusalOfPair 8 = .ok (.getfield 43, 3) := by decide +kernel
theorem dX3_refusalOfPair_11 : decode cX3_refusalOfPair 11 = .ok (.ifCond .ne 5, 3) := by decide +kernel
theorem dX3_refusalOfPair_14 : decode cX3_refusalOfPair 14 = .ok (.iconst (-1), 1) := by decide +kernel
theorem dX3_refusalOfPair_15 : decode cX3_refusalOfPair 15 = .ok (.ireturn, 1) := by decide +kernel
theorem dX3_refusalOfPair_16 : decode cX3_refusalOfPair 16 = .ok (.aload_n 0, 1) := by decide +kernel
theorem dX3_refusalOfPair_17 : decode cX3_refusalOfPair 17 = .ok (.getfield 43, 3) := by decide +kernel
theorem dX3_refusalOfPair_20 : decode cX3_refusalOfPair 20 = .ok (.iconst 1, 1) := by decide +kernel
theorem dX3_refusalOfPair_21 : decode cX3_refusalOfPair 21 = .ok (.if_icmp .eq 11, 3) := by decide +kernel
theorem dX3_refusalOfPair_24 : decode cX3_refusalOfPair 24 = .ok (.aload_n 1, 1) := by decide +kernel
theorem dX3_refusalOfPair_25 : decode cX3_refusalOfPair 25 = .ok (.getfield 43, 3) := by decide +kernel
theorem dX3_refusalOfPair_28 : decode cX3_refusalOfPair 28 = .ok (.iconst 1, 1) := by decide +kernel
theorem dX3_refusalOfPair_29 : decode cX3_refusalOfPair 29 = .ok (.if_icmp .ne 6, 3) := by decide +kernel
theorem dX3_refusalOfPair_32 : decode cX3_refusalOfPair 32 = .ok (.bipush (-2), 2) := by decide +kernel
theorem dX3_refusalOfPair_34 : decode cX3_refusalOfPair 34 = .ok (.ireturn, 1) := by decide +kernel
theorem dX3_refusalOfPair_35 : decode cX3_refusalOfPair 35 = .ok (.aload_n 0, 1) := by decide +kernel
theorem dX3_refusalOfPair_36 : decode cX3_refusalOfPair 36 = .ok (.invokevirtual 65, 3) := by decide +kernel
theorem dX3_refusalOfPair_39 : decode cX3_refusalOfPair 39 = .ok (.ifCond .ne 10, 3) := by decide +kernel
theorem dX3_refusalOfPair_42 : decode cX3_refusalOfPair 42 = .ok (.aload_n 1, 1) := by decide +kernel
theorem dX3_refusalOfPair_43 : decode cX3_refusalOfPair 43 = .ok (.invokevirtual 65, 3) := by decide +kernel
theorem dX3_refusalOfPair_46 : decode cX3_refusalOfPair 46 = .ok (.ifCond .eq 7, 3) := by decide +kernel
theorem dX3_refusalOfPair_49 : decode cX3_refusalOfPair 49 = .ok (.iconst 1, 1) := by decide +kernel
theorem dX3_refusalOfPair_50 : decode cX3_refusalOfPair 50 = .ok (.goto 4, 3) := by decide +kernel
theorem dX3_refusalOfPair_53 : decode cX3_refusalOfPair 53 = .ok (.iconst 0, 1) := by decide +kernel
theorem dX3_refusalOfPair_54 : decode cX3_refusalOfPair 54 = .ok (.istore_n 2, 1) := by decide +kernel
theorem dX3_refusalOfPair_55 : decode cX3_refusalOfPair 55 = .ok (.iload_n 2, 1) := by decide +kernel
theorem dX3_refusalOfPair_56 : decode cX3_refusalOfPair 56 = .ok (.ifCond .eq 19, 3) := by decide +kernel
theorem dX3_refusalOfPair_59 : decode cX3_refusalOfPair 59 = .ok (.aload_n 0, 1) := by decide +kernel
theorem dX3_refusalOfPair_60 : decode cX3_refusalOfPair 60 = .ok (.getfield 43, 3) := by decide +kernel
theorem dX3_refusalOfPair_63 : decode cX3_refusalOfPair 63 = .ok (.aload_n 1, 1) := by decide +kernel
theorem dX3_refusalOfPair_64 : decode cX3_refusalOfPair 64 = .ok (.getfield 43, 3) := by decide +kernel
theorem dX3_refusalOfPair_67 : decode cX3_refusalOfPair 67 = .ok (.if_icmp .eq 8, 3) := by decide +kernel
theorem dX3_refusalOfPair_70 : decode cX3_refusalOfPair 70 = .ok (.bipush (-3), 2) := by decide +kernel
theorem dX3_refusalOfPair_72 : decode cX3_refusalOfPair 72 = .ok (.goto 4, 3) := by decide +kernel
theorem dX3_refusalOfPair_75 : decode cX3_refusalOfPair 75 = .ok (.iconst 0, 1) := by decide +kernel
theorem dX3_refusalOfPair_76 : decode cX3_refusalOfPair 76 = .ok (.ireturn, 1) := by decide +kernel
set_option maxRecDepth 20000 in
theorem ggX3_thingFor_X3_isTray : GoodIn wsX3_thingFor wsX3_isTray := goodIn_r _ [5] (by decide +kernel) (by decide +kernel)
set_option maxRecDepth 20000 in
theorem gX3_thingFor_X3_isTray : GoodIn wsX3_thingFor (va_wsS RX3 39 yX3_isTray wsX3_isTray) := goodIn_app (goodIn_of _ (by decide +kernel)) ggX3_thingFor_X3_isTray
set_option maxRecDepth 20000 in
theorem ggX3_thingFor_J9_floorMod_7cf53 : GoodIn wsX3_thingFor wsJ9_floorMod_7cf53 := goodIn_r _ [9] (by decide +kernel) (by decide +kernel)
set_option maxRecDepth 20000 in
theorem gX3_thingFor_J9_floorMod_7cf53 : GoodIn wsX3_thingFor (va_wsS RX3 96 yJ9_floorMod_7cf53 wsJ9_floorMod_7cf53) := goodIn_app (goodIn_of _ (by decide +kernel)) ggX3_thingFor_J9_floorMod_7cf53
set_option maxRecDepth 20000 in
theorem ggX3_thingFor_X3_newPiece : GoodIn wsX3_thingFor wsX3_newPiece := goodIn_r _ [13, 14, 15, 16, 17, 18, 19, 20, 21, 22, 23, 24, 25, 26, 27, 28, 29, 30, 31, 32, 33, 34, 35, 36, 42, 43, 44] (by decide +kernel) (by decide +kernel)
set_option maxRecDepth 20000 in
theorem gX3_thingFor_X3_newPiece : GoodIn wsX3_thingFor (wsV RX3 143 RX3 yX3_newPiece wsX3_newPiece) := goodIn_app (goodIn_of _ (by decide +kernel)) ggX3_thingFor_X3_newPiece
theorem dX3_thingFor_0 : decode cX3_thingFor 0 = .ok (.iload_n 1, 1) := by decide +kernel
theorem dX3_thingFor_1 : decode cX3_thingFor 1 = .ok (.bipush 13, 2) := by decide +kernel
theorem dX3_thingFor_3 : decode cX3_thingFor 3 = .ok (.if_icmp .ne 35, 3) := by decide +kernel
theorem dX3_thingFor_6 : decode cX3_thingFor 6 = .ok (.iload_n 2, 1) := by decide +kernel
theorem dX3_thingFor_7 : decode cX3_thingFor 7 = .ok (.invokestatic 39, 3) := by decide +kernel
theorem dX3_thingFor_10 : decode cX3_thingFor 10 = .ok (.ifCond .eq 26, 3) := by decide +kernel
theorem dX3_thingFor_13 : decode cX3_thingFor 13 = .ok (.aload_n 0, 1) := by decide +kernel
theorem dX3_thingFor_14 : decode cX3_thingFor 14 = .ok (.getfield 18, 3) := by decide +kernel
theorem dX3_thingFor_17 : decode cX3_thingFor 17 = .ok (.iload_n 2, 1) := by decide +kernel
theorem dX3_thingFor_18 : decode cX3_thingFor 18 = .ok (.aaload, 1) := by decide +kernel
theorem dX3_thingFor_19 : decode cX3_thingFor 19 = .ok (.getfield 43, 3) := by decide +kernel
theorem dX3_thingFor_22 : decode cX3_thingFor 22 = .ok (.bipush 6, 2) := by decide +kernel
theorem dX3_thingFor_24 : decode cX3_thingFor 24 = .ok (.if_icmp .ne 12, 3) := by decide +kernel
theorem dX3_thingFor_27 : decode cX3_thingFor 27 = .ok (.aload_n 0, 1) := by decide +kernel
theorem dX3_thingFor_28 : decode cX3_thingFor 28 = .ok (.getfield 18, 3) := by decide +kernel
theorem dX3_thingFor_31 : decode cX3_thingFor 31 = .ok (.iload_n 2, 1) := by decide +kernel
theorem dX3_thingFor_32 : decode cX3_thingFor 32 = .ok (.aaload, 1) := by decide +kernel
theorem dX3_thingFor_33 : decode cX3_thingFor 33 = .ok (.goto 4, 3) := by decide +kernel
theorem dX3_thingFor_36 : decode cX3_thingFor 36 = .ok (.aconst_null, 1) := by decide +kernel
theorem dX3_thingFor_37 : decode cX3_thingFor 37 = .ok (.areturn, 1) := by decide +kernel
theorem dX3_thingFor_38 : decode cX3_thingFor 38 = .ok (.iload_n 1, 1) := by decide +kernel
theorem dX3_thingFor_39 : decode cX3_thingFor 39 = .ok (.bipush 10, 2) := by decide +kernel
theorem dX3_thingFor_41 : decode cX3_thingFor 41 = .ok (.if_icmp .lt 15, 3) := by decide +kernel
theorem dX3_thingFor_44 : decode cX3_thingFor 44 = .ok (.aload_n 0, 1) := by decide +kernel
theorem dX3_thingFor_45 : decode cX3_thingFor 45 = .ok (.iload_n 2, 1) := by decide +kernel
theorem dX3_thingFor_46 : decode cX3_thingFor 46 = .ok (.iconst 5, 1) := by decide +kernel
theorem dX3_thingFor_47 : decode cX3_thingFor 47 = .ok (.invokestatic 96, 3) := by decide +kernel
theorem dX3_thingFor_50 : decode cX3_thingFor 50 = .ok (.invokevirtual 143, 3) := by decide +kernel
theorem dX3_thingFor_53 : decode cX3_thingFor 53 = .ok (.goto 4, 3) := by decide +kernel
theorem dX3_thingFor_56 : decode cX3_thingFor 56 = .ok (.aconst_null, 1) := by decide +kernel
theorem dX3_thingFor_57 : decode cX3_thingFor 57 = .ok (.areturn, 1) := by decide +kernel
set_option maxRecDepth 20000 in
theorem ggX3_newPiece_X1_init : GoodIn wsX3_newPiece wsX1_init := goodIn_r _ [7, 8, 9, 10, 11, 12, 13, 14, 15, 16, 24, 25, 26] (by decide +kernel) (by decide +kernel)
set_option maxRecDepth 20000 in
theorem gX3_newPiece_X1_init : GoodIn wsX3_newPiece (wsX1_init) := ggX3_newPiece_X1_init
theorem dX3_newPiece_0 : decode cX3_newPiece 0 = .ok (.iload_n 1, 1) := by decide +kernel
theorem dX3_newPiece_1 : decode cX3_newPiece 1 = .ok (.ifCond .ne 5, 3) := by decide +kernel
theorem dX3_newPiece_4 : decode cX3_newPiece 4 = .ok (.aconst_null, 1) := by decide +kernel
theorem dX3_newPiece_5 : decode cX3_newPiece 5 = .ok (.areturn, 1) := by decide +kernel
theorem dX3_newPiece_6 : decode cX3_newPiece 6 = .ok (.aload_n 0, 1) := by decide +kernel
theorem dX3_newPiece_7 : decode cX3_newPiece 7 = .ok (.dup, 1) := by decide +kernel
theorem dX3_newPiece_8 : decode cX3_newPiece 8 = .ok (.getfield 36, 3) := by decide +kernel
theorem dX3_newPiece_11 : decode cX3_newPiece 11 = .ok (.iconst 1, 1) := by decide +kernel
theorem dX3_newPiece_12 : decode cX3_newPiece 12 = .ok (.iadd, 1) := by decide +kernel
theorem dX3_newPiece_13 : decode cX3_newPiece 13 = .ok (.putfield 36, 3) := by decide +kernel
theorem dX3_newPiece_16 : decode cX3_newPiece 16 = .ok (.new 117, 3) := by decide +kernel
theorem dX3_newPiece_19 : decode cX3_newPiece 19 = .ok (.dup, 1) := by decide +kernel
theorem dX3_newPiece_20 : decode cX3_newPiece 20 = .ok (.iconst 2, 1) := by decide +kernel
theorem dX3_newPiece_21 : decode cX3_newPiece 21 = .ok (.iload_n 1, 1) := by decide +kernel
theorem dX3_newPiece_22 : decode cX3_newPiece 22 = .ok (.iadd, 1) := by decide +kernel
theorem dX3_newPiece_23 : decode cX3_newPiece 23 = .ok (.iconst 1, 1) := by decide +kernel
theorem dX3_newPiece_24 : decode cX3_newPiece 24 = .ok (.isub, 1) := by decide +kernel
theorem dX3_newPiece_25 : decode cX3_newPiece 25 = .ok (.aload_n 0, 1) := by decide +kernel
theorem dX3_newPiece_26 : decode cX3_newPiece 26 = .ok (.getfield 36, 3) := by decide +kernel
theorem dX3_newPiece_29 : decode cX3_newPiece 29 = .ok (.invokespecial 147, 3) := by decide +kernel
theorem dX3_newPiece_32 : decode cX3_newPiece 32 = .ok (.areturn, 1) := by decide +kernel
theorem dX3_numberFor_0 : decode cX3_numberFor 0 = .ok (.iload_n 0, 1) := by decide +kernel
theorem dX3_numberFor_1 : decode cX3_numberFor 1 = .ok (.tableswitch 69 2 8 #[43, 53, 57, 61, 69, 69, 65], 43) := by decide +kernel
theorem dX3_numberFor_44 : decode cX3_numberFor 44 = .ok (.iload_n 1, 1) := by decide +kernel
theorem dX3_numberFor_45 : decode cX3_numberFor 45 = .ok (.ifCond .eq 7, 3) := by decide +kernel
theorem dX3_numberFor_48 : decode cX3_numberFor 48 = .ok (.lconst 1, 1) := by decide +kernel
theorem dX3_numberFor_49 : decode cX3_numberFor 49 = .ok (.goto 4, 3) := by decide +kernel
theorem dX3_numberFor_52 : decode cX3_numberFor 52 = .ok (.lconst 0, 1) := by decide +kernel
theorem dX3_numberFor_53 : decode cX3_numberFor 53 = .ok (.lreturn, 1) := by decide +kernel
theorem dX3_numberFor_54 : decode cX3_numberFor 54 = .ok (.iload_n 1, 1) := by decide +kernel
theorem dX3_numberFor_55 : decode cX3_numberFor 55 = .ok (.i2b, 1) := by decide +kernel
theorem dX3_numberFor_56 : decode cX3_numberFor 56 = .ok (.i2l, 1) := by decide +kernel
theorem dX3_numberFor_57 : decode cX3_numberFor 57 = .ok (.lreturn, 1) := by decide +kernel
theorem dX3_numberFor_58 : decode cX3_numberFor 58 = .ok (.iload_n 1, 1) := by decide +kernel
theorem dX3_numberFor_59 : decode cX3_numberFor 59 = .ok (.i2c, 1) := by decide +kernel
theorem dX3_numberFor_60 : decode cX3_numberFor 60 = .ok (.i2l, 1) := by decide +kernel
theorem dX3_numberFor_61 : decode cX3_numberFor 61 = .ok (.lreturn, 1) := by decide +kernel
theorem dX3_numberFor_62 : decode cX3_numberFor 62 = .ok (.iload_n 1, 1) := by decide +kernel
theorem dX3_numberFor_63 : decode cX3_numberFor 63 = .ok (.i2s, 1) := by decide +kernel
theorem dX3_numberFor_64 : decode cX3_numberFor 64 = .ok (.i2l, 1) := by decide +kernel
theorem dX3_numberFor_65 : decode cX3_numberFor 65 = .ok (.lreturn, 1) := by decide +kernel
theorem dX3_numberFor_66 : decode cX3_numberFor 66 = .ok (.iload_n 1, 1) := by decide +kernel
theorem dX3_numberFor_67 : decode cX3_numberFor 67 = .ok (.i2f, 1) := by decide +kernel
theorem dX3_numberFor_68 : decode cX3_numberFor 68 = .ok (.f2l, 1) := by decide +kernel
theorem dX3_numberFor_69 : decode cX3_numberFor 69 = .ok (.lreturn, 1) := by decide +kernel
theorem dX3_numberFor_70 : decode cX3_numberFor 70 = .ok (.iload_n 1, 1) := by decide +kernel
theorem dX3_numberFor_71 : decode cX3_numberFor 71 = .ok (.i2l, 1) := by decide +kernel
theorem dX3_numberFor_72 : decode cX3_numberFor 72 = .ok (.lreturn, 1) := by decide +kernel
theorem dJ9_floorMod_7cf53_0 : decode cJ9_floorMod_7cf53 0 = .ok (.iload_n 0, 1) := by decide +kernel
theorem dJ9_floorMod_7cf53_1 : decode cJ9_floorMod_7cf53 1 = .ok (.iload_n 1, 1) := by decide +kernel
theorem dJ9_floorMod_7cf53_2 : decode cJ9_floorMod_7cf53 2 = .ok (.irem, 1) := by decide +kernel
theorem dJ9_floorMod_7cf53_3 : decode cJ9_floorMod_7cf53 3 = .ok (.istore_n 2, 1) := by decide +kernel
theorem dJ9_floorMod_7cf53_4 : decode cJ9_floorMod_7cf53 4 = .ok (.iload_n 0, 1) := by decide +kernel
theorem dJ9_floorMod_7cf53_5 : decode cJ9_floorMod_7cf53 5 = .ok (.iload_n 1, 1) := by decide +kernel
theorem dJ9_floorMod_7cf53_6 : decode cJ9_floorMod_7cf53 6 = .ok (.ixor, 1) := by decide +kernel
theorem dJ9_floorMod_7cf53_7 : decode cJ9_floorMod_7cf53 7 = .ok (.ifCond .ge 11, 3) := by decide +kernel
theorem dJ9_floorMod_7cf53_10 : decode cJ9_floorMod_7cf53 10 = .ok (.iload_n 2, 1) := by decide +kernel
theorem dJ9_floorMod_7cf53_11 : decode cJ9_floorMod_7cf53 11 = .ok (.ifCond .eq 7, 3) := by decide +kernel
theorem dJ9_floorMod_7cf53_14 : decode cJ9_floorMod_7cf53 14 = .ok (.iload_n 2, 1) := by decide +kernel
theorem dJ9_floorMod_7cf53_15 : decode cJ9_floorMod_7cf53 15 = .ok (.iload_n 1, 1) := by decide +kernel
theorem dJ9_floorMod_7cf53_16 : decode cJ9_floorMod_7cf53 16 = .ok (.iadd, 1) := by decide +kernel
theorem dJ9_floorMod_7cf53_17 : decode cJ9_floorMod_7cf53 17 = .ok (.ireturn, 1) := by decide +kernel
theorem dJ9_floorMod_7cf53_18 : decode cJ9_floorMod_7cf53 18 = .ok (.iload_n 2, 1) := by decide +kernel
theorem dJ9_floorMod_7cf53_19 : decode cJ9_floorMod_7cf53 19 = .ok (.ireturn, 1) := by decide +kernel
theorem dJ9_min_7cf53_0 : decode cJ9_min_7cf53 0 = .ok (.iload_n 0, 1) := by decide +kernel
theorem dJ9_min_7cf53_1 : decode cJ9_min_7cf53 1 = .ok (.iload_n 1, 1) := by decide +kernel
theorem dJ9_min_7cf53_2 : decode cJ9_min_7cf53 2 = .ok (.if_icmp .gt 7, 3) := by decide +kernel
theorem dJ9_min_7cf53_5 : decode cJ9_min_7cf53 5 = .ok (.iload_n 0, 1) := by decide +kernel
theorem dJ9_min_7cf53_6 : decode cJ9_min_7cf53 6 = .ok (.goto 4, 3) := by decide +kernel
theorem dJ9_min_7cf53_9 : decode cJ9_min_7cf53 9 = .ok (.iload_n 1, 1) := by decide +kernel
theorem dJ9_min_7cf53_10 : decode cJ9_min_7cf53 10 = .ok (.ireturn, 1) := by decide +kernel
