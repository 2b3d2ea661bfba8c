theorem dX0_init_0 : decode cX0_init 0 = .ok (.aload_n 0, 1) := by decide +kernel
theorem dX0_init_1 : decode cX0_init 1 = .ok (.invokespecial 3, 3) := by decide +kernel
theorem dX0_init_4 : decode cX0_init 4 = .ok (.aload_n 0, 1) := by decide +kernel
theorem dX0_init_5 : decode cX0_init 5 = .ok (.iconst 1, 1) := by decide +kernel
theorem dX0_init_6 : decode cX0_init 6 = .ok (.putfield 9, 3) := by decide +kernel
theorem dX0_init_9 : decode cX0_init 9 = .ok (.aload_n 0, 1) := by decide +kernel
theorem dX0_init_10 : decode cX0_init 10 = .ok (.bipush 60, 2) := by decide +kernel
theorem dX0_init_12 : decode cX0_init 12 = .ok (.newarray .int, 2) := by decide +kernel
theorem dX0_init_14 : decode cX0_init 14 = .ok (.putfield 15, 3) := by decide +kernel
theorem dX0_init_17 : decode cX0_init 17 = .ok (.aload_n 0, 1) := by decide +kernel
theorem dX0_init_18 : decode cX0_init 18 = .ok (.bipush 60, 2) := by decide +kernel
theorem dX0_init_20 : decode cX0_init 20 = .ok (.newarray .int, 2) := by decide +kernel
theorem dX0_init_22 : decode cX0_init 22 = .ok (.putfield 19, 3) := by decide +kernel
theorem dX0_init_25 : decode cX0_init 25 = .ok (.aload_n 0, 1) := by decide +kernel
theorem dX0_init_26 : decode cX0_init 26 = .ok (.bipush 60, 2) := by decide +kernel
theorem dX0_init_28 : decode cX0_init 28 = .ok (.newarray .boolean, 2) := by decide +kernel
theorem dX0_init_30 : decode cX0_init 30 = .ok (.putfield 22, 3) := by decide +kernel
theorem dX0_init_33 : decode cX0_init 33 = .ok (.aload_n 0, 1) := by decide +kernel
theorem dX0_init_34 : decode cX0_init 34 = .ok (.bipush 60, 2) := by decide +kernel
theorem dX0_init_36 : decode cX0_init 36 = .ok (.newarray .long, 2) := by decide +kernel
theorem dX0_init_38 : decode cX0_init 38 = .ok (.putfield 26, 3) := by decide +kernel
theorem dX0_init_41 : decode cX0_init 41 = .ok (.aload_n 0, 1) := by decide +kernel
theorem dX0_init_42 : decode cX0_init 42 = .ok (.bipush 60, 2) := by decide +kernel
theorem dX0_init_44 : decode cX0_init 44 = .ok (.newarray .int, 2) := by decide +kernel
theorem dX0_init_46 : decode cX0_init 46 = .ok (.putfield 30, 3) := by decide +kernel
theorem dX0_init_49 : decode cX0_init 49 = .ok (.aload_n 0, 1) := by decide +kernel
theorem dX0_init_50 : decode cX0_init 50 = .ok (.bipush 60, 2) := by decide +kernel
theorem dX0_init_52 : decode cX0_init 52 = .ok (.newarray .int, 2) := by decide +kernel
theorem dX0_init_54 : decode cX0_init 54 = .ok (.putfield 33, 3) := by decide +kernel
theorem dX0_init_57 : decode cX0_init 57 = .ok (.aload_n 0, 1) := by decide +kernel
theorem dX0_init_58 : decode cX0_init 58 = .ok (.sipush 1800, 3) := by decide +kernel
theorem dX0_init_61 : decode cX0_init 61 = .ok (.newarray .int, 2) := by decide +kernel
theorem dX0_init_63 : decode cX0_init 63 = .ok (.putfield 36, 3) := by decide +kernel
theorem dX0_init_66 : decode cX0_init 66 = .ok (.aload_n 0, 1) := by decide +kernel
theorem dX0_init_67 : decode cX0_init 67 = .ok (.lconst 0, 1) := by decide +kernel
theorem dX0_init_68 : decode cX0_init 68 = .ok (.putfield 39, 3) := by decide +kernel
theorem dX0_init_71 : decode cX0_init 71 = .ok (.aload_n 0, 1) := by decide +kernel
theorem dX0_init_72 : decode cX0_init 72 = .ok (.iconst 0, 1) := by decide +kernel
theorem dX0_init_73 : decode cX0_init 73 = .ok (.putfield 43, 3) := by decide +kernel
theorem dX0_init_76 : decode cX0_init 76 = .ok (.return_, 1) := by decide +kernel
theorem dX0_exists_0 : decode cX0_exists 0 = .ok (.iload_n 1, 1) := by decide +kernel
theorem dX0_exists_1 : decode cX0_exists 1 = .ok (.ifCond .lt 15, 3) := by decide +kernel
theorem dX0_exists_4 : decode cX0_exists 4 = .ok (.iload_n 1, 1) := by decide +kernel
theorem dX0_exists_5 : decode cX0_exists 5 = .ok (.aload_n 0, 1) := by decide +kernel
theorem dX0_exists_6 : decode cX0_exists 6 = .ok (.getfield 9, 3) := by decide +kernel
theorem dX0_exists_9 : decode cX0_exists 9 = .ok (.if_icmp .ge 7, 3) := by decide +kernel
theorem dX0_exists_12 : decode cX0_exists 12 = .ok (.iconst 1, 1) := by decide +kernel
theorem dX0_exists_13 : decode cX0_exists 13 = .ok (.goto 4, 3) := by decide +kernel
theorem dX0_exists_16 : decode cX0_exists 16 = .ok (.iconst 0, 1) := by decide +kernel
theorem dX0_exists_17 : decode cX0_exists 17 = .ok (.ireturn, 1) := by decide +kernel
set_option maxRecDepth 20000 in
theorem ggX0_isFace_X0_exists : GoodIn wsX0_isFace wsX0_exists := goodIn_r _ [6, 7, 8, 9, 10, 11, 12, 13, 14, 15, 16, 17] (by decide +kernel) (by decide +kernel)
set_option maxRecDepth 20000 in
theorem gX0_isFace_X0_exists : GoodIn wsX0_isFace (wsV RX0 46 RX0 yX0_exists wsX0_exists) := goodIn_app (goodIn_of _ (by decide +kernel)) ggX0_isFace_X0_exists
theorem dX0_isFace_0 : decode cX0_isFace 0 = .ok (.aload_n 0, 1) := by decide +kernel
theorem dX0_isFace_1 : decode cX0_isFace 1 = .ok (.iload_n 1, 1) := by decide +kernel
theorem dX0_isFace_2 : decode cX0_isFace 2 = .ok (.invokevirtual 46, 3) := by decide +kernel
theorem dX0_isFace_5 : decode cX0_isFace 5 = .ok (.ifCond .eq 16, 3) := by decide +kernel
theorem dX0_isFace_8 : decode cX0_isFace 8 = .ok (.aload_n 0, 1) := by decide +kernel
theorem dX0_isFace_9 : decode cX0_isFace 9 = .ok (.getfield 22, 3) := by decide +kernel
theorem dX0_isFace_12 : decode cX0_isFace 12 = .ok (.iload_n 1, 1) := by decide +kernel
theorem dX0_isFace_13 : decode cX0_isFace 13 = .ok (.baload, 1) := by decide +kernel
theorem dX0_isFace_14 : decode cX0_isFace 14 = .ok (.ifCond .eq 7, 3) := by decide +kernel
theorem dX0_isFace_17 : decode cX0_isFace 17 = .ok (.iconst 1, 1) := by decide +kernel
theorem dX0_isFace_18 : decode cX0_isFace 18 = .ok (.goto 4, 3) := by decide +kernel
theorem dX0_isFace_21 : decode cX0_isFace 21 = .ok (.iconst 0, 1) := by decide +kernel
theorem dX0_isFace_22 : decode cX0_isFace 22 = .ok (.ireturn, 1) := by decide +kernel
set_option maxRecDepth 20000 in
theorem ggX0_isPlain_X0_exists : GoodIn wsX0_isPlain wsX0_exists := goodIn_r _ [6, 7, 8, 9, 10, 11, 12, 13, 14, 15, 16, 17] (by decide +kernel) (by decide +kernel)
set_option maxRecDepth 20000 in
theorem gX0_isPlain_X0_exists : GoodIn wsX0_isPlain (wsV RX0 46 RX0 yX0_exists wsX0_exists) := goodIn_app (goodIn_of _ (by decide +kernel)) ggX0_isPlain_X0_exists
theorem dX0_isPlain_0 : decode cX0_isPlain 0 = .ok (.aload_n 0, 1) := by decide +kernel
theorem dX0_isPlain_1 : decode cX0_isPlain 1 = .ok (.iload_n 1, 1) := by decide +kernel
theorem dX0_isPlain_2 : decode cX0_isPlain 2 = .ok (.invokevirtual 46, 3) := by decide +kernel
theorem dX0_isPlain_5 : decode cX0_isPlain 5 = .ok (.ifCond .eq 16, 3) := by decide +kernel
theorem dX0_isPlain_8 : decode cX0_isPlain 8 = .ok (.aload_n 0, 1) := by decide +kernel
theorem dX0_isPlain_9 : decode cX0_isPlain 9 = .ok (.getfield 22, 3) := by decide +kernel
theorem dX0_isPlain_12 : decode cX0_isPlain 12 = .ok (.iload_n 1, 1) := by decide +kernel
theorem dX0_isPlain_13 : decode cX0_isPlain 13 = .ok (.baload, 1) := by decide +kernel
theorem dX0_isPlain_14 : decode cX0_isPlain 14 = .ok (.ifCond .ne 7, 3) := by decide +kernel
theorem dX0_isPlain_17 : decode cX0_isPlain 17 = .ok (.iconst 1, 1) := by decide +kernel
theorem dX0_isPlain_18 : decode cX0_isPlain 18 = .ok (.goto 4, 3) := by decide +kernel
theorem dX0_isPlain_21 : decode cX0_isPlain 21 = .ok (.iconst 0, 1) := by decide +kernel
theorem dX0_isPlain_22 : decode cX0_isPlain 22 = .ok (.ireturn, 1) := by decide +kernel
theorem dX0_isLatest_0 : decode cX0_isLatest 0 = .ok (.iload_n 1, 1) := by decide +kernel
theorem dX0_isLatest_1 : decode cX0_isLatest 1 = .ok (.aload_n 0, 1) := by decide +kernel
theorem dX0_isLatest_2 : decode cX0_isLatest 2 = .ok (.getfield 9, 3) := by decide +kernel
theorem dX0_isLatest_5 : decode cX0_isLatest 5 = .ok (.iconst 1, 1) := by decide +kernel
theorem dX0_isLatest_6 : decode cX0_isLatest 6 = .ok (.isub, 1) := by decide +kernel
theorem dX0_isLatest_7 : decode cX0_isLatest 7 = .ok (.if_icmp .ne 7, 3) := by decide +kernel
theorem dX0_isLatest_10 : decode cX0_isLatest 10 = .ok (.iconst 1, 1) := by decide +kernel
theorem dX0_isLatest_11 : decode cX0_isLatest 11 = .ok (.goto 4, 3) := by decide +kernel
theorem dX0_isLatest_14 : decode cX0_isLatest 14 = .ok (.iconst 0, 1) := by decide +kernel
theorem dX0_isLatest_15 : decode cX0_isLatest 15 = .ok (.ireturn, 1) := by decide +kernel
set_option maxRecDepth 20000 in
theorem ggX0_below_X2_holds : GoodIn wsX0_below wsX2_holds := goodIn_r _ [4] (by decide +kernel) (by decide +kernel)
set_option maxRecDepth 20000 in
theorem gX0_below_X2_holds_n50 : GoodIn wsX0_below (wsX2_holds) := ggX0_below_X2_holds
theorem dX0_below_0 : decode cX0_below 0 = .ok (.aload_n 0, 1) := by decide +kernel
theorem dX0_below_1 : decode cX0_below 1 = .ok (.getfield 26, 3) := by decide +kernel
theorem dX0_below_4 : decode cX0_below 4 = .ok (.iload_n 1, 1) := by decide +kernel
theorem dX0_below_5 : decode cX0_below 5 = .ok (.laload, 1) := by decide +kernel
theorem dX0_below_6 : decode cX0_below 6 = .ok (.iload_n 2, 1) := by decide +kernel
theorem dX0_below_7 : decode cX0_below 7 = .ok (.invokestatic 50, 3) := by decide +kernel
theorem dX0_below_10 : decode cX0_below 10 = .ok (.ireturn, 1) := by decide +kernel
set_option maxRecDepth 20000 in
theorem ggX0_inRow_X0_below : GoodIn wsX0_inRow wsX0_below := goodIn_r _ [6, 7, 8, 9, 10, 11, 12, 13, 14, 15, 16, 17, 18, 19, 20] (by decide +kernel) (by decide +kernel)
set_option maxRecDepth 20000 in
theorem gX0_inRow_X0_below : GoodIn wsX0_inRow (wsV RX0 54 RX0 yX0_below wsX0_below) := goodIn_app (goodIn_of _ (by decide +kernel)) ggX0_inRow_X0_below
theorem dX0_inRow_0 : decode cX0_inRow 0 = .ok (.iload_n 1, 1) := by decide +kernel
theorem dX0_inRow_1 : decode cX0_inRow 1 = .ok (.iload_n 2, 1) := by decide +kernel
theorem dX0_inRow_2 : decode cX0_inRow 2 = .ok (.if_icmp .eq 30, 3) := by decide +kernel
theorem dX0_inRow_5 : decode cX0_inRow 5 = .ok (.aload_n 0, 1) := by decide +kernel
theorem dX0_inRow_6 : decode cX0_inRow 6 = .ok (.getfield 22, 3) := by decide +kernel
theorem dX0_inRow_9 : decode cX0_inRow 9 = .ok (.iload_n 1, 1) := by decide +kernel
theorem dX0_inRow_10 : decode cX0_inRow 10 = .ok (.baload, 1) := by decide +kernel
theorem dX0_inRow_11 : decode cX0_inRow 11 = .ok (.ifCond .ne 25, 3) := by decide +kernel
theorem dX0_inRow_14 : decode cX0_inRow 14 = .ok (.aload_n 0, 1) := by decide +kernel
theorem dX0_inRow_15 : decode cX0_inRow 15 = .ok (.getfield 22, 3) := by decide +kernel
theorem dX0_inRow_18 : decode cX0_inRow 18 = .ok (.iload_n 2, 1) := by decide +kernel
theorem dX0_inRow_19 : decode cX0_inRow 19 = .ok (.baload, 1) := by decide +kernel
theorem dX0_inRow_20 : decode cX0_inRow 20 = .ok (.ifCond .ne 16, 3) := by decide +kernel
theorem dX0_inRow_23 : decode cX0_inRow 23 = .ok (.aload_n 0, 1) := by decide +kernel
theorem dX0_inRow_24 : decode cX0_inRow 24 = .ok (.iload_n 1, 1) := by decide +kernel
theorem dX0_inRow_25 : decode cX0_inRow 25 = .ok (.iload_n 2, 1) := by decide +kernel
theorem dX0_inRow_26 : decode cX0_inRow 26 = .ok (.invokevirtual 54, 3) := by decide +kernel
theorem dX0_inRow_29 : decode cX0_inRow 29 = .ok (.ifCond .eq 7, 3) := by decide +kernel
theorem dX0_inRow_32 : decode cX0_inRow 32 = .ok (.iconst 1, 1) := by decide +kernel
theorem dX0_inRow_33 : decode cX0_inRow 33 = .ok (.goto 4, 3) := by decide +kernel
theorem dX0_inRow_36 : decode cX0_inRow 36 = .ok (.iconst 0, 1) := by decide +kernel
theorem dX0_inRow_37 : decode cX0_inRow 37 = .ok (.ireturn, 1) := by decide +kernel
theorem dX0_faceAt_0 : decode cX0_faceAt 0 = .ok (.aload_n 0, 1) := by decide +kernel
theorem dX0_faceAt_1 : decode cX0_faceAt 1 = .ok (.getfield 36, 3) := by decide +kernel
theorem dX0_faceAt_4 : decode cX0_faceAt 4 = .ok (.aload_n 0, 1) := by decide +kernel
theorem dX0_faceAt_5 : decode cX0_faceAt 5 = .ok (.getfield 33, 3) := by decide +kernel
theorem dX0_faceAt_8 : decode cX0_faceAt 8 = .ok (.iload_n 1, 1) := by decide +kernel
theorem dX0_faceAt_9 : decode cX0_faceAt 9 = .ok (.iaload, 1) := by decide +kernel
theorem dX0_faceAt_10 : decode cX0_faceAt 10 = .ok (.iload_n 2, 1) := by decide +kernel
theorem dX0_faceAt_11 : decode cX0_faceAt 11 = .ok (.iadd, 1) := by decide +kernel
theorem dX0_faceAt_12 : decode cX0_faceAt 12 = .ok (.iaload, 1) := by decide +kernel
theorem dX0_faceAt_13 : decode cX0_faceAt 13 = .ok (.ireturn, 1) := by decide +kernel
set_option maxRecDepth 20000 in
theorem ggX0_append_X0_listFacesOf : GoodIn wsX0_append wsX0_listFacesOf := goodIn_r _ [14, 3, 15, 16, 17, 13, 18, 19, 2, 20, 21, 22, 23, 24, 25, 26, 27, 28, 29, 30, 31, 32, 33] (by decide +kernel) (by decide +kernel)
set_option maxRecDepth 20000 in
theorem gX0_append_X0_listFacesOf : GoodIn wsX0_append (wsV RX0 58 RX0 yX0_listFacesOf wsX0_listFacesOf) := goodIn_app (goodIn_of _ (by decide +kernel)) ggX0_append_X0_listFacesOf
theorem dX0_append_0 : decode cX0_append 0 = .ok (.aload_n 0, 1) := by decide +kernel
theorem dX0_append_1 : decode cX0_append 1 = .ok (.getfield 9, 3) := by decide +kernel
theorem dX0_append_4 : decode cX0_append 4 = .ok (.istore 4, 2) := by decide +kernel
theorem dX0_append_6 : decode cX0_append 6 = .ok (.aload_n 0, 1) := by decide +kernel
theorem dX0_append_7 : decode cX0_append 7 = .ok (.getfield 33, 3) := by decide +kernel
theorem dX0_append_10 : decode cX0_append 10 = .ok (.iload 4, 2) := by decide +kernel
theorem dX0_append_12 : decode cX0_append 12 = .ok (.aload_n 0, 1) := by decide +kernel
theorem dX0_append_13 : decode cX0_append 13 = .ok (.getfield 33, 3) := by decide +kernel
theorem dX0_append_16 : decode cX0_append 16 = .ok (.iload 4, 2) := by decide +kernel
theorem dX0_append_18 : decode cX0_append 18 = .ok (.iconst 1, 1) := by decide +kernel
theorem dX0_append_19 : decode cX0_append 19 = .ok (.isub, 1) := by decide +kernel
theorem dX0_append_20 : decode cX0_append 20 = .ok (.iaload, 1) := by decide +kernel
theorem dX0_append_21 : decode cX0_append 21 = .ok (.aload_n 0, 1) := by decide +kernel
theorem dX0_append_22 : decode cX0_append 22 = .ok (.getfield 30, 3) := by decide +kernel
theorem dX0_append_25 : decode cX0_append 25 = .ok (.iload 4, 2) := by decide +kernel
theorem dX0_append_27 : decode cX0_append 27 = .ok (.iconst 1, 1) := by decide +kernel
theorem dX0_append_28 : decode cX0_append 28 = .ok (.isub, 1) := by decide +kernel
theorem dX0_append_29 : decode cX0_append 29 = .ok (.iaload, 1) := by decide +kernel
theorem dX0_append_30 : decode cX0_append 30 = .ok (.iadd, 1) := by decide +kernel
theorem dX0_append_31 : decode cX0_append 31 = .ok (.iastore, 1) := by decide +kernel
theorem dX0_append_32 : decode cX0_append 32 = .ok (.aload_n 0, 1) := by decide +kernel
theorem dX0_append_33 : decode cX0_append 33 = .ok (.getfield 15, 3) := by decide +kernel
theorem dX0_append_36 : decode cX0_append 36 = .ok (.iload 4, 2) := by decide +kernel
theorem dX0_append_38 : decode cX0_append 38 = .ok (.iload_n 1, 1) := by decide +kernel
theorem dX0_append_39 : decode cX0_append 39 = .ok (.iastore, 1) := by decide +kernel
theorem dX0_append_40 : decode cX0_append 40 = .ok (.aload_n 0, 1) := by decide +kernel
theorem dX0_append_41 : decode cX0_append 41 = .ok (.getfield 19, 3) := by decide +kernel
theorem dX0_append_44 : decode cX0_append 44 = .ok (.iload 4, 2) := by decide +kernel
theorem dX0_append_46 : decode cX0_append 46 = .ok (.iload_n 2, 1) := by decide +kernel
theorem dX0_append_47 : decode cX0_append 47 = .ok (.iastore, 1) := by decide +kernel
theorem dX0_append_48 : decode cX0_append 48 = .ok (.aload_n 0, 1) := by decide +kernel
theorem dX0_append_49 : decode cX0_append 49 = .ok (.getfield 22, 3) := by decide +kernel
theorem dX0_append_52 : decode cX0_append 52 = .ok (.iload 4, 2) := by decide +kernel
theorem dX0_append_54 : decode cX0_append 54 = .ok (.iload_n 3, 1) := by decide +kernel
theorem dX0_append_55 : decode cX0_append 55 = .ok (.bastore, 1) := by decide +kernel
theorem dX0_append_56 : decode cX0_append 56 = .ok (.aload_n 0, 1) := by decide +kernel
theorem dX0_append_57 : decode cX0_append 57 = .ok (.getfield 26, 3) := by decide +kernel
theorem dX0_append_60 : decode cX0_append 60 = .ok (.iload 4, 2) := by decide +kernel
theorem dX0_append_62 : decode cX0_append 62 = .ok (.aload_n 0, 1) := by decide +kernel
theorem dX0_append_63 : decode cX0_append 63 = .ok (.getfield 26, 3) := by decide +kernel
theorem dX0_append_66 : decode cX0_append 66 = .ok (.iload_n 1, 1) := by decide +kernel
theorem dX0_append_67 : decode cX0_append 67 = .ok (.laload, 1) := by decide +kernel
theorem dX0_append_68 : decode cX0_append 68 = .ok (.lconst 1, 1) := by decide +kernel
theorem dX0_append_69 : decode cX0_append 69 = .ok (.iload_n 1, 1) := by decide +kernel
theorem dX0_append_70 : decode cX0_append 70 = .ok (.lshl, 1) := by decide +kernel
theorem dX0_append_71 : decode cX0_append 71 = .ok (.lor, 1) := by decide +kernel
theorem dX0_append_72 : decode cX0_append 72 = .ok (.lastore, 1) := by decide +kernel
theorem dX0_append_73 : decode cX0_append 73 = .ok (.aload_n 0, 1) := by decide +kernel
theorem dX0_append_74 : decode cX0_append 74 = .ok (.lconst 0, 1) := by decide +kernel
theorem dX0_append_75 : decode cX0_append 75 = .ok (.putfield 39, 3) := by decide +kernel
theorem dX0_append_78 : decode cX0_append 78 = .ok (.aload_n 0, 1) := by decide +kernel
theorem dX0_append_79 : decode cX0_append 79 = .ok (.iconst 0, 1) := by decide +kernel
theorem dX0_append_80 : decode cX0_append 80 = .ok (.putfield 43, 3) := by decide +kernel
theorem dX0_append_83 : decode cX0_append 83 = .ok (.aload_n 0, 1) := by decide +kernel
theorem dX0_append_84 : decode cX0_append 84 = .ok (.iload 4, 2) := by decide +kernel
theorem dX0_append_86 : decode cX0_append 86 = .ok (.iload_n 1, 1) := by decide +kernel
theorem dX0_append_87 : decode cX0_append 87 = .ok (.invokevirtual 58, 3) := by decide +kernel
theorem dX0_append_90 : decode cX0_append 90 = .ok (.aload_n 0, 1) := by decide +kernel
theorem dX0_append_91 : decode cX0_append 91 = .ok (.dup, 1) := by decide +kernel
theorem dX0_append_92 : decode cX0_append 92 = .ok (.getfield 9, 3) := by decide +kernel
theorem dX0_append_95 : decode cX0_append 95 = .ok (.iconst 1, 1) := by decide +kernel
theorem dX0_append_96 : decode cX0_append 96 = .ok (.iadd, 1) := by decide +kernel
theorem dX0_append_97 : decode cX0_append 97 = .ok (.putfield 9, 3) := by decide +kernel
theorem dX0_append_100 : decode cX0_append 100 = .ok (.iload 4, 2) := by decide +kernel
theorem dX0_append_102 : decode cX0_append 102 = .ok (.ireturn, 1) := by decide +kernel
set_option maxRecDepth 20000 in
theorem ggX0_latestImplements_X2_holds : GoodIn wsX0_latestImplements wsX2_holds := goodIn_r _ [4] (by decide +kernel) (by decide +kernel)
set_option maxRecDepth 20000 in
theorem gX0_latestImplements_X2_holds_n50 : GoodIn wsX0_latestImplements (wsX2_holds) := ggX0_latestImplements_X2_holds
theorem dX0_latestImplements_0 : decode cX0_latestImplements 0 = .ok (.aload_n 0, 1) := by decide +kernel
theorem dX0_latestImplements_1 : decode cX0_latestImplements 1 = .ok (.getfield 39, 3) := by decide +kernel
theorem dX0_latestImplements_4 : decode cX0_latestImplements 4 = .ok (.iload_n 1, 1) := by decide +kernel
theorem dX0_latestImplements_5 : decode cX0_latestImplements 5 = .ok (.invokestatic 50, 3) := by decide +kernel
theorem dX0_latestImplements_8 : decode cX0_latestImplements 8 = .ok (.ireturn, 1) := by decide +kernel
set_option maxRecDepth 20000 in
theorem ggX0_ownAmount_J13_bitCount_95d88 : GoodIn wsX0_ownAmount wsJ13_bitCount_95d88 := goodIn_r _ [5, 6, 7, 8] (by decide +kernel) (by decide +kernel)
set_option maxRecDepth 20000 in
theorem gX0_ownAmount_J13_bitCount_95d88 : GoodIn wsX0_ownAmount (va_wsS RX0 62 yJ13_bitCount_95d88 wsJ13_bitCount_95d88) := goodIn_app (goodIn_of _ (by decide +kernel)) ggX0_ownAmount_J13_bitCount_95d88
theorem dX0_ownAmount_0 : decode cX0_ownAmount 0 = .ok (.aload_n 0, 1) := by decide +kernel
theorem dX0_ownAmount_1 : decode cX0_ownAmount 1 = .ok (.getfield 39, 3) := by decide +kernel
theorem dX0_ownAmount_4 : decode cX0_ownAmount 4 = .ok (.invokestatic 62, 3) := by decide +kernel
theorem dX0_ownAmount_7 : decode cX0_ownAmount 7 = .ok (.ireturn, 1) := by decide +kernel
set_option maxRecDepth 20000 in
theorem ggX0_giveFace_X0_listFace : GoodIn wsX0_giveFace wsX0_listFace := goodIn_r _ [10, 3, 11, 12, 13, 14, 15, 9, 16, 21, 22, 23, 24, 25, 26, 27, 28, 29, 30] (by decide +kernel) (by decide +kernel)
set_option maxRecDepth 20000 in
theorem gX0_giveFace_X0_listFace : GoodIn wsX0_giveFace (wsV RX0 68 RX0 yX0_listFace wsX0_listFace) := goodIn_app (goodIn_of _ (by decide +kernel)) ggX0_giveFace_X0_listFace
set_option maxRecDepth 20000 in
theorem ggX0_giveFace_X0_listFacesOf : GoodIn wsX0_giveFace wsX0_listFacesOf := goodIn_r _ [20, 3, 13, 14, 15, 9, 16, 12, 11, 6, 7, 8, 10, 21, 22, 23, 24, 25, 26, 27, 28, 29, 30] (by decide +kernel) (by decide +kernel)
set_option maxRecDepth 20000 in
theorem gX0_giveFace_X0_listFacesOf : GoodIn wsX0_giveFace (wsV RX0 58 RX0 yX0_listFacesOf wsX0_listFacesOf) := goodIn_app (goodIn_of _ (by decide +kernel)) ggX0_giveFace_X0_listFacesOf
theorem dX0_giveFace_0 : decode cX0_giveFace 0 = .ok (.aload_n 0, 1) := by decide +kernel
theorem dX0_giveFace_1 : decode cX0_giveFace 1 = .ok (.dup, 1) := by decide +kernel
theorem dX0_giveFace_2 : decode cX0_giveFace 2 = .ok (.getfield 39, 3) := by decide +kernel
theorem dX0_giveFace_5 : decode cX0_giveFace 5 = .ok (.lconst 1, 1) := by decide +kernel
theorem dX0_giveFace_6 : decode cX0_giveFace 6 = .ok (.iload_n 2, 1) := by decide +kernel
theorem dX0_giveFace_7 : decode cX0_giveFace 7 = .ok (.lshl, 1) := by decide +kernel
theorem dX0_giveFace_8 : decode cX0_giveFace 8 = .ok (.lor, 1) := by decide +kernel
theorem dX0_giveFace_9 : decode cX0_giveFace 9 = .ok (.putfield 39, 3) := by decide +kernel
theorem dX0_giveFace_12 : decode cX0_giveFace 12 = .ok (.aload_n 0, 1) := by decide +kernel
theorem dX0_giveFace_13 : decode cX0_giveFace 13 = .ok (.getfield 26, 3) := by decide +kernel
theorem dX0_giveFace_16 : decode cX0_giveFace 16 = .ok (.iload_n 1, 1) := by decide +kernel
theorem dX0_giveFace_17 : decode cX0_giveFace 17 = .ok (.dup2, 1) := by decide +kernel
theorem dX0_giveFace_18 : decode cX0_giveFace 18 = .ok (.laload, 1) := by decide +kernel
theorem dX0_giveFace_19 : decode cX0_giveFace 19 = .ok (.aload_n 0, 1) := by decide +kernel
theorem dX0_giveFace_20 : decode cX0_giveFace 20 = .ok (.getfield 26, 3) := by decide +kernel
theorem dX0_giveFace_23 : decode cX0_giveFace 23 = .ok (.iload_n 2, 1) := by decide +kernel
theorem dX0_giveFace_24 : decode cX0_giveFace 24 = .ok (.laload, 1) := by decide +kernel
theorem dX0_giveFace_25 : decode cX0_giveFace 25 = .ok (.lconst 1, 1) := by decide +kernel
theorem dX0_giveFace_26 : decode cX0_giveFace 26 = .ok (.iload_n 2, 1) := by decide +kernel
theorem dX0_giveFace_27 : decode cX0_giveFace 27 = .ok (.lshl, 1) := by decide +kernel
theorem dX0_giveFace_28 : decode cX0_giveFace 28 = .ok (.lor, 1) := by decide +kernel
theorem dX0_giveFace_29 : decode cX0_giveFace 29 = .ok (.lor, 1) := by decide +kernel
theorem dX0_giveFace_30 : decode cX0_giveFace 30 = .ok (.lastore, 1) := by decide +kernel
theorem dX0_giveFace_31 : decode cX0_giveFace 31 = .ok (.aload_n 0, 1) := by decide +kernel
theorem dX0_giveFace_32 : decode cX0_giveFace 32 = .ok (.getfield 30, 3) := by decide +kernel
theorem dX0_giveFace_35 : decode cX0_giveFace 35 = .ok (.iload_n 1, 1) := by decide +kernel
theorem dX0_giveFace_36 : decode cX0_giveFace 36 = .ok (.aload_n 0, 1) := by decide +kernel
theorem dX0_giveFace_37 : decode cX0_giveFace 37 = .ok (.getfield 43, 3) := by decide +kernel
theorem dX0_giveFace_40 : decode cX0_giveFace 40 = .ok (.iastore, 1) := by decide +kernel
theorem dX0_giveFace_41 : decode cX0_giveFace 41 = .ok (.aload_n 0, 1) := by decide +kernel
theorem dX0_giveFace_42 : decode cX0_giveFace 42 = .ok (.iload_n 1, 1) := by decide +kernel
theorem dX0_giveFace_43 : decode cX0_giveFace 43 = .ok (.iload_n 2, 1) := by decide +kernel
theorem dX0_giveFace_44 : decode cX0_giveFace 44 = .ok (.invokevirtual 68, 3) := by decide +kernel
theorem dX0_giveFace_47 : decode cX0_giveFace 47 = .ok (.aload_n 0, 1) := by decide +kernel
theorem dX0_giveFace_48 : decode cX0_giveFace 48 = .ok (.iload_n 1, 1) := by decide +kernel
theorem dX0_giveFace_49 : decode cX0_giveFace 49 = .ok (.iload_n 2, 1) := by decide +kernel
theorem dX0_giveFace_50 : decode cX0_giveFace 50 = .ok (.invokevirtual 58, 3) := by decide +kernel
theorem dX0_giveFace_53 : decode cX0_giveFace 53 = .ok (.aload_n 0, 1) := by decide +kernel
theorem dX0_giveFace_54 : decode cX0_giveFace 54 = .ok (.aload_n 0, 1) := by decide +kernel
theorem dX0_giveFace_55 : decode cX0_giveFace 55 = .ok (.getfield 30, 3) := by decide +kernel
theorem dX0_giveFace_58 : decode cX0_giveFace 58 = .ok (.iload_n 1, 1) := by decide +kernel
theorem dX0_giveFace_59 : decode cX0_giveFace 59 = .ok (.iaload, 1) := by decide +kernel
theorem dX0_giveFace_60 : decode cX0_giveFace 60 = .ok (.putfield 43, 3) := by decide +kernel
theorem dX0_giveFace_63 : decode cX0_giveFace 63 = .ok (.aload_n 0, 1) := by decide +kernel
theorem dX0_giveFace_64 : decode cX0_giveFace 64 = .ok (.iload_n 1, 1) := by decide +kernel
theorem dX0_giveFace_65 : decode cX0_giveFace 65 = .ok (.aload_n 0, 1) := by decide +kernel
theorem dX0_giveFace_66 : decode cX0_giveFace 66 = .ok (.getfield 15, 3) := by decide +kernel
theorem dX0_giveFace_69 : decode cX0_giveFace 69 = .ok (.iload_n 1, 1) := by decide +kernel
theorem dX0_giveFace_70 : decode cX0_giveFace 70 = .ok (.iaload, 1) := by decide +kernel
theorem dX0_giveFace_71 : decode cX0_giveFace 71 = .ok (.invokevirtual 58, 3) := by decide +kernel
theorem dX0_giveFace_74 : decode cX0_giveFace 74 = .ok (.return_, 1) := by decide +kernel
set_option maxRecDepth 20000 in
theorem ggX0_listFacesOf_X0_faceAt : GoodIn wsX0_listFacesOf wsX0_faceAt := goodIn_r _ [6, 7, 8, 13, 14, 15, 16, 17, 18, 19, 20, 21, 22] (by decide +kernel) (by decide +kernel)
set_option maxRecDepth 20000 in
theorem gX0_listFacesOf_X0_faceAt : GoodIn wsX0_listFacesOf (wsV RX0 71 RX0 yX0_faceAt wsX0_faceAt) := goodIn_app (goodIn_of _ (by decide +kernel)) ggX0_listFacesOf_X0_faceAt
set_option maxRecDepth 20000 in
theorem ggX0_listFacesOf_X0_listFace : GoodIn wsX0_listFacesOf wsX0_listFace := goodIn_r _ [12, 1, 8, 7, 2, 3, 4, 5, 6, 13, 14, 15, 16, 17, 18, 19, 20, 21, 22] (by decide +kernel) (by decide +kernel)
set_option maxRecDepth 20000 in
theorem gX0_listFacesOf_X0_listFace : GoodIn wsX0_listFacesOf (wsV RX0 68 RX0 yX0_listFace wsX0_listFace) := goodIn_app (goodIn_of _ (by decide +kernel)) ggX0_listFacesOf_X0_listFace
theorem dX0_listFacesOf_0 : decode cX0_listFacesOf 0 = .ok (.aload_n 0, 1) := by decide +kernel
theorem dX0_listFacesOf_1 : decode cX0_listFacesOf 1 = .ok (.getfield 30, 3) := by decide +kernel
theorem dX0_listFacesOf_4 : decode cX0_listFacesOf 4 = .ok (.iload_n 2, 1) := by decide +kernel
theorem dX0_listFacesOf_5 : decode cX0_listFacesOf 5 = .ok (.iaload, 1) := by decide +kernel
theorem dX0_listFacesOf_6 : decode cX0_listFacesOf 6 = .ok (.istore_n 3, 1) := by decide +kernel
theorem dX0_listFacesOf_7 : decode cX0_listFacesOf 7 = .ok (.iconst 0, 1) := by decide +kernel
theorem dX0_listFacesOf_8 : decode cX0_listFacesOf 8 = .ok (.istore 4, 2) := by decide +kernel
theorem dX0_listFacesOf_10 : decode cX0_listFacesOf 10 = .ok (.iload 4, 2) := by decide +kernel
theorem dX0_listFacesOf_12 : decode cX0_listFacesOf 12 = .ok (.iload_n 3, 1) := by decide +kernel
theorem dX0_listFacesOf_13 : decode cX0_listFacesOf 13 = .ok (.if_icmp .ge 21, 3) := by decide +kernel
theorem dX0_listFacesOf_16 : decode cX0_listFacesOf 16 = .ok (.aload_n 0, 1) := by decide +kernel
theorem dX0_listFacesOf_17 : decode cX0_listFacesOf 17 = .ok (.iload_n 1, 1) := by decide +kernel
theorem dX0_listFacesOf_18 : decode cX0_listFacesOf 18 = .ok (.aload_n 0, 1) := by decide +kernel
theorem dX0_listFacesOf_19 : decode cX0_listFacesOf 19 = .ok (.iload_n 2, 1) := by decide +kernel
theorem dX0_listFacesOf_20 : decode cX0_listFacesOf 20 = .ok (.iload 4, 2) := by decide +kernel
theorem dX0_listFacesOf_22 : decode cX0_listFacesOf 22 = .ok (.invokevirtual 71, 3) := by decide +kernel
theorem dX0_listFacesOf_25 : decode cX0_listFacesOf 25 = .ok (.invokevirtual 68, 3) := by decide +kernel
theorem dX0_listFacesOf_28 : decode cX0_listFacesOf 28 = .ok (.iinc 4 1, 3) := by decide +kernel
theorem dX0_listFacesOf_31 : decode cX0_listFacesOf 31 = .ok (.goto (-21), 3) := by decide +kernel
theorem dX0_listFacesOf_34 : decode cX0_listFacesOf 34 = .ok (.return_, 1) := by decide +kernel
set_option maxRecDepth 20000 in
theorem ggX0_listFace_X0_faceAt : GoodIn wsX0_listFace wsX0_faceAt := goodIn_r _ [8, 3, 2, 9, 10, 11, 12, 13, 14, 15, 16, 17, 18] (by decide +kernel) (by decide +kernel)
set_option maxRecDepth 20000 in
theorem gX0_listFace_X0_faceAt : GoodIn wsX0_listFace (wsV RX0 71 RX0 yX0_faceAt wsX0_faceAt) := goodIn_app (goodIn_of _ (by decide +kernel)) ggX0_listFace_X0_faceAt
theorem dX0_listFace_0 : decode cX0_listFace 0 = .ok (.iconst 0, 1) := by decide +kernel
theorem dX0_listFace_1 : decode cX0_listFace 1 = .ok (.istore_n 3, 1) := by decide +kernel
theorem dX0_listFace_2 : decode cX0_listFace 2 = .ok (.iload_n 3, 1) := by decide +kernel
theorem dX0_listFace_3 : decode cX0_listFace 3 = .ok (.aload_n 0, 1) := by decide +kernel
theorem dX0_listFace_4 : decode cX0_listFace 4 = .ok (.getfield 30, 3) := by decide +kernel
theorem dX0_listFace_7 : decode cX0_listFace 7 = .ok (.iload_n 1, 1) := by decide +kernel
theorem dX0_listFace_8 : decode cX0_listFace 8 = .ok (.iaload, 1) := by decide +kernel
theorem dX0_listFace_9 : decode cX0_listFace 9 = .ok (.if_icmp .ge 20, 3) := by decide +kernel
theorem dX0_listFace_12 : decode cX0_listFace 12 = .ok (.aload_n 0, 1) := by decide +kernel
theorem dX0_listFace_13 : decode cX0_listFace 13 = .ok (.iload_n 1, 1) := by decide +kernel
theorem dX0_listFace_14 : decode cX0_listFace 14 = .ok (.iload_n 3, 1) := by decide +kernel
theorem dX0_listFace_15 : decode cX0_listFace 15 = .ok (.invokevirtual 71, 3) := by decide +kernel
theorem dX0_listFace_18 : decode cX0_listFace 18 = .ok (.iload_n 2, 1) := by decide +kernel
theorem dX0_listFace_19 : decode cX0_listFace 19 = .ok (.if_icmp .ne 4, 3) := by decide +kernel
theorem dX0_listFace_22 : decode cX0_listFace 22 = .ok (.return_, 1) := by decide +kernel
theorem dX0_listFace_23 : decode cX0_listFace 23 = .ok (.iinc 3 1, 3) := by decide +kernel
theorem dX0_listFace_26 : decode cX0_listFace 26 = .ok (.goto (-24), 3) := by decide +kernel
theorem dX0_listFace_29 : decode cX0_listFace 29 = .ok (.aload_n 0, 1) := by decide +kernel
theorem dX0_listFace_30 : decode cX0_listFace 30 = .ok (.getfield 33, 3) := by decide +kernel
theorem dX0_listFace_33 : decode cX0_listFace 33 = .ok (.iload_n 1, 1) := by decide +kernel
theorem dX0_listFace_34 : decode cX0_listFace 34 = .ok (.iaload, 1) := by decide +kernel
theorem dX0_listFace_35 : decode cX0_listFace 35 = .ok (.aload_n 0, 1) := by decide +kernel
theorem dX0_listFace_36 : decode cX0_listFace 36 = .ok (.getfield 30, 3) := by decide +kernel
theorem dX0_listFace_39 : decode cX0_listFace 39 = .ok (.iload_n 1, 1) := by decide +kernel
theorem dX0_listFace_40 : decode cX0_listFace 40 = .ok (.iaload, 1) := by decide +kernel
theorem dX0_listFace_41 : decode cX0_listFace 41 = .ok (.iadd, 1) := by decide +kernel
theorem dX0_listFace_42 : decode cX0_listFace 42 = .ok (.istore_n 3, 1) := by decide +kernel
theorem dX0_listFace_43 : decode cX0_listFace 43 = .ok (.iload_n 3, 1) := by decide +kernel
theorem dX0_listFace_44 : decode cX0_listFace 44 = .ok (.aload_n 0, 1) := by decide +kernel
theorem dX0_listFace_45 : decode cX0_listFace 45 = .ok (.getfield 36, 3) := by decide +kernel
theorem dX0_listFace_48 : decode cX0_listFace 48 = .ok (.arraylength, 1) := by decide +kernel
theorem dX0_listFace_49 : decode cX0_listFace 49 = .ok (.if_icmp .ge 20, 3) := by decide +kernel
theorem dX0_listFace_52 : decode cX0_listFace 52 = .ok (.aload_n 0, 1) := by decide +kernel
theorem dX0_listFace_53 : decode cX0_listFace 53 = .ok (.getfield 36, 3) := by decide +kernel
theorem dX0_listFace_56 : decode cX0_listFace 56 = .ok (.iload_n 3, 1) := by decide +kernel
theorem dX0_listFace_57 : decode cX0_listFace 57 = .ok (.iload_n 2, 1) := by decide +kernel
theorem dX0_listFace_58 : decode cX0_listFace 58 = .ok (.iastore, 1) := by decide +kernel
theorem dX0_listFace_59 : decode cX0_listFace 59 = .ok (.aload_n 0, 1) := by decide +kernel
theorem dX0_listFace_60 : decode cX0_listFace 60 = .ok (.getfield 30, 3) := by decide +kernel
theorem dX0_listFace_63 : decode cX0_listFace 63 = .ok (.iload_n 1, 1) := by decide +kernel
theorem dX0_listFace_64 : decode cX0_listFace 64 = .ok (.dup2, 1) := by decide +kernel
theorem dX0_listFace_65 : decode cX0_listFace 65 = .ok (.iaload, 1) := by decide +kernel
theorem dX0_listFace_66 : decode cX0_listFace 66 = .ok (.iconst 1, 1) := by decide +kernel
theorem dX0_listFace_67 : decode cX0_listFace 67 = .ok (.iadd, 1) := by decide +kernel
theorem dX0_listFace_68 : decode cX0_listFace 68 = .ok (.iastore, 1) := by decide +kernel
theorem dX0_listFace_69 : decode cX0_listFace 69 = .ok (.return_, 1) := by decide +kernel
theorem dX1_init_0 : decode cX1_init 0 = .ok (.aload_n 0, 1) := by decide +kernel
theorem dX1_init_1 : decode cX1_init 1 = .ok (.invokespecial 3, 3) := by decide +kernel
theorem dX1_init_4 : decode cX1_init 4 = .ok (.aload_n 0, 1) := by decide +kernel
theorem dX1_init_5 : decode cX1_init 5 = .ok (.iconst 0, 1) := by decide +kernel
theorem dX1_init_6 : decode cX1_init 6 = .ok (.putfield 9, 3) := by decide +kernel
theorem dX1_init_9 : decode cX1_init 9 = .ok (.aload_n 0, 1) := by decide +kernel
theorem dX1_init_10 : decode cX1_init 10 = .ok (.sipush 400, 3) := by decide +kernel
theorem dX1_init_13 : decode cX1_init 13 = .ok (.newarray .int, 2) := by decide +kernel
theorem dX1_init_15 : decode cX1_init 15 = .ok (.putfield 15, 3) := by decide +kernel
theorem dX1_init_18 : decode cX1_init 18 = .ok (.aload_n 0, 1) := by decide +kernel
theorem dX1_init_19 : decode cX1_init 19 = .ok (.sipush 400, 3) := by decide +kernel
theorem dX1_init_22 : decode cX1_init 22 = .ok (.newarray .int, 2) := by decide +kernel
theorem dX1_init_24 : decode cX1_init 24 = .ok (.putfield 19, 3) := by decide +kernel
theorem dX1_init_27 : decode cX1_init 27 = .ok (.aload_n 0, 1) := by decide +kernel
theorem dX1_init_28 : decode cX1_init 28 = .ok (.bipush 60, 2) := by decide +kernel
theorem dX1_init_30 : decode cX1_init 30 = .ok (.newarray .int, 2) := by decide +kernel
theorem dX1_init_32 : decode cX1_init 32 = .ok (.putfield 22, 3) := by decide +kernel
theorem dX1_init_35 : decode cX1_init 35 = .ok (.aload_n 0, 1) := by decide +kernel
theorem dX1_init_36 : decode cX1_init 36 = .ok (.bipush 60, 2) := by decide +kernel
theorem dX1_init_38 : decode cX1_init 38 = .ok (.newarray .int, 2) := by decide +kernel
theorem dX1_init_40 : decode cX1_init 40 = .ok (.putfield 25, 3) := by decide +kernel
theorem dX1_init_43 : decode cX1_init 43 = .ok (.aload_n 0, 1) := by decide +kernel
theorem dX1_init_44 : decode cX1_init 44 = .ok (.sipush 400, 3) := by decide +kernel
theorem dX1_init_47 : decode cX1_init 47 = .ok (.newarray .int, 2) := by decide +kernel
theorem dX1_init_49 : decode cX1_init 49 = .ok (.putfield 28, 3) := by decide +kernel
theorem dX1_init_52 : decode cX1_init 52 = .ok (.aload_n 0, 1) := by decide +kernel
theorem dX1_init_53 : decode cX1_init 53 = .ok (.sipush 400, 3) := by decide +kernel
theorem dX1_init_56 : decode cX1_init 56 = .ok (.newarray .int, 2) := by decide +kernel
theorem dX1_init_58 : decode cX1_init 58 = .ok (.putfield 31, 3) := by decide +kernel
theorem dX1_init_61 : decode cX1_init 61 = .ok (.return_, 1) := by decide +kernel
theorem dX1_exists_0 : decode cX1_exists 0 = .ok (.iload_n 1, 1) := by decide +kernel
theorem dX1_exists_1 : decode cX1_exists 1 = .ok (.ifCond .lt 15, 3) := by decide +kernel
theorem dX1_exists_4 : decode cX1_exists 4 = .ok (.iload_n 1, 1) := by decide +kernel
theorem dX1_exists_5 : decode cX1_exists 5 = .ok (.aload_n 0, 1) := by decide +kernel
theorem dX1_exists_6 : decode cX1_exists 6 = .ok (.getfield 9, 3) := by decide +kernel
theorem dX1_exists_9 : decode cX1_exists 9 = .ok (.if_icmp .ge 7, 3) := by decide +kernel
theorem dX1_exists_12 : decode cX1_exists 12 = .ok (.iconst 1, 1) := by decide +kernel
theorem dX1_exists_13 : decode cX1_exists 13 = .ok (.goto 4, 3) := by decide +kernel
theorem dX1_exists_16 : decode cX1_exists 16 = .ok (.iconst 0, 1) := by decide +kernel
theorem dX1_exists_17 : decode cX1_exists 17 = .ok (.ireturn, 1) := by decide +kernel
theorem dX1_isStatic_0 : decode cX1_isStatic 0 = .ok (.aload_n 0, 1) := by decide +kernel
theorem dX1_isStatic_1 : decode cX1_isStatic 1 = .ok (.getfield 31, 3) := by decide +kernel
theorem dX1_isStatic_4 : decode cX1_isStatic 4 = .ok (.iload_n 1, 1) := by decide +kernel
theorem dX1_isStatic_5 : decode cX1_isStatic 5 = .ok (.iaload, 1) := by decide +kernel
theorem dX1_isStatic_6 : decode cX1_isStatic 6 = .ok (.iconst 1, 1) := by decide +kernel
theorem dX1_isStatic_7 : decode cX1_isStatic 7 = .ok (.iand, 1) := by decide +kernel
theorem dX1_isStatic_8 : decode cX1_isStatic 8 = .ok (.ifCond .eq 7, 3) := by decide +kernel
theorem dX1_isStatic_11 : decode cX1_isStatic 11 = .ok (.iconst 1, 1) := by decide +kernel
theorem dX1_isStatic_12 : decode cX1_isStatic 12 = .ok (.goto 4, 3) := by decide +kernel
theorem dX1_isStatic_15 : decode cX1_isStatic 15 = .ok (.iconst 0, 1) := by decide +kernel
theorem dX1_isStatic_16 : decode cX1_isStatic 16 = .ok (.ireturn, 1) := by decide +kernel
theorem dX1_isFinal_0 : decode cX1_isFinal 0 = .ok (.aload_n 0, 1) := by decide +kernel
theorem dX1_isFinal_1 : decode cX1_isFinal 1 = .ok (.getfield 31, 3) := by decide +kernel
theorem dX1_isFinal_4 : decode cX1_isFinal 4 = .ok (.iload_n 1, 1) := by decide +kernel
theorem dX1_isFinal_5 : decode cX1_isFinal 5 = .ok (.iaload, 1) := by decide +kernel
theorem dX1_isFinal_6 : decode cX1_isFinal 6 = .ok (.iconst 2, 1) := by decide +kernel
theorem dX1_isFinal_7 : decode cX1_isFinal 7 = .ok (.iand, 1) := by decide +kernel
theorem dX1_isFinal_8 : decode cX1_isFinal 8 = .ok (.ifCond .eq 7, 3) := by decide +kernel
theorem dX1_isFinal_11 : decode cX1_isFinal 11 = .ok (.iconst 1, 1) := by decide +kernel
theorem dX1_isFinal_12 : decode cX1_isFinal 12 = .ok (.goto 4, 3) := by decide +kernel
theorem dX1_isFinal_15 : decode cX1_isFinal 15 = .ok (.iconst 0, 1) := by decide +kernel
theorem dX1_isFinal_16 : decode cX1_isFinal 16 = .ok (.ireturn, 1) := by decide +kernel
theorem dX1_isAbstract_0 : decode cX1_isAbstract 0 = .ok (.aload_n 0, 1) := by decide +kernel
theorem dX1_isAbstract_1 : decode cX1_isAbstract 1 = .ok (.getfield 31, 3) := by decide +kernel
theorem dX1_isAbstract_4 : decode cX1_isAbstract 4 = .ok (.iload_n 1, 1) := by decide +kernel
theorem dX1_isAbstract_5 : decode cX1_isAbstract 5 = .ok (.iaload, 1) := by decide +kernel
theorem dX1_isAbstract_6 : decode cX1_isAbstract 6 = .ok (.iconst 4, 1) := by decide +kernel
theorem dX1_isAbstract_7 : decode cX1_isAbstract 7 = .ok (.iand, 1) := by decide +kernel
theorem dX1_isAbstract_8 : decode cX1_isAbstract 8 = .ok (.ifCond .eq 7, 3) := by decide +kernel
theorem dX1_isAbstract_11 : decode cX1_isAbstract 11 = .ok (.iconst 1, 1) := by decide +kernel
theorem dX1_isAbstract_12 : decode cX1_isAbstract 12 = .ok (.goto 4, 3) := by decide +kernel
theorem dX1_isAbstract_15 : decode cX1_isAbstract 15 = .ok (.iconst 0, 1) := by decide +kernel
theorem dX1_isAbstract_16 : decode cX1_isAbstract 16 = .ok (.ireturn, 1) := by decide +kernel
theorem dX1_isPrivate_0 : decode cX1_isPrivate 0 = .ok (.aload_n 0, 1) := by decide +kernel
theorem dX1_isPrivate_1 : decode cX1_isPrivate 1 = .ok (.getfield 28, 3) := by decide +kernel
theorem dX1_isPrivate_4 : decode cX1_isPrivate 4 = .ok (.iload_n 1, 1) := by decide +kernel
theorem dX1_isPrivate_5 : decode cX1_isPrivate 5 = .ok (.iaload, 1) := by decide +kernel
theorem dX1_isPrivate_6 : decode cX1_isPrivate 6 = .ok (.iconst 3, 1) := by decide +kernel
theorem dX1_isPrivate_7 : decode cX1_isPrivate 7 = .ok (.if_icmp .ne 7, 3) := by decide +kernel
theorem dX1_isPrivate_10 : decode cX1_isPrivate 10 = .ok (.iconst 1, 1) := by decide +kernel
theorem dX1_isPrivate_11 : decode cX1_isPrivate 11 = .ok (.goto 4, 3) := by decide +kernel
theorem dX1_isPrivate_14 : decode cX1_isPrivate 14 = .ok (.iconst 0, 1) := by decide +kernel
theorem dX1_isPrivate_15 : decode cX1_isPrivate 15 = .ok (.ireturn, 1) := by decide +kernel
set_option maxRecDepth 20000 in
theorem ggX1_isVirtual_X1_isStatic : GoodIn wsX1_isVirtual wsX1_isStatic := goodIn_r _ [5, 6, 12, 13, 14, 15, 16, 17, 18] (by decide +kernel) (by decide +kernel)
set_option maxRecDepth 20000 in
theorem gX1_isVirtual_X1_isStatic : GoodIn wsX1_isVirtual (wsV RX1 34 RX1 yX1_isStatic wsX1_isStatic) := goodIn_app (goodIn_of _ (by decide +kernel)) ggX1_isVirtual_X1_isStatic
set_option maxRecDepth 20000 in
theorem ggX1_isVirtual_X1_isPrivate : GoodIn wsX1_isVirtual wsX1_isPrivate := goodIn_r _ [10, 11, 12, 13, 14, 15, 16, 17, 18] (by decide +kernel) (by decide +kernel)
set_option maxRecDepth 20000 in
theorem gX1_isVirtual_X1_isPrivate : GoodIn wsX1_isVirtual (wsV RX1 38 RX1 yX1_isPrivate wsX1_isPrivate) := goodIn_app (goodIn_of _ (by decide +kernel)) ggX1_isVirtual_X1_isPrivate
theorem dX1_isVirtual_0 : decode cX1_isVirtual 0 = .ok (.aload_n 0, 1) := by decide +kernel
theorem dX1_isVirtual_1 : decode cX1_isVirtual 1 = .ok (.iload_n 1, 1) := by decide +kernel
theorem dX1_isVirtual_2 : decode cX1_isVirtual 2 = .ok (.invokevirtual 34, 3) := by decide +kernel
theorem dX1_isVirtual_5 : decode cX1_isVirtual 5 = .ok (.ifCond .ne 15, 3) := by decide +kernel
theorem dX1_isVirtual_8 : decode cX1_isVirtual 8 = .ok (.aload_n 0, 1) := by decide +kernel
theorem dX1_isVirtual_9 : decode cX1_isVirtual 9 = .ok (.iload_n 1, 1) := by decide +kernel
theorem dX1_isVirtual_10 : decode cX1_isVirtual 10 = .ok (.invokevirtual 38, 3) := by decide +kernel
theorem dX1_isVirtual_13 : decode cX1_isVirtual 13 = .ok (.ifCond .ne 7, 3) := by decide +kernel
theorem dX1_isVirtual_16 : decode cX1_isVirtual 16 = .ok (.iconst 1, 1) := by decide +kernel
theorem dX1_isVirtual_17 : decode cX1_isVirtual 17 = .ok (.goto 4, 3) := by decide +kernel
theorem dX1_isVirtual_20 : decode cX1_isVirtual 20 = .ok (.iconst 0, 1) := by decide +kernel
theorem dX1_isVirtual_21 : decode cX1_isVirtual 21 = .ok (.ireturn, 1) := by decide +kernel
theorem dX1_isPublicOrProtected_0 : decode cX1_isPublicOrProtected 0 = .ok (.aload_n 0, 1) := by decide +kernel
theorem dX1_isPublicOrProtected_1 : decode cX1_isPublicOrProtected 1 = .ok (.getfield 28, 3) := by decide +kernel
theorem dX1_isPublicOrProtected_4 : decode cX1_isPublicOrProtected 4 = .ok (.iload_n 1, 1) := by decide +kernel
theorem dX1_isPublicOrProtected_5 : decode cX1_isPublicOrProtected 5 = .ok (.iaload, 1) := by decide +kernel
theorem dX1_isPublicOrProtected_6 : decode cX1_isPublicOrProtected 6 = .ok (.iconst 1, 1) := by decide +kernel
theorem dX1_isPublicOrProtected_7 : decode cX1_isPublicOrProtected 7 = .ok (.if_icmp .eq 13, 3) := by decide +kernel
theorem dX1_isPublicOrProtected_10 : decode cX1_isPublicOrProtected 10 = .ok (.aload_n 0, 1) := by decide +kernel
theorem dX1_isPublicOrProtected_11 : decode cX1_isPublicOrProtected 11 = .ok (.getfield 28, 3) := by decide +kernel
theorem dX1_isPublicOrProtected_14 : decode cX1_isPublicOrProtected 14 = .ok (.iload_n 1, 1) := by decide +kernel
theorem dX1_isPublicOrProtected_15 : decode cX1_isPublicOrProtected 15 = .ok (.iaload, 1) := by decide +kernel
theorem dX1_isPublicOrProtected_16 : decode cX1_isPublicOrProtected 16 = .ok (.iconst 2, 1) := by decide +kernel
theorem dX1_isPublicOrProtected_17 : decode cX1_isPublicOrProtected 17 = .ok (.if_icmp .ne 7, 3) := by decide +kernel
theorem dX1_isPublicOrProtected_20 : decode cX1_isPublicOrProtected 20 = .ok (.iconst 1, 1) := by decide +kernel
theorem dX1_isPublicOrProtected_21 : decode cX1_isPublicOrProtected 21 = .ok (.goto 4, 3) := by decide +kernel
theorem dX1_isPublicOrProtected_24 : decode cX1_isPublicOrProtected 24 = .ok (.iconst 0, 1) := by decide +kernel
theorem dX1_isPublicOrProtected_25 : decode cX1_isPublicOrProtected 25 = .ok (.ireturn, 1) := by decide +kernel
theorem dX1_inClass_0 : decode cX1_inClass 0 = .ok (.aload_n 0, 1) := by decide +kernel
theorem dX1_inClass_1 : decode cX1_inClass 1 = .ok (.getfield 22, 3) := by decide +kernel
theorem dX1_inClass_4 : decode cX1_inClass 4 = .ok (.iload_n 1, 1) := by decide +kernel
theorem dX1_inClass_5 : decode cX1_inClass 5 = .ok (.iaload, 1) := by decide +kernel
theorem dX1_inClass_6 : decode cX1_inClass 6 = .ok (.aload_n 0, 1) := by decide +kernel
theorem dX1_inClass_7 : decode cX1_inClass 7 = .ok (.getfield 25, 3) := by decide +kernel
theorem dX1_inClass_10 : decode cX1_inClass 10 = .ok (.iload_n 1, 1) := by decide +kernel
theorem dX1_inClass_11 : decode cX1_inClass 11 = .ok (.iaload, 1) := by decide +kernel
theorem dX1_inClass_12 : decode cX1_inClass 12 = .ok (.iadd, 1) := by decide +kernel
theorem dX1_inClass_13 : decode cX1_inClass 13 = .ok (.istore_n 3, 1) := by decide +kernel
theorem dX1_inClass_14 : decode cX1_inClass 14 = .ok (.aload_n 0, 1) := by decide +kernel
theorem dX1_inClass_15 : decode cX1_inClass 15 = .ok (.getfield 22, 3) := by decide +kernel
theorem dX1_inClass_18 : decode cX1_inClass 18 = .ok (.iload_n 1, 1) := by decide +kernel
theorem dX1_inClass_19 : decode cX1_inClass 19 = .ok (.iaload, 1) := by decide +kernel
theorem dX1_inClass_20 : decode cX1_inClass 20 = .ok (.istore 4, 2) := by decide +kernel
theorem dX1_inClass_22 : decode cX1_inClass 22 = .ok (.iload 4, 2) := by decide +kernel
theorem dX1_inClass_24 : decode cX1_inClass 24 = .ok (.iload_n 3, 1) := by decide +kernel
theorem dX1_inClass_25 : decode cX1_inClass 25 = .ok (.if_icmp .ge 23, 3) := by decide +kernel
theorem dX1_inClass_28 : decode cX1_inClass 28 = .ok (.aload_n 0, 1) := by decide +kernel
theorem dX1_inClass_29 : decode cX1_inClass 29 = .ok (.getfield 19, 3) := by decide +kernel
theorem dX1_inClass_32 : decode cX1_inClass 32 = .ok (.iload 4, 2) := by decide +kernel
theorem dX1_inClass_34 : decode cX1_inClass 34 = .ok (.iaload, 1) := by decide +kernel
theorem dX1_inClass_35 : decode cX1_inClass 35 = .ok (.iload_n 2, 1) := by decide +kernel
theorem dX1_inClass_36 : decode cX1_inClass 36 = .ok (.if_icmp .ne 6, 3) := by decide +kernel
theorem dX1_inClass_39 : decode cX1_inClass 39 = .ok (.iload 4, 2) := by decide +kernel
theorem dX1_inClass_41 : decode cX1_inClass 41 = .ok (.ireturn, 1) := by decide +kernel
theorem dX1_inClass_42 : decode cX1_inClass 42 = .ok (.iinc 4 1, 3) := by decide +kernel
theorem dX1_inClass_45 : decode cX1_inClass 45 = .ok (.goto (-23), 3) := by decide +kernel
theorem dX1_inClass_48 : decode cX1_inClass 48 = .ok (.iconst (-1), 1) := by decide +kernel
theorem dX1_inClass_49 : decode cX1_inClass 49 = .ok (.ireturn, 1) := by decide +kernel
theorem dX1_append_0 : decode cX1_append 0 = .ok (.aload_n 0, 1) := by decide +kernel
theorem dX1_append_1 : decode cX1_append 1 = .ok (.getfield 9, 3) := by decide +kernel
theorem dX1_append_4 : decode cX1_append 4 = .ok (.istore 5, 2) := by decide +kernel
theorem dX1_append_6 : decode cX1_append 6 = .ok (.aload_n 0, 1) := by decide +kernel
theorem dX1_append_7 : decode cX1_append 7 = .ok (.getfield 25, 3) := by decide +kernel
theorem dX1_append_10 : decode cX1_append 10 = .ok (.iload_n 1, 1) := by decide +kernel
theorem dX1_append_11 : decode cX1_append 11 = .ok (.iaload, 1) := by decide +kernel
theorem dX1_append_12 : decode cX1_append 12 = .ok (.ifCond .ne 11, 3) := by decide +kernel
theorem dX1_append_15 : decode cX1_append 15 = .ok (.aload_n 0, 1) := by decide +kernel
theorem dX1_append_16 : decode cX1_append 16 = .ok (.getfield 22, 3) := by decide +kernel
theorem dX1_append_19 : decode cX1_append 19 = .ok (.iload_n 1, 1) := by decide +kernel
theorem dX1_append_20 : decode cX1_append 20 = .ok (.iload 5, 2) := by decide +kernel
theorem dX1_append_22 : decode cX1_append 22 = .ok (.iastore, 1) := by decide +kernel
theorem dX1_append_23 : decode cX1_append 23 = .ok (.aload_n 0, 1) := by decide +kernel
theorem dX1_append_24 : decode cX1_append 24 = .ok (.getfield 25, 3) := by decide +kernel
theorem dX1_append_27 : decode cX1_append 27 = .ok (.iload_n 1, 1) := by decide +kernel
theorem dX1_append_28 : decode cX1_append 28 = .ok (.dup2, 1) := by decide +kernel
theorem dX1_append_29 : decode cX1_append 29 = .ok (.iaload, 1) := by decide +kernel
theorem dX1_append_30 : decode cX1_append 30 = .ok (.iconst 1, 1) := by decide +kernel
theorem dX1_append_31 : decode cX1_append 31 = .ok (.iadd, 1) := by decide +kernel
theorem dX1_append_32 : decode cX1_append 32 = .ok (.iastore, 1) := by decide +kernel
theorem dX1_append_33 : decode cX1_append 33 = .ok (.aload_n 0, 1) := by decide +kernel
theorem dX1_append_34 : decode cX1_append 34 = .ok (.getfield 15, 3) := by decide +kernel
theorem dX1_append_37 : decode cX1_append 37 = .ok (.iload 5, 2) := by decide +kernel
theorem dX1_append_39 : decode cX1_append 39 = .ok (.iload_n 1, 1) := by decide +kernel
theorem dX1_append_40 : decode cX1_append 40 = .ok (.iastore, 1) := by decide +kernel
theorem dX1_append_41 : decode cX1_append 41 = .ok (.aload_n 0, 1) := by decide +kernel
theorem dX1_append_42 : decode cX1_append 42 = .ok (.getfield 19, 3) := by decide +kernel
theorem dX1_append_45 : decode cX1_append 45 = .ok (.iload 5, 2) := by decide +kernel
theorem dX1_append_47 : decode cX1_append 47 = .ok (.iload_n 2, 1) := by decide +kernel
theorem dX1_append_48 : decode cX1_append 48 = .ok (.iastore, 1) := by decide +kernel
theorem dX1_append_49 : decode cX1_append 49 = .ok (.aload_n 0, 1) := by decide +kernel
theorem dX1_append_50 : decode cX1_append 50 = .ok (.getfield 28, 3) := by decide +kernel
theorem dX1_append_53 : decode cX1_append 53 = .ok (.iload 5, 2) := by decide +kernel
theorem dX1_append_55 : decode cX1_append 55 = .ok (.iload_n 3, 1) := by decide +kernel
theorem dX1_append_56 : decode cX1_append 56 = .ok (.iastore, 1) := by decide +kernel
theorem dX1_append_57 : decode cX1_append 57 = .ok (.aload_n 0, 1) := by decide +kernel
theorem dX1_append_58 : decode cX1_append 58 = .ok (.getfield 31, 3) := by decide +kernel
theorem dX1_append_61 : decode cX1_append 61 = .ok (.iload 5, 2) := by decide +kernel
theorem dX1_append_63 : decode cX1_append 63 = .ok (.iload 4, 2) := by decide +kernel
theorem dX1_append_65 : decode cX1_append 65 = .ok (.iastore, 1) := by decide +kernel
theorem dX1_append_66 : decode cX1_append 66 = .ok (.aload_n 0, 1) := by decide +kernel
theorem dX1_append_67 : decode cX1_append 67 = .ok (.dup, 1) := by decide +kernel
theorem dX1_append_68 : decode cX1_append 68 = .ok (.getfield 9, 3) := by decide +kernel
theorem dX1_append_71 : decode cX1_append 71 = .ok (.iconst 1, 1) := by decide +kernel
theorem dX1_append_72 : decode cX1_append 72 = .ok (.iadd, 1) := by decide +kernel
theorem dX1_append_73 : decode cX1_append 73 = .ok (.putfield 9, 3) := by decide +kernel
theorem dX1_append_76 : decode cX1_append 76 = .ok (.iload 5, 2) := by decide +kernel
theorem dX1_append_78 : decode cX1_append 78 = .ok (.ireturn, 1) := by decide +kernel
set_option maxRecDepth 20000 in
theorem ggX2_init_X0_init : GoodIn wsX2_init wsX0_init := goodIn_r _ [13, 14, 2, 3, 15, 16, 17, 18, 19, 20, 21, 22, 23, 24, 25, 26, 27, 38, 39, 40, 41, 42, 43, 44, 45, 46, 47] (by decide +kernel) (by decide +kernel)
set_option maxRecDepth 20000 in
theorem gX2_init_X0_init_n9 : GoodIn wsX2_init (wsX0_init) := ggX2_init_X0_init
set_option maxRecDepth 20000 in
theorem ggX2_init_X1_init : GoodIn wsX2_init wsX1_init := goodIn_r _ [29, 30, 2, 3, 31, 16, 32, 33, 34, 35, 36, 37, 50, 51, 52, 53, 54, 55, 56] (by decide +kernel) (by decide +kernel)
set_option maxRecDepth 20000 in
theorem gX2_init_X1_init_n18 : GoodIn wsX2_init (wsX1_init) := ggX2_init_X1_init
theorem dX2_init_0 : decode cX2_init 0 = .ok (.aload_n 0, 1) := by decide +kernel
theorem dX2_init_1 : decode cX2_init 1 = .ok (.invokespecial 1, 3) := by decide +kernel
theorem dX2_init_4 : decode cX2_init 4 = .ok (.aload_n 0, 1) := by decide +kernel
theorem dX2_init_5 : decode cX2_init 5 = .ok (.new 7, 3) := by decide +kernel
theorem dX2_init_8 : decode cX2_init 8 = .ok (.dup, 1) := by decide +kernel
theorem dX2_init_9 : decode cX2_init 9 = .ok (.invokespecial 9, 3) := by decide +kernel
theorem dX2_init_12 : decode cX2_init 12 = .ok (.putfield 10, 3) := by decide +kernel
theorem dX2_init_15 : decode cX2_init 15 = .ok (.aload_n 0, 1) := by decide +kernel
theorem dX2_init_16 : decode cX2_init 16 = .ok (.new 16, 3) := by decide +kernel
theorem dX2_init_19 : decode cX2_init 19 = .ok (.dup, 1) := by decide +kernel
theorem dX2_init_20 : decode cX2_init 20 = .ok (.invokespecial 18, 3) := by decide +kernel
theorem dX2_init_23 : decode cX2_init 23 = .ok (.putfield 19, 3) := by decide +kernel
theorem dX2_init_26 : decode cX2_init 26 = .ok (.return_, 1) := by decide +kernel
set_option maxRecDepth 20000 in
theorem ggX2_add_X0_isPlain : GoodIn wsX2_add wsX0_isPlain := goodIn_r _ [7, 8, 9, 10, 11, 6, 12, 13, 40, 41, 42, 43, 44, 45, 46, 47, 48, 49] (by decide +kernel) (by decide +kernel)
set_option maxRecDepth 20000 in
theorem gX2_add_X0_isPlain : GoodIn wsX2_add (wsV RX2 23 RX0 yX0_isPlain wsX0_isPlain) := goodIn_app (goodIn_of _ (by decide +kernel)) ggX2_add_X0_isPlain
set_option maxRecDepth 20000 in
theorem ggX2_add_X0_append : GoodIn wsX2_add wsX0_append := goodIn_r _ [17, 13, 18, 19, 20, 21, 8, 22, 23, 24, 25, 26, 27, 6, 28, 29, 30, 31, 32, 33, 34, 35, 36, 37, 40, 41, 42, 43, 44, 45, 46, 47, 48, 49] (by decide +kernel) (by decide +kernel)
set_option maxRecDepth 20000 in
theorem gX2_add_X0_append : GoodIn wsX2_add (wsV RX2 31 RX0 yX0_append wsX0_append) := goodIn_app (goodIn_of _ (by decide +kernel)) ggX2_add_X0_append
theorem dX2_add_0 : decode cX2_add 0 = .ok (.aload_n 0, 1) := by decide +kernel
theorem dX2_add_1 : decode cX2_add 1 = .ok (.getfield 10, 3) := by decide +kernel
theorem dX2_add_4 : decode cX2_add 4 = .ok (.iload_n 1, 1) := by decide +kernel
theorem dX2_add_5 : decode cX2_add 5 = .ok (.invokevirtual 23, 3) := by decide +kernel
theorem dX2_add_8 : decode cX2_add 8 = .ok (.ifCond .ne 6, 3) := by decide +kernel
theorem dX2_add_11 : decode cX2_add 11 = .ok (.bipush (-14), 2) := by decide +kernel
theorem dX2_add_13 : decode cX2_add 13 = .ok (.ireturn, 1) := by decide +kernel
theorem dX2_add_14 : decode cX2_add 14 = .ok (.iload_n 3, 1) := by decide +kernel
theorem dX2_add_15 : decode cX2_add 15 = .ok (.iconst 1, 1) := by decide +kernel
theorem dX2_add_16 : decode cX2_add 16 = .ok (.if_icmp .ne 7, 3) := by decide +kernel
theorem dX2_add_19 : decode cX2_add 19 = .ok (.iconst 1, 1) := by decide +kernel
theorem dX2_add_20 : decode cX2_add 20 = .ok (.goto 4, 3) := by decide +kernel
theorem dX2_add_23 : decode cX2_add 23 = .ok (.iconst 0, 1) := by decide +kernel
theorem dX2_add_24 : decode cX2_add 24 = .ok (.istore 4, 2) := by decide +kernel
theorem dX2_add_26 : decode cX2_add 26 = .ok (.iload_n 2, 1) := by decide +kernel
theorem dX2_add_27 : decode cX2_add 27 = .ok (.ifCond .lt 27, 3) := by decide +kernel
theorem dX2_add_30 : decode cX2_add 30 = .ok (.iload_n 2, 1) := by decide +kernel
theorem dX2_add_31 : decode cX2_add 31 = .ok (.bipush 10, 2) := by decide +kernel
theorem dX2_add_33 : decode cX2_add 33 = .ok (.if_icmp .ge 21, 3) := by decide +kernel
theorem dX2_add_36 : decode cX2_add 36 = .ok (.iload_n 3, 1) := by decide +kernel
theorem dX2_add_37 : decode cX2_add 37 = .ok (.ifCond .lt 17, 3) := by decide +kernel
theorem dX2_add_40 : decode cX2_add 40 = .ok (.iload_n 3, 1) := by decide +kernel
theorem dX2_add_41 : decode cX2_add 41 = .ok (.iconst 1, 1) := by decide +kernel
theorem dX2_add_42 : decode cX2_add 42 = .ok (.if_icmp .gt 12, 3) := by decide +kernel
theorem dX2_add_45 : decode cX2_add 45 = .ok (.iload 4, 2) := by decide +kernel
theorem dX2_add_47 : decode cX2_add 47 = .ok (.ifCond .eq 9, 3) := by decide +kernel
theorem dX2_add_50 : decode cX2_add 50 = .ok (.iload_n 1, 1) := by decide +kernel
theorem dX2_add_51 : decode cX2_add 51 = .ok (.ifCond .eq 5, 3) := by decide +kernel
theorem dX2_add_54 : decode cX2_add 54 = .ok (.iconst (-1), 1) := by decide +kernel
theorem dX2_add_55 : decode cX2_add 55 = .ok (.ireturn, 1) := by decide +kernel
theorem dX2_add_56 : decode cX2_add 56 = .ok (.aload_n 0, 1) := by decide +kernel
theorem dX2_add_57 : decode cX2_add 57 = .ok (.getfield 10, 3) := by decide +kernel
theorem dX2_add_60 : decode cX2_add 60 = .ok (.getfield 27, 3) := by decide +kernel
theorem dX2_add_63 : decode cX2_add 63 = .ok (.bipush 60, 2) := by decide +kernel
theorem dX2_add_65 : decode cX2_add 65 = .ok (.if_icmp .lt 6, 3) := by decide +kernel
theorem dX2_add_68 : decode cX2_add 68 = .ok (.bipush (-12), 2) := by decide +kernel
theorem dX2_add_70 : decode cX2_add 70 = .ok (.ireturn, 1) := by decide +kernel
theorem dX2_add_71 : decode cX2_add 71 = .ok (.aload_n 0, 1) := by decide +kernel
theorem dX2_add_72 : decode cX2_add 72 = .ok (.getfield 10, 3) := by decide +kernel
theorem dX2_add_75 : decode cX2_add 75 = .ok (.iload_n 1, 1) := by decide +kernel
theorem dX2_add_76 : decode cX2_add 76 = .ok (.iload_n 2, 1) := by decide +kernel
theorem dX2_add_77 : decode cX2_add 77 = .ok (.iload 4, 2) := by decide +kernel
theorem dX2_add_79 : decode cX2_add 79 = .ok (.invokevirtual 31, 3) := by decide +kernel
theorem dX2_add_82 : decode cX2_add 82 = .ok (.ireturn, 1) := by decide +kernel
set_option maxRecDepth 20000 in
theorem ggX2_implement_X0_isLatest : GoodIn wsX2_implement wsX0_isLatest := goodIn_r _ [8, 9, 69, 70, 71, 72, 73, 74, 75, 76, 77, 78] (by decide +kernel) (by decide +kernel)
set_option maxRecDepth 20000 in
theorem gX2_implement_X0_isLatest : GoodIn wsX2_implement (wsV RX2 35 RX0 yX0_isLatest wsX0_isLatest) := goodIn_app (goodIn_of _ (by decide +kernel)) ggX2_implement_X0_isLatest
set_option maxRecDepth 20000 in
theorem ggX2_implement_X0_isFace : GoodIn wsX2_implement wsX0_isFace := goodIn_r _ [13, 14, 15, 16, 17, 7, 18, 9, 69, 70, 71, 72, 73, 74, 75, 76, 77, 78] (by decide +kernel) (by decide +kernel)
set_option maxRecDepth 20000 in
theorem gX2_implement_X0_isFace : GoodIn wsX2_implement (wsV RX2 38 RX0 yX0_isFace wsX0_isFace) := goodIn_app (goodIn_of _ (by decide +kernel)) ggX2_implement_X0_isFace
set_option maxRecDepth 20000 in
theorem ggX2_implement_X0_latestImplements : GoodIn wsX2_implement wsX0_latestImplements := goodIn_r _ [22, 23, 24, 25, 26, 69, 70, 71, 72, 73, 74, 75, 76, 77, 78] (by decide +kernel) (by decide +kernel)
set_option maxRecDepth 20000 in
theorem gX2_implement_X0_latestImplements : GoodIn wsX2_implement (wsV RX2 41 RX0 yX0_latestImplements wsX0_latestImplements) := goodIn_app (goodIn_of _ (by decide +kernel)) ggX2_implement_X0_latestImplements
set_option maxRecDepth 20000 in
theorem ggX2_implement_X0_ownAmount : GoodIn wsX2_implement wsX0_ownAmount := goodIn_r _ [30, 23, 31, 32, 33, 34, 35, 36, 37, 69, 70, 71, 72, 73, 74, 75, 76, 77, 78] (by decide +kernel) (by decide +kernel)
set_option maxRecDepth 20000 in
theorem gX2_implement_X0_ownAmount : GoodIn wsX2_implement (wsV RX2 48 RX0 yX0_ownAmount wsX0_ownAmount) := goodIn_app (goodIn_of _ (by decide +kernel)) ggX2_implement_X0_ownAmount
set_option maxRecDepth 20000 in
theorem ggX2_implement_X0_giveFace : GoodIn wsX2_implement wsX0_giveFace := goodIn_r _ [41, 23, 42, 43, 44, 45, 46, 47, 48, 7, 49, 50, 51, 52, 53, 54, 55, 56, 57, 58, 59, 69, 70, 71, 72, 73, 74, 75, 76, 77, 78] (by decide +kernel) (by decide +kernel)
set_option maxRecDepth 20000 in
theorem gX2_implement_X0_giveFace : GoodIn wsX2_implement (wsV RX2 52 RX0 yX0_giveFace wsX0_giveFace) := goodIn_app (goodIn_of _ (by decide +kernel)) ggX2_implement_X0_giveFace
theorem dX2_implement_0 : decode cX2_implement 0 = .ok (.aload_n 0, 1) := by decide +kernel
theorem dX2_implement_1 : decode cX2_implement 1 = .ok (.getfield 10, 3) := by decide +kernel
theorem dX2_implement_4 : decode cX2_implement 4 = .ok (.iload_n 1, 1) := by decide +kernel
theorem dX2_implement_5 : decode cX2_implement 5 = .ok (.invokevirtual 35, 3) := by decide +kernel
theorem dX2_implement_8 : decode cX2_implement 8 = .ok (.ifCond .eq 19, 3) := by decide +kernel
theorem dX2_implement_11 : decode cX2_implement 11 = .ok (.iload_n 2, 1) := by decide +kernel
theorem dX2_implement_12 : decode cX2_implement 12 = .ok (.iload_n 1, 1) := by decide +kernel
theorem dX2_implement_13 : decode cX2_implement 13 = .ok (.if_icmp .eq 14, 3) := by decide +kernel
theorem dX2_implement_16 : decode cX2_implement 16 = .ok (.aload_n 0, 1) := by decide +kernel
theorem dX2_implement_17 : decode cX2_implement 17 = .ok (.getfield 10, 3) := by decide +kernel
theorem dX2_implement_20 : decode cX2_implement 20 = .ok (.iload_n 2, 1) := by decide +kernel
theorem dX2_implement_21 : decode cX2_implement 21 = .ok (.invokevirtual 38, 3) := by decide +kernel
theorem dX2_implement_24 : decode cX2_implement 24 = .ok (.ifCond .ne 6, 3) := by decide +kernel
theorem dX2_implement_27 : decode cX2_implement 27 = .ok (.bipush (-14), 2) := by decide +kernel
theorem dX2_implement_29 : decode cX2_implement 29 = .ok (.ireturn, 1) := by decide +kernel
theorem dX2_implement_30 : decode cX2_implement 30 = .ok (.aload_n 0, 1) := by decide +kernel
theorem dX2_implement_31 : decode cX2_implement 31 = .ok (.getfield 10, 3) := by decide +kernel
theorem dX2_implement_34 : decode cX2_implement 34 = .ok (.iload_n 2, 1) := by decide +kernel
theorem dX2_implement_35 : decode cX2_implement 35 = .ok (.invokevirtual 41, 3) := by decide +kernel
theorem dX2_implement_38 : decode cX2_implement 38 = .ok (.ifCond .ne 15, 3) := by decide +kernel
theorem dX2_implement_41 : decode cX2_implement 41 = .ok (.aload_n 0, 1) := by decide +kernel
theorem dX2_implement_42 : decode cX2_implement 42 = .ok (.getfield 19, 3) := by decide +kernel
theorem dX2_implement_45 : decode cX2_implement 45 = .ok (.getfield 44, 3) := by decide +kernel
theorem dX2_implement_48 : decode cX2_implement 48 = .ok (.iload_n 1, 1) := by decide +kernel
theorem dX2_implement_49 : decode cX2_implement 49 = .ok (.iaload, 1) := by decide +kernel
theorem dX2_implement_50 : decode cX2_implement 50 = .ok (.ifCond .le 5, 3) := by decide +kernel
theorem dX2_implement_53 : decode cX2_implement 53 = .ok (.iconst (-1), 1) := by decide +kernel
theorem dX2_implement_54 : decode cX2_implement 54 = .ok (.ireturn, 1) := by decide +kernel
theorem dX2_implement_55 : decode cX2_implement 55 = .ok (.aload_n 0, 1) := by decide +kernel
theorem dX2_implement_56 : decode cX2_implement 56 = .ok (.getfield 10, 3) := by decide +kernel
theorem dX2_implement_59 : decode cX2_implement 59 = .ok (.invokevirtual 48, 3) := by decide +kernel
theorem dX2_implement_62 : decode cX2_implement 62 = .ok (.bipush 20, 2) := by decide +kernel
theorem dX2_implement_64 : decode cX2_implement 64 = .ok (.if_icmp .lt 6, 3) := by decide +kernel
theorem dX2_implement_67 : decode cX2_implement 67 = .ok (.bipush (-12), 2) := by decide +kernel
theorem dX2_implement_69 : decode cX2_implement 69 = .ok (.ireturn, 1) := by decide +kernel
theorem dX2_implement_70 : decode cX2_implement 70 = .ok (.aload_n 0, 1) := by decide +kernel
theorem dX2_implement_71 : decode cX2_implement 71 = .ok (.getfield 10, 3) := by decide +kernel
theorem dX2_implement_74 : decode cX2_implement 74 = .ok (.iload_n 1, 1) := by decide +kernel
theorem dX2_implement_75 : decode cX2_implement 75 = .ok (.iload_n 2, 1) := by decide +kernel
theorem dX2_implement_76 : decode cX2_implement 76 = .ok (.invokevirtual 52, 3) := by decide +kernel
theorem dX2_implement_79 : decode cX2_implement 79 = .ok (.aload_n 0, 1) := by decide +kernel
theorem dX2_implement_80 : decode cX2_implement 80 = .ok (.getfield 10, 3) := by decide +kernel
theorem dX2_implement_83 : decode cX2_implement 83 = .ok (.invokevirtual 48, 3) := by decide +kernel
theorem dX2_implement_86 : decode cX2_implement 86 = .ok (.ireturn, 1) := by decide +kernel
set_option maxRecDepth 20000 in
theorem ggX2_method_X0_isLatest : GoodIn wsX2_method wsX0_isLatest := goodIn_r _ [9, 10, 33, 34, 35, 36, 37, 38, 39, 40, 41, 42] (by decide +kernel) (by decide +kernel)
set_option maxRecDepth 20000 in
theorem gX2_method_X0_isLatest : GoodIn wsX2_method (wsV RX2 35 RX0 yX0_isLatest wsX0_isLatest) := goodIn_app (goodIn_of _ (by decide +kernel)) ggX2_method_X0_isLatest
set_option maxRecDepth 20000 in
theorem ggX2_method_X2_fits : GoodIn wsX2_method wsX2_fits := goodIn_r _ [14] (by decide +kernel) (by decide +kernel)
set_option maxRecDepth 20000 in
theorem gX2_method_X2_fits : GoodIn wsX2_method (va_wsS RX2 60 yX2_fits wsX2_fits) := goodIn_app (goodIn_of _ (by decide +kernel)) ggX2_method_X2_fits
set_option maxRecDepth 20000 in
theorem ggX2_method_X1_inClass : GoodIn wsX2_method wsX1_inClass := goodIn_r _ [19, 20, 21, 22, 43, 44, 45, 46, 47, 48, 49] (by decide +kernel) (by decide +kernel)
set_option maxRecDepth 20000 in
theorem gX2_method_X1_inClass : GoodIn wsX2_method (wsV RX2 64 RX1 yX1_inClass wsX1_inClass) := goodIn_app (goodIn_of _ (by decide +kernel)) ggX2_method_X1_inClass
set_option maxRecDepth 20000 in
theorem ggX2_method_X1_append : GoodIn wsX2_method wsX1_append := goodIn_r _ [26, 27, 21, 20, 28, 22, 29, 30, 43, 44, 45, 46, 47, 48, 49] (by decide +kernel) (by decide +kernel)
set_option maxRecDepth 20000 in
theorem gX2_method_X1_append : GoodIn wsX2_method (wsV RX2 69 RX1 yX1_append wsX1_append) := goodIn_app (goodIn_of _ (by decide +kernel)) ggX2_method_X1_append
theorem dX2_method_0 : decode cX2_method 0 = .ok (.aload_n 0, 1) := by decide +kernel
theorem dX2_method_1 : decode cX2_method 1 = .ok (.getfield 10, 3) := by decide +kernel
theorem dX2_method_4 : decode cX2_method 4 = .ok (.iload_n 1, 1) := by decide +kernel
theorem dX2_method_5 : decode cX2_method 5 = .ok (.invokevirtual 35, 3) := by decide +kernel
theorem dX2_method_8 : decode cX2_method 8 = .ok (.ifCond .eq 7, 3) := by decide +kernel
theorem dX2_method_11 : decode cX2_method 11 = .ok (.iload_n 1, 1) := by decide +kernel
theorem dX2_method_12 : decode cX2_method 12 = .ok (.ifCond .ne 6, 3) := by decide +kernel
theorem dX2_method_15 : decode cX2_method 15 = .ok (.bipush (-14), 2) := by decide +kernel
theorem dX2_method_17 : decode cX2_method 17 = .ok (.ireturn, 1) := by decide +kernel
theorem dX2_method_18 : decode cX2_method 18 = .ok (.iload_n 2, 1) := by decide +kernel
theorem dX2_method_19 : decode cX2_method 19 = .ok (.ifCond .lt 27, 3) := by decide +kernel
theorem dX2_method_22 : decode cX2_method 22 = .ok (.iload_n 2, 1) := by decide +kernel
theorem dX2_method_23 : decode cX2_method 23 = .ok (.bipush 32, 2) := by decide +kernel
theorem dX2_method_25 : decode cX2_method 25 = .ok (.if_icmp .ge 21, 3) := by decide +kernel
theorem dX2_method_28 : decode cX2_method 28 = .ok (.iload_n 3, 1) := by decide +kernel
theorem dX2_method_29 : decode cX2_method 29 = .ok (.iload 4, 2) := by decide +kernel
theorem dX2_method_31 : decode cX2_method 31 = .ok (.aload_n 0, 1) := by decide +kernel
theorem dX2_method_32 : decode cX2_method 32 = .ok (.getfield 10, 3) := by decide +kernel
theorem dX2_method_35 : decode cX2_method 35 = .ok (.getfield 56, 3) := by decide +kernel
theorem dX2_method_38 : decode cX2_method 38 = .ok (.iload_n 1, 1) := by decide +kernel
theorem dX2_method_39 : decode cX2_method 39 = .ok (.baload, 1) := by decide +kernel
theorem dX2_method_40 : decode cX2_method 40 = .ok (.invokestatic 60, 3) := by decide +kernel
theorem dX2_method_43 : decode cX2_method 43 = .ok (.ifCond .ne 5, 3) := by decide +kernel
theorem dX2_method_46 : decode cX2_method 46 = .ok (.iconst (-1), 1) := by decide +kernel
theorem dX2_method_47 : decode cX2_method 47 = .ok (.ireturn, 1) := by decide +kernel
theorem dX2_method_48 : decode cX2_method 48 = .ok (.aload_n 0, 1) := by decide +kernel
theorem dX2_method_49 : decode cX2_method 49 = .ok (.getfield 19, 3) := by decide +kernel
theorem dX2_method_52 : decode cX2_method 52 = .ok (.iload_n 1, 1) := by decide +kernel
theorem dX2_method_53 : decode cX2_method 53 = .ok (.iload_n 2, 1) := by decide +kernel
theorem dX2_method_54 : decode cX2_method 54 = .ok (.invokevirtual 64, 3) := by decide +kernel
theorem dX2_method_57 : decode cX2_method 57 = .ok (.iconst (-1), 1) := by decide +kernel
theorem dX2_method_58 : decode cX2_method 58 = .ok (.if_icmp .eq 5, 3) := by decide +kernel
theorem dX2_method_61 : decode cX2_method 61 = .ok (.iconst (-1), 1) := by decide +kernel
theorem dX2_method_62 : decode cX2_method 62 = .ok (.ireturn, 1) := by decide +kernel
theorem dX2_method_63 : decode cX2_method 63 = .ok (.aload_n 0, 1) := by decide +kernel
theorem dX2_method_64 : decode cX2_method 64 = .ok (.getfield 19, 3) := by decide +kernel
theorem dX2_method_67 : decode cX2_method 67 = .ok (.getfield 68, 3) := by decide +kernel
theorem dX2_method_70 : decode cX2_method 70 = .ok (.sipush 400, 3) := by decide +kernel
theorem dX2_method_73 : decode cX2_method 73 = .ok (.if_icmp .lt 6, 3) := by decide +kernel
theorem dX2_method_76 : decode cX2_method 76 = .ok (.bipush (-12), 2) := by decide +kernel
theorem dX2_method_78 : decode cX2_method 78 = .ok (.ireturn, 1) := by decide +kernel
theorem dX2_method_79 : decode cX2_method 79 = .ok (.aload_n 0, 1) := by decide +kernel
theorem dX2_method_80 : decode cX2_method 80 = .ok (.getfield 19, 3) := by decide +kernel
theorem dX2_method_83 : decode cX2_method 83 = .ok (.iload_n 1, 1) := by decide +kernel
theorem dX2_method_84 : decode cX2_method 84 = .ok (.iload_n 2, 1) := by decide +kernel
theorem dX2_method_85 : decode cX2_method 85 = .ok (.iload_n 3, 1) := by decide +kernel
theorem dX2_method_86 : decode cX2_method 86 = .ok (.iload 4, 2) := by decide +kernel
theorem dX2_method_88 : decode cX2_method 88 = .ok (.invokevirtual 69, 3) := by decide +kernel
theorem dX2_method_91 : decode cX2_method 91 = .ok (.ireturn, 1) := by decide +kernel
set_option maxRecDepth 20000 in
theorem ggX2_isBelow_X0_exists : GoodIn wsX2_isBelow wsX0_exists := goodIn_r _ [6, 7, 18, 19, 20, 21, 22, 23, 24, 25, 26, 27] (by decide +kernel) (by decide +kernel)
set_option maxRecDepth 20000 in
theorem gX2_isBelow_X0_exists : GoodIn wsX2_isBelow (wsV RX2 72 RX0 yX0_exists wsX0_exists) := goodIn_app (goodIn_of _ (by decide +kernel)) ggX2_isBelow_X0_exists
set_option maxRecDepth 20000 in
theorem ggX2_isBelow_X0_below : GoodIn wsX2_isBelow wsX0_below := goodIn_r _ [11, 12, 13, 14, 15, 18, 19, 20, 21, 22, 23, 24, 25, 26, 27] (by decide +kernel) (by decide +kernel)
set_option maxRecDepth 20000 in
theorem gX2_isBelow_X0_below : GoodIn wsX2_isBelow (wsV RX2 75 RX0 yX0_below wsX0_below) := goodIn_app (goodIn_of _ (by decide +kernel)) ggX2_isBelow_X0_below
theorem dX2_isBelow_0 : decode cX2_isBelow 0 = .ok (.aload_n 0, 1) := by decide +kernel
theorem dX2_isBelow_1 : decode cX2_isBelow 1 = .ok (.getfield 10, 3) := by decide +kernel
theorem dX2_isBelow_4 : decode cX2_isBelow 4 = .ok (.iload_n 1, 1) := by decide +kernel
theorem dX2_isBelow_5 : decode cX2_isBelow 5 = .ok (.invokevirtual 72, 3) := by decide +kernel
theorem dX2_isBelow_8 : decode cX2_isBelow 8 = .ok (.ifCond .eq 35, 3) := by decide +kernel
theorem dX2_isBelow_11 : decode cX2_isBelow 11 = .ok (.aload_n 0, 1) := by decide +kernel
theorem dX2_isBelow_12 : decode cX2_isBelow 12 = .ok (.getfield 10, 3) := by decide +kernel
theorem dX2_isBelow_15 : decode cX2_isBelow 15 = .ok (.iload_n 2, 1) := by decide +kernel
theorem dX2_isBelow_16 : decode cX2_isBelow 16 = .ok (.invokevirtual 72, 3) := by decide +kernel
theorem dX2_isBelow_19 : decode cX2_isBelow 19 = .ok (.ifCond .eq 24, 3) := by decide +kernel
theorem dX2_isBelow_22 : decode cX2_isBelow 22 = .ok (.iload_n 1, 1) := by decide +kernel
theorem dX2_isBelow_23 : decode cX2_isBelow 23 = .ok (.iload_n 2, 1) := by decide +kernel
theorem dX2_isBelow_24 : decode cX2_isBelow 24 = .ok (.if_icmp .eq 15, 3) := by decide +kernel
theorem dX2_isBelow_27 : decode cX2_isBelow 27 = .ok (.aload_n 0, 1) := by decide +kernel
theorem dX2_isBelow_28 : decode cX2_isBelow 28 = .ok (.getfield 10, 3) := by decide +kernel
theorem dX2_isBelow_31 : decode cX2_isBelow 31 = .ok (.iload_n 1, 1) := by decide +kernel
theorem dX2_isBelow_32 : decode cX2_isBelow 32 = .ok (.iload_n 2, 1) := by decide +kernel
theorem dX2_isBelow_33 : decode cX2_isBelow 33 = .ok (.invokevirtual 75, 3) := by decide +kernel
theorem dX2_isBelow_36 : decode cX2_isBelow 36 = .ok (.ifCond .eq 7, 3) := by decide +kernel
theorem dX2_isBelow_39 : decode cX2_isBelow 39 = .ok (.iconst 1, 1) := by decide +kernel
theorem dX2_isBelow_40 : decode cX2_isBelow 40 = .ok (.goto 4, 3) := by decide +kernel
theorem dX2_isBelow_43 : decode cX2_isBelow 43 = .ok (.iconst 0, 1) := by decide +kernel
theorem dX2_isBelow_44 : decode cX2_isBelow 44 = .ok (.ireturn, 1) := by decide +kernel
set_option maxRecDepth 20000 in
theorem ggX2_face_X0_exists : GoodIn wsX2_face wsX0_exists := goodIn_r _ [7, 8, 17, 18, 19, 20, 21, 22, 23, 24, 25, 26] (by decide +kernel) (by decide +kernel)
set_option maxRecDepth 20000 in
theorem gX2_face_X0_exists : GoodIn wsX2_face (wsV RX2 72 RX0 yX0_exists wsX0_exists) := goodIn_app (goodIn_of _ (by decide +kernel)) ggX2_face_X0_exists
set_option maxRecDepth 20000 in
theorem ggX2_face_X0_faceAt : GoodIn wsX2_face wsX0_faceAt := goodIn_r _ [12, 13, 14, 17, 18, 19, 20, 21, 22, 23, 24, 25, 26] (by decide +kernel) (by decide +kernel)
set_option maxRecDepth 20000 in
theorem gX2_face_X0_faceAt : GoodIn wsX2_face (wsV RX2 82 RX0 yX0_faceAt wsX0_faceAt) := goodIn_app (goodIn_of _ (by decide +kernel)) ggX2_face_X0_faceAt
theorem dX2_face_0 : decode cX2_face 0 = .ok (.aload_n 0, 1) := by decide +kernel
theorem dX2_face_1 : decode cX2_face 1 = .ok (.getfield 10, 3) := by decide +kernel
theorem dX2_face_4 : decode cX2_face 4 = .ok (.iload_n 1, 1) := by decide +kernel
theorem dX2_face_5 : decode cX2_face 5 = .ok (.invokevirtual 72, 3) := by decide +kernel
theorem dX2_face_8 : decode cX2_face 8 = .ok (.ifCond .eq 20, 3) := by decide +kernel
theorem dX2_face_11 : decode cX2_face 11 = .ok (.iload_n 2, 1) := by decide +kernel
theorem dX2_face_12 : decode cX2_face 12 = .ok (.ifCond .lt 16, 3) := by decide +kernel
theorem dX2_face_15 : decode cX2_face 15 = .ok (.iload_n 2, 1) := by decide +kernel
theorem dX2_face_16 : decode cX2_face 16 = .ok (.aload_n 0, 1) := by decide +kernel
theorem dX2_face_17 : decode cX2_face 17 = .ok (.getfield 10, 3) := by decide +kernel
theorem dX2_face_20 : decode cX2_face 20 = .ok (.getfield 79, 3) := by decide +kernel
theorem dX2_face_23 : decode cX2_face 23 = .ok (.iload_n 1, 1) := by decide +kernel
theorem dX2_face_24 : decode cX2_face 24 = .ok (.iaload, 1) := by decide +kernel
theorem dX2_face_25 : decode cX2_face 25 = .ok (.if_icmp .lt 5, 3) := by decide +kernel
theorem dX2_face_28 : decode cX2_face 28 = .ok (.iconst (-1), 1) := by decide +kernel
theorem dX2_face_29 : decode cX2_face 29 = .ok (.ireturn, 1) := by decide +kernel
theorem dX2_face_30 : decode cX2_face 30 = .ok (.aload_n 0, 1) := by decide +kernel
theorem dX2_face_31 : decode cX2_face 31 = .ok (.getfield 10, 3) := by decide +kernel
theorem dX2_face_34 : decode cX2_face 34 = .ok (.iload_n 1, 1) := by decide +kernel
theorem dX2_face_35 : decode cX2_face 35 = .ok (.iload_n 2, 1) := by decide +kernel
theorem dX2_face_36 : decode cX2_face 36 = .ok (.invokevirtual 82, 3) := by decide +kernel
theorem dX2_face_39 : decode cX2_face 39 = .ok (.ireturn, 1) := by decide +kernel
set_option maxRecDepth 20000 in
theorem ggX2_overrides_X1_exists : GoodIn wsX2_overrides wsX1_exists := goodIn_r _ [6, 7, 65, 66, 67, 68, 69, 70, 71] (by decide +kernel) (by decide +kernel)
set_option maxRecDepth 20000 in
theorem gX2_overrides_X1_exists : GoodIn wsX2_overrides (wsV RX2 85 RX1 yX1_exists wsX1_exists) := goodIn_app (goodIn_of _ (by decide +kernel)) ggX2_overrides_X1_exists
set_option maxRecDepth 20000 in
theorem ggX2_overrides_X2_replaces : GoodIn wsX2_overrides wsX2_replaces := goodIn_r _ [12, 1, 13, 14, 15, 16, 17, 18, 11, 19, 20, 21, 22, 23, 5, 24, 25, 26, 27, 28, 29, 30, 31, 32, 33, 34, 35, 36, 37, 38, 39, 40, 41, 42, 43, 44, 45, 46, 47, 48, 49, 50, 51, 52, 53, 54, 55, 56, 57, 58, 59, 60, 61, 62, 63, 64, 72, 73, 74, 75, 76, 77, 78, 79, 80, 81, 65, 66, 67, 68, 69, 70, 71] (by decide +kernel) (by decide +kernel)
set_option maxRecDepth 20000 in
theorem gX2_overrides_X2_replaces : GoodIn wsX2_overrides (wsV RX2 86 RX2 yX2_replaces wsX2_replaces) := goodIn_app (goodIn_of _ (by decide +kernel)) ggX2_overrides_X2_replaces
theorem dX2_overrides_0 : decode cX2_overrides 0 = .ok (.aload_n 0, 1) := by decide +kernel
theorem dX2_overrides_1 : decode cX2_overrides 1 = .ok (.getfield 19, 3) := by decide +kernel
theorem dX2_overrides_4 : decode cX2_overrides 4 = .ok (.iload_n 1, 1) := by decide +kernel
theorem dX2_overrides_5 : decode cX2_overrides 5 = .ok (.invokevirtual 85, 3) := by decide +kernel
theorem dX2_overrides_8 : decode cX2_overrides 8 = .ok (.ifCond .eq 27, 3) := by decide +kernel
theorem dX2_overrides_11 : decode cX2_overrides 11 = .ok (.aload_n 0, 1) := by decide +kernel
theorem dX2_overrides_12 : decode cX2_overrides 12 = .ok (.getfield 19, 3) := by decide +kernel
theorem dX2_overrides_15 : decode cX2_overrides 15 = .ok (.iload_n 2, 1) := by decide +kernel
theorem dX2_overrides_16 : decode cX2_overrides 16 = .ok (.invokevirtual 85, 3) := by decide +kernel
theorem dX2_overrides_19 : decode cX2_overrides 19 = .ok (.ifCond .eq 16, 3) := by decide +kernel
theorem dX2_overrides_22 : decode cX2_overrides 22 = .ok (.aload_n 0, 1) := by decide +kernel
theorem dX2_overrides_23 : decode cX2_overrides 23 = .ok (.iload_n 1, 1) := by decide +kernel
theorem dX2_overrides_24 : decode cX2_overrides 24 = .ok (.iload_n 2, 1) := by decide +kernel
theorem dX2_overrides_25 : decode cX2_overrides 25 = .ok (.invokevirtual 86, 3) := by decide +kernel
theorem dX2_overrides_28 : decode cX2_overrides 28 = .ok (.ifCond .eq 7, 3) := by decide +kernel
theorem dX2_overrides_31 : decode cX2_overrides 31 = .ok (.iconst 1, 1) := by decide +kernel
theorem dX2_overrides_32 : decode cX2_overrides 32 = .ok (.goto 4, 3) := by decide +kernel
theorem dX2_overrides_35 : decode cX2_overrides 35 = .ok (.iconst 0, 1) := by decide +kernel
theorem dX2_overrides_36 : decode cX2_overrides 36 = .ok (.ireturn, 1) := by decide +kernel
set_option maxRecDepth 20000 in
theorem ggX2_broken_X0_exists : GoodIn wsX2_broken wsX0_exists := goodIn_r _ [9, 10, 82, 83, 84, 85, 86, 87, 88, 89, 90, 91] (by decide +kernel) (by decide +kernel)
set_option maxRecDepth 20000 in
theorem gX2_broken_X0_exists : GoodIn wsX2_broken (wsV RX2 72 RX0 yX0_exists wsX0_exists) := goodIn_app (goodIn_of _ (by decide +kernel)) ggX2_broken_X0_exists
set_option maxRecDepth 20000 in
theorem ggX2_broken_X2_replacesFinal : GoodIn wsX2_broken wsX2_replacesFinal := goodIn_r _ [15, 2, 16, 1, 17, 18, 19, 20, 8, 21, 22, 23, 24, 25, 26, 27, 28, 14, 29, 30, 31, 32, 33, 34, 35, 36, 37, 38, 39, 40, 41, 42, 43, 44, 45, 46, 47, 48, 49, 50, 51, 52, 53, 54, 55, 56, 57, 58, 59, 60, 61, 62, 63, 64, 65, 66, 67, 68, 69, 70, 71, 72, 73, 74, 75, 76, 77, 78, 79, 80, 81, 82, 83, 84, 85, 86, 87, 88, 89, 90, 91] (by decide +kernel) (by decide +kernel)
set_option maxRecDepth 20000 in
theorem gX2_broken_X2_replacesFinal : GoodIn wsX2_broken (wsV RX2 92 RX2 yX2_replacesFinal wsX2_replacesFinal) := goodIn_app (goodIn_of _ (by decide +kernel)) ggX2_broken_X2_replacesFinal
theorem dX2_broken_0 : decode cX2_broken 0 = .ok (.aload_n 0, 1) := by decide +kernel
theorem dX2_broken_1 : decode cX2_broken 1 = .ok (.getfield 10, 3) := by decide +kernel
theorem dX2_broken_4 : decode cX2_broken 4 = .ok (.iload_n 1, 1) := by decide +kernel
theorem dX2_broken_5 : decode cX2_broken 5 = .ok (.invokevirtual 72, 3) := by decide +kernel
theorem dX2_broken_8 : decode cX2_broken 8 = .ok (.ifCond .ne 5, 3) := by decide +kernel
theorem dX2_broken_11 : decode cX2_broken 11 = .ok (.iconst (-1), 1) := by decide +kernel
theorem dX2_broken_12 : decode cX2_broken 12 = .ok (.ireturn, 1) := by decide +kernel
theorem dX2_broken_13 : decode cX2_broken 13 = .ok (.aload_n 0, 1) := by decide +kernel
theorem dX2_broken_14 : decode cX2_broken 14 = .ok (.getfield 19, 3) := by decide +kernel
theorem dX2_broken_17 : decode cX2_broken 17 = .ok (.getfield 89, 3) := by decide +kernel
theorem dX2_broken_20 : decode cX2_broken 20 = .ok (.iload_n 1, 1) := by decide +kernel
theorem dX2_broken_21 : decode cX2_broken 21 = .ok (.iaload, 1) := by decide +kernel
theorem dX2_broken_22 : decode cX2_broken 22 = .ok (.aload_n 0, 1) := by decide +kernel
theorem dX2_broken_23 : decode cX2_broken 23 = .ok (.getfield 19, 3) := by decide +kernel
theorem dX2_broken_26 : decode cX2_broken 26 = .ok (.getfield 44, 3) := by decide +kernel
theorem dX2_broken_29 : decode cX2_broken 29 = .ok (.iload_n 1, 1) := by decide +kernel
theorem dX2_broken_30 : decode cX2_broken 30 = .ok (.iaload, 1) := by decide +kernel
theorem dX2_broken_31 : decode cX2_broken 31 = .ok (.iadd, 1) := by decide +kernel
theorem dX2_broken_32 : decode cX2_broken 32 = .ok (.istore_n 2, 1) := by decide +kernel
theorem dX2_broken_33 : decode cX2_broken 33 = .ok (.aload_n 0, 1) := by decide +kernel
theorem dX2_broken_34 : decode cX2_broken 34 = .ok (.getfield 19, 3) := by decide +kernel
theorem dX2_broken_37 : decode cX2_broken 37 = .ok (.getfield 89, 3) := by decide +kernel
theorem dX2_broken_40 : decode cX2_broken 40 = .ok (.iload_n 1, 1) := by decide +kernel
theorem dX2_broken_41 : decode cX2_broken 41 = .ok (.iaload, 1) := by decide +kernel
theorem dX2_broken_42 : decode cX2_broken 42 = .ok (.istore_n 3, 1) := by decide +kernel
theorem dX2_broken_43 : decode cX2_broken 43 = .ok (.iload_n 3, 1) := by decide +kernel
theorem dX2_broken_44 : decode cX2_broken 44 = .ok (.iload_n 2, 1) := by decide +kernel
theorem dX2_broken_45 : decode cX2_broken 45 = .ok (.if_icmp .ge 19, 3) := by decide +kernel
theorem dX2_broken_48 : decode cX2_broken 48 = .ok (.aload_n 0, 1) := by decide +kernel
theorem dX2_broken_49 : decode cX2_broken 49 = .ok (.iload_n 3, 1) := by decide +kernel
theorem dX2_broken_50 : decode cX2_broken 50 = .ok (.invokevirtual 92, 3) := by decide +kernel
theorem dX2_broken_53 : decode cX2_broken 53 = .ok (.ifCond .eq 5, 3) := by decide +kernel
theorem dX2_broken_56 : decode cX2_broken 56 = .ok (.iload_n 3, 1) := by decide +kernel
theorem dX2_broken_57 : decode cX2_broken 57 = .ok (.ireturn, 1) := by decide +kernel
theorem dX2_broken_58 : decode cX2_broken 58 = .ok (.iinc 3 1, 3) := by decide +kernel
theorem dX2_broken_61 : decode cX2_broken 61 = .ok (.goto (-18), 3) := by decide +kernel
theorem dX2_broken_64 : decode cX2_broken 64 = .ok (.iconst (-1), 1) := by decide +kernel
theorem dX2_broken_65 : decode cX2_broken 65 = .ok (.ireturn, 1) := by decide +kernel
set_option maxRecDepth 20000 in
theorem ggX2_nearest_X0_exists : GoodIn wsX2_nearest wsX0_exists := goodIn_r _ [7, 8, 39, 40, 41, 42, 43, 44, 45, 46, 47, 48] (by decide +kernel) (by decide +kernel)
set_option maxRecDepth 20000 in
theorem gX2_nearest_X0_exists : GoodIn wsX2_nearest (wsV RX2 72 RX0 yX0_exists wsX0_exists) := goodIn_app (goodIn_of _ (by decide +kernel)) ggX2_nearest_X0_exists
set_option maxRecDepth 20000 in
theorem ggX2_nearest_X2_hiddenFaces : GoodIn wsX2_nearest wsX2_hiddenFaces := goodIn_r _ [13, 1, 2, 14, 15, 16, 17, 18, 6, 19, 20, 21, 22, 23, 24, 25, 26, 27, 28, 29, 37, 38, 39, 40, 41, 42, 43, 44, 45, 46, 47, 48, 49, 50, 51, 52, 53, 54, 55] (by decide +kernel) (by decide +kernel)
set_option maxRecDepth 20000 in
theorem gX2_nearest_X2_hiddenFaces : GoodIn wsX2_nearest (wsV RX2 95 RX2 yX2_hiddenFaces wsX2_hiddenFaces) := goodIn_app (goodIn_of _ (by decide +kernel)) ggX2_nearest_X2_hiddenFaces
set_option maxRecDepth 20000 in
theorem ggX2_nearest_X2_nearestAt : GoodIn wsX2_nearest wsX2_nearestAt := goodIn_r _ [33, 1, 14, 16, 17, 18, 6, 19, 20, 21, 34, 35, 12, 36, 22, 23, 24, 25, 26, 27, 28, 29, 37, 38, 39, 40, 41, 42, 43, 44, 45, 46, 47, 48, 49, 50, 51, 52, 53, 54, 55] (by decide +kernel) (by decide +kernel)
set_option maxRecDepth 20000 in
theorem gX2_nearest_X2_nearestAt : GoodIn wsX2_nearest (wsV RX2 99 RX2 yX2_nearestAt wsX2_nearestAt) := goodIn_app (goodIn_of _ (by decide +kernel)) ggX2_nearest_X2_nearestAt
theorem dX2_nearest_0 : decode cX2_nearest 0 = .ok (.aload_n 0, 1) := by decide +kernel
theorem dX2_nearest_1 : decode cX2_nearest 1 = .ok (.getfield 10, 3) := by decide +kernel
theorem dX2_nearest_4 : decode cX2_nearest 4 = .ok (.iload_n 1, 1) := by decide +kernel
theorem dX2_nearest_5 : decode cX2_nearest 5 = .ok (.invokevirtual 72, 3) := by decide +kernel
theorem dX2_nearest_8 : decode cX2_nearest 8 = .ok (.ifCond .eq 7, 3) := by decide +kernel
theorem dX2_nearest_11 : decode cX2_nearest 11 = .ok (.iload_n 3, 1) := by decide +kernel
theorem dX2_nearest_12 : decode cX2_nearest 12 = .ok (.ifCond .ge 5, 3) := by decide +kernel
theorem dX2_nearest_15 : decode cX2_nearest 15 = .ok (.iconst (-1), 1) := by decide +kernel
theorem dX2_nearest_16 : decode cX2_nearest 16 = .ok (.ireturn, 1) := by decide +kernel
theorem dX2_nearest_17 : decode cX2_nearest 17 = .ok (.aload_n 0, 1) := by decide +kernel
theorem dX2_nearest_18 : decode cX2_nearest 18 = .ok (.iload_n 1, 1) := by decide +kernel
theorem dX2_nearest_19 : decode cX2_nearest 19 = .ok (.iload_n 2, 1) := by decide +kernel
theorem dX2_nearest_20 : decode cX2_nearest 20 = .ok (.invokevirtual 95, 3) := by decide +kernel
theorem dX2_nearest_23 : decode cX2_nearest 23 = .ok (.lstore 4, 2) := by decide +kernel
theorem dX2_nearest_25 : decode cX2_nearest 25 = .ok (.iconst 0, 1) := by decide +kernel
theorem dX2_nearest_26 : decode cX2_nearest 26 = .ok (.istore 6, 2) := by decide +kernel
theorem dX2_nearest_28 : decode cX2_nearest 28 = .ok (.iconst 0, 1) := by decide +kernel
theorem dX2_nearest_29 : decode cX2_nearest 29 = .ok (.istore 7, 2) := by decide +kernel
theorem dX2_nearest_31 : decode cX2_nearest 31 = .ok (.iload 7, 2) := by decide +kernel
theorem dX2_nearest_33 : decode cX2_nearest 33 = .ok (.aload_n 0, 1) := by decide +kernel
theorem dX2_nearest_34 : decode cX2_nearest 34 = .ok (.getfield 10, 3) := by decide +kernel
theorem dX2_nearest_37 : decode cX2_nearest 37 = .ok (.getfield 79, 3) := by decide +kernel
theorem dX2_nearest_40 : decode cX2_nearest 40 = .ok (.iload_n 1, 1) := by decide +kernel
theorem dX2_nearest_41 : decode cX2_nearest 41 = .ok (.iaload, 1) := by decide +kernel
theorem dX2_nearest_42 : decode cX2_nearest 42 = .ok (.if_icmp .ge 39, 3) := by decide +kernel
theorem dX2_nearest_45 : decode cX2_nearest 45 = .ok (.aload_n 0, 1) := by decide +kernel
theorem dX2_nearest_46 : decode cX2_nearest 46 = .ok (.iload_n 1, 1) := by decide +kernel
theorem dX2_nearest_47 : decode cX2_nearest 47 = .ok (.iload_n 2, 1) := by decide +kernel
theorem dX2_nearest_48 : decode cX2_nearest 48 = .ok (.iload 7, 2) := by decide +kernel
theorem dX2_nearest_50 : decode cX2_nearest 50 = .ok (.lload 4, 2) := by decide +kernel
theorem dX2_nearest_52 : decode cX2_nearest 52 = .ok (.invokevirtual 99, 3) := by decide +kernel
theorem dX2_nearest_55 : decode cX2_nearest 55 = .ok (.istore 8, 2) := by decide +kernel
theorem dX2_nearest_57 : decode cX2_nearest 57 = .ok (.iload 8, 2) := by decide +kernel
theorem dX2_nearest_59 : decode cX2_nearest 59 = .ok (.iconst (-1), 1) := by decide +kernel
theorem dX2_nearest_60 : decode cX2_nearest 60 = .ok (.if_icmp .eq 15, 3) := by decide +kernel
theorem dX2_nearest_63 : decode cX2_nearest 63 = .ok (.iload 6, 2) := by decide +kernel
theorem dX2_nearest_65 : decode cX2_nearest 65 = .ok (.iload_n 3, 1) := by decide +kernel
theorem dX2_nearest_66 : decode cX2_nearest 66 = .ok (.if_icmp .ne 6, 3) := by decide +kernel
theorem dX2_nearest_69 : decode cX2_nearest 69 = .ok (.iload 8, 2) := by decide +kernel
theorem dX2_nearest_71 : decode cX2_nearest 71 = .ok (.ireturn, 1) := by decide +kernel
theorem dX2_nearest_72 : decode cX2_nearest 72 = .ok (.iinc 6 1, 3) := by decide +kernel
theorem dX2_nearest_75 : decode cX2_nearest 75 = .ok (.iinc 7 1, 3) := by decide +kernel
theorem dX2_nearest_78 : decode cX2_nearest 78 = .ok (.goto (-47), 3) := by decide +kernel
theorem dX2_nearest_81 : decode cX2_nearest 81 = .ok (.iconst (-1), 1) := by decide +kernel
theorem dX2_nearest_82 : decode cX2_nearest 82 = .ok (.ireturn, 1) := by decide +kernel
set_option maxRecDepth 20000 in
theorem ggX2_find_X0_exists : GoodIn wsX2_find wsX0_exists := goodIn_r _ [6, 7, 66, 67, 68, 69, 70, 71, 72, 73, 74, 75] (by decide +kernel) (by decide +kernel)
set_option maxRecDepth 20000 in
theorem gX2_find_X0_exists : GoodIn wsX2_find (wsV RX2 72 RX0 yX0_exists wsX0_exists) := goodIn_app (goodIn_of _ (by decide +kernel)) ggX2_find_X0_exists
set_option maxRecDepth 20000 in
theorem ggX2_find_X2_firstInRow : GoodIn wsX2_find wsX2_firstInRow := goodIn_r _ [12, 1, 13, 14, 15, 16, 5, 17, 18, 19, 20, 21, 22, 23, 24, 11, 25, 26, 27, 28, 29, 30, 31, 32, 33, 64, 65, 66, 67, 68, 69, 70, 71, 72, 73, 74, 75, 76, 77, 78, 79, 80, 81, 82] (by decide +kernel) (by decide +kernel)
set_option maxRecDepth 20000 in
theorem gX2_find_X2_firstInRow : GoodIn wsX2_find (wsV RX2 103 RX2 yX2_firstInRow wsX2_firstInRow) := goodIn_app (goodIn_of _ (by decide +kernel)) ggX2_find_X2_firstInRow
set_option maxRecDepth 20000 in
theorem ggX2_find_X2_onlyConcreteNearest : GoodIn wsX2_find wsX2_onlyConcreteNearest := goodIn_r _ [37, 1, 38, 13, 39, 40, 41, 11, 42, 43, 44, 45, 46, 5, 47, 48, 49, 26, 27, 28, 29, 30, 31, 32, 33, 50, 51, 52, 53, 54, 24, 25, 55, 56, 57, 58, 59, 64, 65, 66, 67, 68, 69, 70, 71, 72, 73, 74, 75, 76, 77, 78, 79, 80, 81, 82] (by decide +kernel) (by decide +kernel)
set_option maxRecDepth 20000 in
theorem gX2_find_X2_onlyConcreteNearest : GoodIn wsX2_find (wsV RX2 106 RX2 yX2_onlyConcreteNearest wsX2_onlyConcreteNearest) := goodIn_app (goodIn_of _ (by decide +kernel)) ggX2_find_X2_onlyConcreteNearest
set_option maxRecDepth 20000 in
theorem ggX2_find_X2_firstInFaces : GoodIn wsX2_find wsX2_firstInFaces := goodIn_r _ [63, 1, 38, 13, 44, 45, 46, 5, 47, 48, 49, 26, 27, 28, 29, 30, 31, 32, 33, 64, 65, 66, 67, 68, 69, 70, 71, 72, 73, 74, 75, 76, 77, 78, 79, 80, 81, 82] (by decide +kernel) (by decide +kernel)
set_option maxRecDepth 20000 in
theorem gX2_find_X2_firstInFaces : GoodIn wsX2_find (wsV RX2 109 RX2 yX2_firstInFaces wsX2_firstInFaces) := goodIn_app (goodIn_of _ (by decide +kernel)) ggX2_find_X2_firstInFaces
theorem dX2_find_0 : decode cX2_find 0 = .ok (.aload_n 0, 1) := by decide +kernel
theorem dX2_find_1 : decode cX2_find 1 = .ok (.getfield 10, 3) := by decide +kernel
theorem dX2_find_4 : decode cX2_find 4 = .ok (.iload_n 1, 1) := by decide +kernel
theorem dX2_find_5 : decode cX2_find 5 = .ok (.invokevirtual 72, 3) := by decide +kernel
theorem dX2_find_8 : decode cX2_find 8 = .ok (.ifCond .ne 6, 3) := by decide +kernel
theorem dX2_find_11 : decode cX2_find 11 = .ok (.bipush (-14), 2) := by decide +kernel
theorem dX2_find_13 : decode cX2_find 13 = .ok (.ireturn, 1) := by decide +kernel
theorem dX2_find_14 : decode cX2_find 14 = .ok (.aload_n 0, 1) := by decide +kernel
theorem dX2_find_15 : decode cX2_find 15 = .ok (.iload_n 1, 1) := by decide +kernel
theorem dX2_find_16 : decode cX2_find 16 = .ok (.iload_n 2, 1) := by decide +kernel
theorem dX2_find_17 : decode cX2_find 17 = .ok (.invokevirtual 103, 3) := by decide +kernel
theorem dX2_find_20 : decode cX2_find 20 = .ok (.istore_n 3, 1) := by decide +kernel
theorem dX2_find_21 : decode cX2_find 21 = .ok (.iload_n 3, 1) := by decide +kernel
theorem dX2_find_22 : decode cX2_find 22 = .ok (.iconst (-1), 1) := by decide +kernel
theorem dX2_find_23 : decode cX2_find 23 = .ok (.if_icmp .eq 5, 3) := by decide +kernel
theorem dX2_find_26 : decode cX2_find 26 = .ok (.iload_n 3, 1) := by decide +kernel
theorem dX2_find_27 : decode cX2_find 27 = .ok (.ireturn, 1) := by decide +kernel
theorem dX2_find_28 : decode cX2_find 28 = .ok (.aload_n 0, 1) := by decide +kernel
theorem dX2_find_29 : decode cX2_find 29 = .ok (.iload_n 1, 1) := by decide +kernel
theorem dX2_find_30 : decode cX2_find 30 = .ok (.iload_n 2, 1) := by decide +kernel
theorem dX2_find_31 : decode cX2_find 31 = .ok (.invokevirtual 106, 3) := by decide +kernel
theorem dX2_find_34 : decode cX2_find 34 = .ok (.istore 4, 2) := by decide +kernel
theorem dX2_find_36 : decode cX2_find 36 = .ok (.iload 4, 2) := by decide +kernel
theorem dX2_find_38 : decode cX2_find 38 = .ok (.ifCond .lt 8, 3) := by decide +kernel
theorem dX2_find_41 : decode cX2_find 41 = .ok (.iload 4, 2) := by decide +kernel
theorem dX2_find_43 : decode cX2_find 43 = .ok (.goto 9, 3) := by decide +kernel
theorem dX2_find_46 : decode cX2_find 46 = .ok (.aload_n 0, 1) := by decide +kernel
theorem dX2_find_47 : decode cX2_find 47 = .ok (.iload_n 1, 1) := by decide +kernel
theorem dX2_find_48 : decode cX2_find 48 = .ok (.iload_n 2, 1) := by decide +kernel
theorem dX2_find_49 : decode cX2_find 49 = .ok (.invokevirtual 109, 3) := by decide +kernel
theorem dX2_find_52 : decode cX2_find 52 = .ok (.ireturn, 1) := by decide +kernel
set_option maxRecDepth 20000 in
theorem ggX2_choose_X0_isPlain : GoodIn wsX2_choose wsX0_isPlain := goodIn_r _ [9, 10, 11, 12, 13, 8, 14, 15, 122, 123, 124, 125, 126, 127, 128, 129, 130, 131] (by decide +kernel) (by decide +kernel)
set_option maxRecDepth 20000 in
theorem gX2_choose_X0_isPlain : GoodIn wsX2_choose (wsV RX2 23 RX0 yX0_isPlain wsX0_isPlain) := goodIn_app (goodIn_of _ (by decide +kernel)) ggX2_choose_X0_isPlain
set_option maxRecDepth 20000 in
theorem ggX2_choose_X1_exists : GoodIn wsX2_choose wsX1_exists := goodIn_r _ [20, 21, 115, 116, 117, 118, 119, 120, 121] (by decide +kernel) (by decide +kernel)
set_option maxRecDepth 20000 in
theorem gX2_choose_X1_exists : GoodIn wsX2_choose (wsV RX2 85 RX1 yX1_exists wsX1_exists) := goodIn_app (goodIn_of _ (by decide +kernel)) ggX2_choose_X1_exists
set_option maxRecDepth 20000 in
theorem ggX2_choose_X1_isStatic : GoodIn wsX2_choose wsX1_isStatic := goodIn_r _ [25, 26, 115, 116, 117, 118, 119, 120, 121] (by decide +kernel) (by decide +kernel)
set_option maxRecDepth 20000 in
theorem gX2_choose_X1_isStatic : GoodIn wsX2_choose (wsV RX2 112 RX1 yX1_isStatic wsX1_isStatic) := goodIn_app (goodIn_of _ (by decide +kernel)) ggX2_choose_X1_isStatic
set_option maxRecDepth 20000 in
theorem ggX2_choose_X2_isBelow : GoodIn wsX2_choose wsX2_isBelow := goodIn_r _ [31, 1, 32, 12, 13, 8, 14, 15, 33, 34, 35, 36, 37, 38, 30, 39, 113, 114, 122, 123, 124, 125, 126, 127, 128, 129, 130, 131] (by decide +kernel) (by decide +kernel)
set_option maxRecDepth 20000 in
theorem gX2_choose_X2_isBelow : GoodIn wsX2_choose (wsV RX2 118 RX2 yX2_isBelow wsX2_isBelow) := goodIn_app (goodIn_of _ (by decide +kernel)) ggX2_choose_X2_isBelow
set_option maxRecDepth 20000 in
theorem ggX2_choose_X1_isPrivate : GoodIn wsX2_choose wsX1_isPrivate := goodIn_r _ [43, 44, 115, 116, 117, 118, 119, 120, 121] (by decide +kernel) (by decide +kernel)
set_option maxRecDepth 20000 in
theorem gX2_choose_X1_isPrivate : GoodIn wsX2_choose (wsV RX2 121 RX1 yX1_isPrivate wsX1_isPrivate) := goodIn_app (goodIn_of _ (by decide +kernel)) ggX2_choose_X1_isPrivate
set_option maxRecDepth 20000 in
theorem ggX2_choose_X2_firstReplacing : GoodIn wsX2_choose wsX2_firstReplacing := goodIn_r _ [48, 1, 2, 4, 49, 50, 51, 8, 52, 10, 53, 34, 35, 36, 37, 38, 30, 39, 54, 55, 56, 19, 57, 58, 59, 60, 61, 62, 63, 64, 65, 3, 66, 67, 68, 69, 70, 71, 72, 73, 74, 23, 24, 25, 26, 75, 41, 42, 43, 44, 76, 77, 78, 79, 80, 81, 82, 83, 113, 114, 115, 116, 117, 118, 119, 120, 121, 122, 123, 124, 125, 126, 127, 128, 129, 130, 131] (by decide +kernel) (by decide +kernel)
set_option maxRecDepth 20000 in
theorem gX2_choose_X2_firstReplacing : GoodIn wsX2_choose (wsV RX2 124 RX2 yX2_firstReplacing wsX2_firstReplacing) := goodIn_app (goodIn_of _ (by decide +kernel)) ggX2_choose_X2_firstReplacing
set_option maxRecDepth 20000 in
theorem ggX2_choose_X2_unlessAbstract : GoodIn wsX2_choose wsX2_unlessAbstract := goodIn_r _ [87, 2, 88, 89, 90, 19, 91, 26, 113, 114, 115, 116, 117, 118, 119, 120, 121] (by decide +kernel) (by decide +kernel)
set_option maxRecDepth 20000 in
theorem gX2_choose_X2_unlessAbstract : GoodIn wsX2_choose (wsV RX2 127 RX2 yX2_unlessAbstract wsX2_unlessAbstract) := goodIn_app (goodIn_of _ (by decide +kernel)) ggX2_choose_X2_unlessAbstract
set_option maxRecDepth 20000 in
theorem ggX2_choose_X2_onlyConcreteNearest : GoodIn wsX2_choose wsX2_onlyConcreteNearest := goodIn_r _ [95, 1, 96, 2, 97, 98, 99, 30, 100, 101, 102, 103, 104, 8, 105, 106, 107, 54, 55, 56, 19, 57, 58, 59, 60, 108, 109, 110, 111, 112, 38, 39, 88, 89, 90, 91, 26, 113, 114, 122, 123, 124, 125, 126, 127, 128, 129, 130, 131, 115, 116, 117, 118, 119, 120, 121] (by decide +kernel) (by decide +kernel)
set_option maxRecDepth 20000 in
theorem gX2_choose_X2_onlyConcreteNearest : GoodIn wsX2_choose (wsV RX2 106 RX2 yX2_onlyConcreteNearest wsX2_onlyConcreteNearest) := goodIn_app (goodIn_of _ (by decide +kernel)) ggX2_choose_X2_onlyConcreteNearest
theorem dX2_choose_0 : decode cX2_choose 0 = .ok (.aload_n 0, 1) := by decide +kernel
theorem dX2_choose_1 : decode cX2_choose 1 = .ok (.getfield 10, 3) := by decide +kernel
theorem dX2_choose_4 : decode cX2_choose 4 = .ok (.iload_n 1, 1) := by decide +kernel
theorem dX2_choose_5 : decode cX2_choose 5 = .ok (.invokevirtual 23, 3) := by decide +kernel
theorem dX2_choose_8 : decode cX2_choose 8 = .ok (.ifCond .eq 25, 3) := by decide +kernel
theorem dX2_choose_11 : decode cX2_choose 11 = .ok (.aload_n 0, 1) := by decide +kernel
theorem dX2_choose_12 : decode cX2_choose 12 = .ok (.getfield 19, 3) := by decide +kernel
theorem dX2_choose_15 : decode cX2_choose 15 = .ok (.iload_n 2, 1) := by decide +kernel
theorem dX2_choose_16 : decode cX2_choose 16 = .ok (.invokevirtual 85, 3) := by decide +kernel
theorem dX2_choose_19 : decode cX2_choose 19 = .ok (.ifCond .eq 14, 3) := by decide +kernel
theorem dX2_choose_22 : decode cX2_choose 22 = .ok (.aload_n 0, 1) := by decide +kernel
theorem dX2_choose_23 : decode cX2_choose 23 = .ok (.getfield 19, 3) := by decide +kernel
theorem dX2_choose_26 : decode cX2_choose 26 = .ok (.iload_n 2, 1) := by decide +kernel
theorem dX2_choose_27 : decode cX2_choose 27 = .ok (.invokevirtual 112, 3) := by decide +kernel
theorem dX2_choose_30 : decode cX2_choose 30 = .ok (.ifCond .eq 6, 3) := by decide +kernel
theorem dX2_choose_33 : decode cX2_choose 33 = .ok (.bipush (-14), 2) := by decide +kernel
theorem dX2_choose_35 : decode cX2_choose 35 = .ok (.ireturn, 1) := by decide +kernel
theorem dX2_choose_36 : decode cX2_choose 36 = .ok (.aload_n 0, 1) := by decide +kernel
theorem dX2_choose_37 : decode cX2_choose 37 = .ok (.iload_n 1, 1) := by decide +kernel
theorem dX2_choose_38 : decode cX2_choose 38 = .ok (.aload_n 0, 1) := by decide +kernel
theorem dX2_choose_39 : decode cX2_choose 39 = .ok (.getfield 19, 3) := by decide +kernel
theorem dX2_choose_42 : decode cX2_choose 42 = .ok (.getfield 115, 3) := by decide +kernel
theorem dX2_choose_45 : decode cX2_choose 45 = .ok (.iload_n 2, 1) := by decide +kernel
theorem dX2_choose_46 : decode cX2_choose 46 = .ok (.iaload, 1) := by decide +kernel
theorem dX2_choose_47 : decode cX2_choose 47 = .ok (.invokevirtual 118, 3) := by decide +kernel
theorem dX2_choose_50 : decode cX2_choose 50 = .ok (.ifCond .ne 6, 3) := by decide +kernel
theorem dX2_choose_53 : decode cX2_choose 53 = .ok (.bipush (-14), 2) := by decide +kernel
theorem dX2_choose_55 : decode cX2_choose 55 = .ok (.ireturn, 1) := by decide +kernel
theorem dX2_choose_56 : decode cX2_choose 56 = .ok (.aload_n 0, 1) := by decide +kernel
theorem dX2_choose_57 : decode cX2_choose 57 = .ok (.getfield 19, 3) := by decide +kernel
theorem dX2_choose_60 : decode cX2_choose 60 = .ok (.iload_n 2, 1) := by decide +kernel
theorem dX2_choose_61 : decode cX2_choose 61 = .ok (.invokevirtual 121, 3) := by decide +kernel
theorem dX2_choose_64 : decode cX2_choose 64 = .ok (.ifCond .eq 5, 3) := by decide +kernel
theorem dX2_choose_67 : decode cX2_choose 67 = .ok (.iload_n 2, 1) := by decide +kernel
theorem dX2_choose_68 : decode cX2_choose 68 = .ok (.ireturn, 1) := by decide +kernel
theorem dX2_choose_69 : decode cX2_choose 69 = .ok (.aload_n 0, 1) := by decide +kernel
theorem dX2_choose_70 : decode cX2_choose 70 = .ok (.iload_n 1, 1) := by decide +kernel
theorem dX2_choose_71 : decode cX2_choose 71 = .ok (.iload_n 2, 1) := by decide +kernel
theorem dX2_choose_72 : decode cX2_choose 72 = .ok (.invokevirtual 124, 3) := by decide +kernel
theorem dX2_choose_75 : decode cX2_choose 75 = .ok (.istore_n 3, 1) := by decide +kernel
theorem dX2_choose_76 : decode cX2_choose 76 = .ok (.iload_n 3, 1) := by decide +kernel
theorem dX2_choose_77 : decode cX2_choose 77 = .ok (.iconst (-1), 1) := by decide +kernel
theorem dX2_choose_78 : decode cX2_choose 78 = .ok (.if_icmp .eq 9, 3) := by decide +kernel
theorem dX2_choose_81 : decode cX2_choose 81 = .ok (.aload_n 0, 1) := by decide +kernel
theorem dX2_choose_82 : decode cX2_choose 82 = .ok (.iload_n 3, 1) := by decide +kernel
theorem dX2_choose_83 : decode cX2_choose 83 = .ok (.invokevirtual 127, 3) := by decide +kernel
theorem dX2_choose_86 : decode cX2_choose 86 = .ok (.ireturn, 1) := by decide +kernel
theorem dX2_choose_87 : decode cX2_choose 87 = .ok (.aload_n 0, 1) := by decide +kernel
theorem dX2_choose_88 : decode cX2_choose 88 = .ok (.iload_n 1, 1) := by decide +kernel
theorem dX2_choose_89 : decode cX2_choose 89 = .ok (.aload_n 0, 1) := by decide +kernel
theorem dX2_choose_90 : decode cX2_choose 90 = .ok (.getfield 19, 3) := by decide +kernel
theorem dX2_choose_93 : decode cX2_choose 93 = .ok (.getfield 131, 3) := by decide +kernel
theorem dX2_choose_96 : decode cX2_choose 96 = .ok (.iload_n 2, 1) := by decide +kernel
theorem dX2_choose_97 : decode cX2_choose 97 = .ok (.iaload, 1) := by decide +kernel
theorem dX2_choose_98 : decode cX2_choose 98 = .ok (.invokevirtual 106, 3) := by decide +kernel
theorem dX2_choose_101 : decode cX2_choose 101 = .ok (.istore 4, 2) := by decide +kernel
theorem dX2_choose_103 : decode cX2_choose 103 = .ok (.iload 4, 2) := by decide +kernel
theorem dX2_choose_105 : decode cX2_choose 105 = .ok (.iconst (-1), 1) := by decide +kernel
theorem dX2_choose_106 : decode cX2_choose 106 = .ok (.if_icmp .ne 8, 3) := by decide +kernel
theorem dX2_choose_109 : decode cX2_choose 109 = .ok (.bipush (-25), 2) := by decide +kernel
theorem dX2_choose_111 : decode cX2_choose 111 = .ok (.goto 5, 3) := by decide +kernel
theorem dX2_choose_114 : decode cX2_choose 114 = .ok (.iload 4, 2) := by decide +kernel
theorem dX2_choose_116 : decode cX2_choose 116 = .ok (.ireturn, 1) := by decide +kernel
set_option maxRecDepth 20000 in
theorem ggX2_special_X0_isPlain : GoodIn wsX2_special wsX0_isPlain := goodIn_r _ [8, 9, 10, 11, 12, 7, 13, 14, 94, 95, 96, 97, 98, 99, 100, 101, 102, 103] (by decide +kernel) (by decide +kernel)
set_option maxRecDepth 20000 in
theorem gX2_special_X0_isPlain : GoodIn wsX2_special (wsV RX2 23 RX0 yX0_isPlain wsX0_isPlain) := goodIn_app (goodIn_of _ (by decide +kernel)) ggX2_special_X0_isPlain
set_option maxRecDepth 20000 in
theorem ggX2_special_X2_find : GoodIn wsX2_special wsX2_find := goodIn_r _ [19, 1, 20, 11, 12, 7, 13, 14, 21, 22, 23, 18, 24, 2, 25, 26, 27, 28, 9, 29, 30, 31, 32, 33, 34, 35, 36, 37, 38, 39, 40, 41, 42, 43, 44, 45, 46, 47, 48, 49, 50, 51, 52, 53, 54, 55, 56, 57, 58, 59, 60, 61, 62, 63, 64, 65, 66, 67, 68, 69, 70, 71, 72, 73, 92, 93, 94, 95, 96, 97, 98, 99, 100, 101, 102, 103, 104, 105, 106, 107, 108, 109, 110] (by decide +kernel) (by decide +kernel)
set_option maxRecDepth 20000 in
theorem gX2_special_X2_find : GoodIn wsX2_special (wsV RX2 134 RX2 yX2_find wsX2_find) := goodIn_app (goodIn_of _ (by decide +kernel)) ggX2_special_X2_find
set_option maxRecDepth 20000 in
theorem ggX2_special_X1_isStatic : GoodIn wsX2_special wsX1_isStatic := goodIn_r _ [77, 69, 104, 105, 106, 107, 108, 109, 110] (by decide +kernel) (by decide +kernel)
set_option maxRecDepth 20000 in
theorem gX2_special_X1_isStatic : GoodIn wsX2_special (wsV RX2 112 RX1 yX1_isStatic wsX1_isStatic) := goodIn_app (goodIn_of _ (by decide +kernel)) ggX2_special_X1_isStatic
set_option maxRecDepth 20000 in
theorem ggX2_special_X1_isPrivate : GoodIn wsX2_special wsX1_isPrivate := goodIn_r _ [81, 82, 104, 105, 106, 107, 108, 109, 110] (by decide +kernel) (by decide +kernel)
set_option maxRecDepth 20000 in
theorem gX2_special_X1_isPrivate : GoodIn wsX2_special (wsV RX2 121 RX1 yX1_isPrivate wsX1_isPrivate) := goodIn_app (goodIn_of _ (by decide +kernel)) ggX2_special_X1_isPrivate
set_option maxRecDepth 20000 in
theorem ggX2_special_X0_below : GoodIn wsX2_special wsX0_below := goodIn_r _ [32, 33, 34, 18, 35, 94, 95, 96, 97, 98, 99, 100, 101, 102, 103] (by decide +kernel) (by decide +kernel)
set_option maxRecDepth 20000 in
theorem gX2_special_X0_below : GoodIn wsX2_special (wsV RX2 75 RX0 yX0_below wsX0_below) := goodIn_app (goodIn_of _ (by decide +kernel)) ggX2_special_X0_below
set_option maxRecDepth 20000 in
theorem ggX2_special_X2_firstInstanceInRow : GoodIn wsX2_special wsX2_firstInstanceInRow := goodIn_r _ [87, 1, 2, 25, 26, 27, 7, 28, 9, 29, 30, 31, 32, 33, 34, 18, 35, 36, 37, 38, 39, 40, 41, 42, 43, 74, 75, 76, 77, 69, 92, 93, 94, 95, 96, 97, 98, 99, 100, 101, 102, 103, 104, 105, 106, 107, 108, 109, 110] (by decide +kernel) (by decide +kernel)
set_option maxRecDepth 20000 in
theorem gX2_special_X2_firstInstanceInRow : GoodIn wsX2_special (wsV RX2 140 RX2 yX2_firstInstanceInRow wsX2_firstInstanceInRow) := goodIn_app (goodIn_of _ (by decide +kernel)) ggX2_special_X2_firstInstanceInRow
set_option maxRecDepth 20000 in
theorem ggX2_special_X2_unlessAbstract : GoodIn wsX2_special wsX2_unlessAbstract := goodIn_r _ [91, 2, 65, 66, 67, 39, 68, 69, 92, 93, 104, 105, 106, 107, 108, 109, 110] (by decide +kernel) (by decide +kernel)
set_option maxRecDepth 20000 in
theorem gX2_special_X2_unlessAbstract : GoodIn wsX2_special (wsV RX2 127 RX2 yX2_unlessAbstract wsX2_unlessAbstract) := goodIn_app (goodIn_of _ (by decide +kernel)) ggX2_special_X2_unlessAbstract
set_option maxRecDepth 20000 in
theorem ggX2_special_X2_onlyConcreteNearest : GoodIn wsX2_special wsX2_onlyConcreteNearest := goodIn_r _ [47, 1, 48, 2, 49, 50, 51, 18, 52, 53, 54, 55, 56, 7, 57, 58, 59, 36, 37, 38, 39, 40, 41, 42, 43, 60, 61, 62, 63, 64, 34, 35, 65, 66, 67, 68, 69, 92, 93, 94, 95, 96, 97, 98, 99, 100, 101, 102, 103, 104, 105, 106, 107, 108, 109, 110] (by decide +kernel) (by decide +kernel)
set_option maxRecDepth 20000 in
theorem gX2_special_X2_onlyConcreteNearest : GoodIn wsX2_special (wsV RX2 106 RX2 yX2_onlyConcreteNearest wsX2_onlyConcreteNearest) := goodIn_app (goodIn_of _ (by decide +kernel)) ggX2_special_X2_onlyConcreteNearest
theorem dX2_special_0 : decode cX2_special 0 = .ok (.aload_n 0, 1) := by decide +kernel
theorem dX2_special_1 : decode cX2_special 1 = .ok (.getfield 10, 3) := by decide +kernel
theorem dX2_special_4 : decode cX2_special 4 = .ok (.iload_n 1, 1) := by decide +kernel
theorem dX2_special_5 : decode cX2_special 5 = .ok (.invokevirtual 23, 3) := by decide +kernel
theorem dX2_special_8 : decode cX2_special 8 = .ok (.ifCond .eq 14, 3) := by decide +kernel
theorem dX2_special_11 : decode cX2_special 11 = .ok (.aload_n 0, 1) := by decide +kernel
theorem dX2_special_12 : decode cX2_special 12 = .ok (.getfield 10, 3) := by decide +kernel
theorem dX2_special_15 : decode cX2_special 15 = .ok (.iload_n 2, 1) := by decide +kernel
theorem dX2_special_16 : decode cX2_special 16 = .ok (.invokevirtual 23, 3) := by decide +kernel
theorem dX2_special_19 : decode cX2_special 19 = .ok (.ifCond .ne 6, 3) := by decide +kernel
theorem dX2_special_22 : decode cX2_special 22 = .ok (.bipush (-14), 2) := by decide +kernel
theorem dX2_special_24 : decode cX2_special 24 = .ok (.ireturn, 1) := by decide +kernel
theorem dX2_special_25 : decode cX2_special 25 = .ok (.aload_n 0, 1) := by decide +kernel
theorem dX2_special_26 : decode cX2_special 26 = .ok (.iload_n 2, 1) := by decide +kernel
theorem dX2_special_27 : decode cX2_special 27 = .ok (.iload_n 3, 1) := by decide +kernel
theorem dX2_special_28 : decode cX2_special 28 = .ok (.invokevirtual 134, 3) := by decide +kernel
theorem dX2_special_31 : decode cX2_special 31 = .ok (.istore 4, 2) := by decide +kernel
theorem dX2_special_33 : decode cX2_special 33 = .ok (.iload 4, 2) := by decide +kernel
theorem dX2_special_35 : decode cX2_special 35 = .ok (.ifCond .ge 6, 3) := by decide +kernel
theorem dX2_special_38 : decode cX2_special 38 = .ok (.bipush (-12), 2) := by decide +kernel
theorem dX2_special_40 : decode cX2_special 40 = .ok (.ireturn, 1) := by decide +kernel
theorem dX2_special_41 : decode cX2_special 41 = .ok (.aload_n 0, 1) := by decide +kernel
theorem dX2_special_42 : decode cX2_special 42 = .ok (.getfield 19, 3) := by decide +kernel
theorem dX2_special_45 : decode cX2_special 45 = .ok (.iload 4, 2) := by decide +kernel
theorem dX2_special_47 : decode cX2_special 47 = .ok (.invokevirtual 112, 3) := by decide +kernel
theorem dX2_special_50 : decode cX2_special 50 = .ok (.ifCond .eq 6, 3) := by decide +kernel
theorem dX2_special_53 : decode cX2_special 53 = .ok (.bipush (-21), 2) := by decide +kernel
theorem dX2_special_55 : decode cX2_special 55 = .ok (.ireturn, 1) := by decide +kernel
theorem dX2_special_56 : decode cX2_special 56 = .ok (.aload_n 0, 1) := by decide +kernel
theorem dX2_special_57 : decode cX2_special 57 = .ok (.getfield 19, 3) := by decide +kernel
theorem dX2_special_60 : decode cX2_special 60 = .ok (.iload 4, 2) := by decide +kernel
theorem dX2_special_62 : decode cX2_special 62 = .ok (.invokevirtual 121, 3) := by decide +kernel
theorem dX2_special_65 : decode cX2_special 65 = .ok (.ifCond .ne 15, 3) := by decide +kernel
theorem dX2_special_68 : decode cX2_special 68 = .ok (.aload_n 0, 1) := by decide +kernel
theorem dX2_special_69 : decode cX2_special 69 = .ok (.getfield 10, 3) := by decide +kernel
theorem dX2_special_72 : decode cX2_special 72 = .ok (.iload_n 1, 1) := by decide +kernel
theorem dX2_special_73 : decode cX2_special 73 = .ok (.iload_n 2, 1) := by decide +kernel
theorem dX2_special_74 : decode cX2_special 74 = .ok (.invokevirtual 75, 3) := by decide +kernel
theorem dX2_special_77 : decode cX2_special 77 = .ok (.ifCond .ne 7, 3) := by decide +kernel
theorem dX2_special_80 : decode cX2_special 80 = .ok (.iconst 1, 1) := by decide +kernel
theorem dX2_special_81 : decode cX2_special 81 = .ok (.goto 4, 3) := by decide +kernel
theorem dX2_special_84 : decode cX2_special 84 = .ok (.iconst 0, 1) := by decide +kernel
theorem dX2_special_85 : decode cX2_special 85 = .ok (.istore 5, 2) := by decide +kernel
theorem dX2_special_87 : decode cX2_special 87 = .ok (.iload 5, 2) := by decide +kernel
theorem dX2_special_89 : decode cX2_special 89 = .ok (.ifCond .eq 7, 3) := by decide +kernel
theorem dX2_special_92 : decode cX2_special 92 = .ok (.iload_n 2, 1) := by decide +kernel
theorem dX2_special_93 : decode cX2_special 93 = .ok (.goto 12, 3) := by decide +kernel
theorem dX2_special_96 : decode cX2_special 96 = .ok (.aload_n 0, 1) := by decide +kernel
theorem dX2_special_97 : decode cX2_special 97 = .ok (.getfield 10, 3) := by decide +kernel
theorem dX2_special_100 : decode cX2_special 100 = .ok (.getfield 137, 3) := by decide +kernel
theorem dX2_special_103 : decode cX2_special 103 = .ok (.iload_n 1, 1) := by decide +kernel
theorem dX2_special_104 : decode cX2_special 104 = .ok (.iaload, 1) := by decide +kernel
theorem dX2_special_105 : decode cX2_special 105 = .ok (.istore 6, 2) := by decide +kernel
theorem dX2_special_107 : decode cX2_special 107 = .ok (.aload_n 0, 1) := by decide +kernel
theorem dX2_special_108 : decode cX2_special 108 = .ok (.iload 6, 2) := by decide +kernel
theorem dX2_special_110 : decode cX2_special 110 = .ok (.iload_n 3, 1) := by decide +kernel
theorem dX2_special_111 : decode cX2_special 111 = .ok (.invokevirtual 140, 3) := by decide +kernel
theorem dX2_special_114 : decode cX2_special 114 = .ok (.istore 7, 2) := by decide +kernel
theorem dX2_special_116 : decode cX2_special 116 = .ok (.iload 7, 2) := by decide +kernel
theorem dX2_special_118 : decode cX2_special 118 = .ok (.iconst (-1), 1) := by decide +kernel
theorem dX2_special_119 : decode cX2_special 119 = .ok (.if_icmp .eq 10, 3) := by decide +kernel
theorem dX2_special_122 : decode cX2_special 122 = .ok (.aload_n 0, 1) := by decide +kernel
theorem dX2_special_123 : decode cX2_special 123 = .ok (.iload 7, 2) := by decide +kernel
theorem dX2_special_125 : decode cX2_special 125 = .ok (.invokevirtual 127, 3) := by decide +kernel
theorem dX2_special_128 : decode cX2_special 128 = .ok (.ireturn, 1) := by decide +kernel
theorem dX2_special_129 : decode cX2_special 129 = .ok (.aload_n 0, 1) := by decide +kernel
theorem dX2_special_130 : decode cX2_special 130 = .ok (.iload 6, 2) := by decide +kernel
theorem dX2_special_132 : decode cX2_special 132 = .ok (.iload_n 3, 1) := by decide +kernel
theorem dX2_special_133 : decode cX2_special 133 = .ok (.invokevirtual 106, 3) := by decide +kernel
theorem dX2_special_136 : decode cX2_special 136 = .ok (.istore 8, 2) := by decide +kernel
theorem dX2_special_138 : decode cX2_special 138 = .ok (.iload 8, 2) := by decide +kernel
theorem dX2_special_140 : decode cX2_special 140 = .ok (.ifCond .lt 8, 3) := by decide +kernel
theorem dX2_special_143 : decode cX2_special 143 = .ok (.iload 8, 2) := by decide +kernel
theorem dX2_special_145 : decode cX2_special 145 = .ok (.goto 5, 3) := by decide +kernel
theorem dX2_special_148 : decode cX2_special 148 = .ok (.bipush (-25), 2) := by decide +kernel
theorem dX2_special_150 : decode cX2_special 150 = .ok (.ireturn, 1) := by decide +kernel
set_option maxRecDepth 20000 in
theorem ggX2_kin_X1_exists : GoodIn wsX2_kin wsX1_exists := goodIn_r _ [7, 8, 76, 77, 78, 79, 80, 81, 82] (by decide +kernel) (by decide +kernel)
set_option maxRecDepth 20000 in
theorem gX2_kin_X1_exists : GoodIn wsX2_kin (wsV RX2 85 RX1 yX1_exists wsX1_exists) := goodIn_app (goodIn_of _ (by decide +kernel)) ggX2_kin_X1_exists
set_option maxRecDepth 20000 in
theorem ggX2_kin_X2_replacesFromBelow : GoodIn wsX2_kin wsX2_replacesFromBelow := goodIn_r _ [13, 14, 1, 15, 16, 17, 18, 19, 20, 21, 22, 12, 23, 24, 25, 26, 27, 28, 29, 30, 31, 32, 33, 34, 35, 36, 6, 37, 38, 39, 40, 41, 42, 43, 44, 45, 46, 47, 48, 49, 50, 51, 52, 53, 54, 55, 56, 57, 58, 59, 60, 61, 62, 63, 64, 65, 66, 67, 68, 74, 75, 76, 77, 78, 79, 80, 81, 82, 83, 84, 85, 86, 87, 88, 89, 90, 91, 92] (by decide +kernel) (by decide +kernel)
set_option maxRecDepth 20000 in
theorem gX2_kin_X2_replacesFromBelow : GoodIn wsX2_kin (wsV RX2 143 RX2 yX2_replacesFromBelow wsX2_replacesFromBelow) := goodIn_app (goodIn_of _ (by decide +kernel)) ggX2_kin_X2_replacesFromBelow
set_option maxRecDepth 20000 in
theorem ggX2_kin_X2_replacesOfPlain : GoodIn wsX2_kin wsX2_replacesOfPlain := goodIn_r _ [72, 14, 73, 1, 15, 24, 25, 26, 12, 27, 28, 29, 30, 31, 32, 33, 34, 35, 36, 6, 37, 38, 39, 40, 41, 42, 43, 44, 45, 46, 47, 48, 49, 50, 51, 52, 53, 54, 55, 56, 57, 58, 19, 59, 60, 61, 17, 18, 20, 21, 22, 23, 62, 63, 64, 65, 66, 67, 68, 74, 75, 83, 84, 85, 86, 87, 88, 89, 90, 91, 92, 76, 77, 78, 79, 80, 81, 82] (by decide +kernel) (by decide +kernel)
set_option maxRecDepth 20000 in
theorem gX2_kin_X2_replacesOfPlain : GoodIn wsX2_kin (wsV RX2 146 RX2 yX2_replacesOfPlain wsX2_replacesOfPlain) := goodIn_app (goodIn_of _ (by decide +kernel)) ggX2_kin_X2_replacesOfPlain
theorem dX2_kin_0 : decode cX2_kin 0 = .ok (.aload_n 0, 1) := by decide +kernel
theorem dX2_kin_1 : decode cX2_kin 1 = .ok (.getfield 19, 3) := by decide +kernel
theorem dX2_kin_4 : decode cX2_kin 4 = .ok (.iload_n 1, 1) := by decide +kernel
theorem dX2_kin_5 : decode cX2_kin 5 = .ok (.invokevirtual 85, 3) := by decide +kernel
theorem dX2_kin_8 : decode cX2_kin 8 = .ok (.ifCond .ne 5, 3) := by decide +kernel
theorem dX2_kin_11 : decode cX2_kin 11 = .ok (.iconst (-1), 1) := by decide +kernel
theorem dX2_kin_12 : decode cX2_kin 12 = .ok (.ireturn, 1) := by decide +kernel
theorem dX2_kin_13 : decode cX2_kin 13 = .ok (.iconst 0, 1) := by decide +kernel
theorem dX2_kin_14 : decode cX2_kin 14 = .ok (.istore_n 2, 1) := by decide +kernel
theorem dX2_kin_15 : decode cX2_kin 15 = .ok (.iconst 0, 1) := by decide +kernel
theorem dX2_kin_16 : decode cX2_kin 16 = .ok (.istore_n 3, 1) := by decide +kernel
theorem dX2_kin_17 : decode cX2_kin 17 = .ok (.iload_n 3, 1) := by decide +kernel
theorem dX2_kin_18 : decode cX2_kin 18 = .ok (.aload_n 0, 1) := by decide +kernel
theorem dX2_kin_19 : decode cX2_kin 19 = .ok (.getfield 19, 3) := by decide +kernel
theorem dX2_kin_22 : decode cX2_kin 22 = .ok (.getfield 68, 3) := by decide +kernel
theorem dX2_kin_25 : decode cX2_kin 25 = .ok (.if_icmp .ge 30, 3) := by decide +kernel
theorem dX2_kin_28 : decode cX2_kin 28 = .ok (.aload_n 0, 1) := by decide +kernel
theorem dX2_kin_29 : decode cX2_kin 29 = .ok (.iload_n 3, 1) := by decide +kernel
theorem dX2_kin_30 : decode cX2_kin 30 = .ok (.iload_n 1, 1) := by decide +kernel
theorem dX2_kin_31 : decode cX2_kin 31 = .ok (.invokevirtual 143, 3) := by decide +kernel
theorem dX2_kin_34 : decode cX2_kin 34 = .ok (.ifCond .ne 12, 3) := by decide +kernel
theorem dX2_kin_37 : decode cX2_kin 37 = .ok (.aload_n 0, 1) := by decide +kernel
theorem dX2_kin_38 : decode cX2_kin 38 = .ok (.iload_n 1, 1) := by decide +kernel
theorem dX2_kin_39 : decode cX2_kin 39 = .ok (.iload_n 3, 1) := by decide +kernel
theorem dX2_kin_40 : decode cX2_kin 40 = .ok (.invokevirtual 146, 3) := by decide +kernel
theorem dX2_kin_43 : decode cX2_kin 43 = .ok (.ifCond .eq 6, 3) := by decide +kernel
theorem dX2_kin_46 : decode cX2_kin 46 = .ok (.iinc 2 1, 3) := by decide +kernel
theorem dX2_kin_49 : decode cX2_kin 49 = .ok (.iinc 3 1, 3) := by decide +kernel
theorem dX2_kin_52 : decode cX2_kin 52 = .ok (.goto (-35), 3) := by decide +kernel
theorem dX2_kin_55 : decode cX2_kin 55 = .ok (.iload_n 2, 1) := by decide +kernel
theorem dX2_kin_56 : decode cX2_kin 56 = .ok (.ireturn, 1) := by decide +kernel
theorem dX2_fits_0 : decode cX2_fits 0 = .ok (.iload_n 0, 1) := by decide +kernel
theorem dX2_fits_1 : decode cX2_fits 1 = .ok (.ifCond .lt 17, 3) := by decide +kernel
theorem dX2_fits_4 : decode cX2_fits 4 = .ok (.iload_n 0, 1) := by decide +kernel
theorem dX2_fits_5 : decode cX2_fits 5 = .ok (.iconst 3, 1) := by decide +kernel
theorem dX2_fits_6 : decode cX2_fits 6 = .ok (.if_icmp .gt 12, 3) := by decide +kernel
theorem dX2_fits_9 : decode cX2_fits 9 = .ok (.iload_n 1, 1) := by decide +kernel
theorem dX2_fits_10 : decode cX2_fits 10 = .ok (.ifCond .lt 8, 3) := by decide +kernel
theorem dX2_fits_13 : decode cX2_fits 13 = .ok (.iload_n 1, 1) := by decide +kernel
theorem dX2_fits_14 : decode cX2_fits 14 = .ok (.iconst 4, 1) := by decide +kernel
theorem dX2_fits_15 : decode cX2_fits 15 = .ok (.if_icmp .le 5, 3) := by decide +kernel
theorem dX2_fits_18 : decode cX2_fits 18 = .ok (.iconst 0, 1) := by decide +kernel
theorem dX2_fits_19 : decode cX2_fits 19 = .ok (.ireturn, 1) := by decide +kernel
theorem dX2_fits_20 : decode cX2_fits 20 = .ok (.iload_n 2, 1) := by decide +kernel
theorem dX2_fits_21 : decode cX2_fits 21 = .ok (.ifCond .eq 23, 3) := by decide +kernel
theorem dX2_fits_24 : decode cX2_fits 24 = .ok (.iload_n 0, 1) := by decide +kernel
theorem dX2_fits_25 : decode cX2_fits 25 = .ok (.iconst 1, 1) := by decide +kernel
theorem dX2_fits_26 : decode cX2_fits 26 = .ok (.if_icmp .ne 16, 3) := by decide +kernel
theorem dX2_fits_29 : decode cX2_fits 29 = .ok (.iload_n 1, 1) := by decide +kernel
theorem dX2_fits_30 : decode cX2_fits 30 = .ok (.ifCond .eq 8, 3) := by decide +kernel
theorem dX2_fits_33 : decode cX2_fits 33 = .ok (.iload_n 1, 1) := by decide +kernel
theorem dX2_fits_34 : decode cX2_fits 34 = .ok (.iconst 4, 1) := by decide +kernel
theorem dX2_fits_35 : decode cX2_fits 35 = .ok (.if_icmp .ne 7, 3) := by decide +kernel
theorem dX2_fits_38 : decode cX2_fits 38 = .ok (.iconst 1, 1) := by decide +kernel
theorem dX2_fits_39 : decode cX2_fits 39 = .ok (.goto 4, 3) := by decide +kernel
theorem dX2_fits_42 : decode cX2_fits 42 = .ok (.iconst 0, 1) := by decide +kernel
theorem dX2_fits_43 : decode cX2_fits 43 = .ok (.ireturn, 1) := by decide +kernel
theorem dX2_fits_44 : decode cX2_fits 44 = .ok (.iload_n 1, 1) := by decide +kernel
theorem dX2_fits_45 : decode cX2_fits 45 = .ok (.iconst 4, 1) := by decide +kernel
theorem dX2_fits_46 : decode cX2_fits 46 = .ok (.if_icmp .ne 8, 3) := by decide +kernel
theorem dX2_fits_49 : decode cX2_fits 49 = .ok (.iload_n 0, 1) := by decide +kernel
theorem dX2_fits_50 : decode cX2_fits 50 = .ok (.iconst 3, 1) := by decide +kernel
theorem dX2_fits_51 : decode cX2_fits 51 = .ok (.if_icmp .eq 7, 3) := by decide +kernel
theorem dX2_fits_54 : decode cX2_fits 54 = .ok (.iconst 1, 1) := by decide +kernel
theorem dX2_fits_55 : decode cX2_fits 55 = .ok (.goto 4, 3) := by decide +kernel
theorem dX2_fits_58 : decode cX2_fits 58 = .ok (.iconst 0, 1) := by decide +kernel
theorem dX2_fits_59 : decode cX2_fits 59 = .ok (.ireturn, 1) := by decide +kernel
set_option maxRecDepth 20000 in
theorem ggX2_replaces_X2_couldReplace : GoodIn wsX2_replaces wsX2_couldReplace := goodIn_r _ [9, 1, 10, 11, 12, 13, 14, 15, 16, 17, 18, 19, 20, 21, 22, 23, 24, 25, 54, 55, 66, 67, 68, 69, 70, 71, 72] (by decide +kernel) (by decide +kernel)
set_option maxRecDepth 20000 in
theorem gX2_replaces_X2_couldReplace : GoodIn wsX2_replaces (wsV RX2 149 RX2 yX2_couldReplace wsX2_couldReplace) := goodIn_app (goodIn_of _ (by decide +kernel)) ggX2_replaces_X2_couldReplace
set_option maxRecDepth 20000 in
theorem ggX2_replaces_X1_isPublicOrProtected : GoodIn wsX2_replaces wsX1_isPublicOrProtected := goodIn_r _ [29, 25, 66, 67, 68, 69, 70, 71, 72] (by decide +kernel) (by decide +kernel)
set_option maxRecDepth 20000 in
theorem gX2_replaces_X1_isPublicOrProtected : GoodIn wsX2_replaces (wsV RX2 152 RX1 yX1_isPublicOrProtected wsX1_isPublicOrProtected) := goodIn_app (goodIn_of _ (by decide +kernel)) ggX2_replaces_X1_isPublicOrProtected
set_option maxRecDepth 20000 in
theorem ggX2_replaces_X2_replacesBetween : GoodIn wsX2_replaces wsX2_replacesBetween := goodIn_r _ [33, 1, 4, 2, 10, 3, 34, 35, 36, 37, 38, 39, 40, 41, 42, 43, 44, 45, 8, 46, 47, 48, 49, 14, 50, 51, 52, 53, 11, 12, 13, 15, 16, 17, 18, 19, 20, 21, 22, 23, 24, 25, 26, 27, 28, 29, 54, 55, 66, 67, 68, 69, 70, 71, 72, 56, 57, 58, 59, 60, 61, 62, 63, 64, 65] (by decide +kernel) (by decide +kernel)
set_option maxRecDepth 20000 in
theorem gX2_replaces_X2_replacesBetween : GoodIn wsX2_replaces (wsV RX2 158 RX2 yX2_replacesBetween wsX2_replacesBetween) := goodIn_app (goodIn_of _ (by decide +kernel)) ggX2_replaces_X2_replacesBetween
theorem dX2_replaces_0 : decode cX2_replaces 0 = .ok (.aload_n 0, 1) := by decide +kernel
theorem dX2_replaces_1 : decode cX2_replaces 1 = .ok (.iload_n 1, 1) := by decide +kernel
theorem dX2_replaces_2 : decode cX2_replaces 2 = .ok (.iload_n 2, 1) := by decide +kernel
theorem dX2_replaces_3 : decode cX2_replaces 3 = .ok (.invokevirtual 149, 3) := by decide +kernel
theorem dX2_replaces_6 : decode cX2_replaces 6 = .ok (.ifCond .ne 5, 3) := by decide +kernel
theorem dX2_replaces_9 : decode cX2_replaces 9 = .ok (.iconst 0, 1) := by decide +kernel
theorem dX2_replaces_10 : decode cX2_replaces 10 = .ok (.ireturn, 1) := by decide +kernel
theorem dX2_replaces_11 : decode cX2_replaces 11 = .ok (.aload_n 0, 1) := by decide +kernel
theorem dX2_replaces_12 : decode cX2_replaces 12 = .ok (.getfield 19, 3) := by decide +kernel
theorem dX2_replaces_15 : decode cX2_replaces 15 = .ok (.iload_n 2, 1) := by decide +kernel
theorem dX2_replaces_16 : decode cX2_replaces 16 = .ok (.invokevirtual 152, 3) := by decide +kernel
theorem dX2_replaces_19 : decode cX2_replaces 19 = .ok (.ifCond .ne 49, 3) := by decide +kernel
theorem dX2_replaces_22 : decode cX2_replaces 22 = .ok (.aload_n 0, 1) := by decide +kernel
theorem dX2_replaces_23 : decode cX2_replaces 23 = .ok (.getfield 10, 3) := by decide +kernel
theorem dX2_replaces_26 : decode cX2_replaces 26 = .ok (.getfield 155, 3) := by decide +kernel
theorem dX2_replaces_29 : decode cX2_replaces 29 = .ok (.aload_n 0, 1) := by decide +kernel
theorem dX2_replaces_30 : decode cX2_replaces 30 = .ok (.getfield 19, 3) := by decide +kernel
theorem dX2_replaces_33 : decode cX2_replaces 33 = .ok (.getfield 115, 3) := by decide +kernel
theorem dX2_replaces_36 : decode cX2_replaces 36 = .ok (.iload_n 1, 1) := by decide +kernel
theorem dX2_replaces_37 : decode cX2_replaces 37 = .ok (.iaload, 1) := by decide +kernel
theorem dX2_replaces_38 : decode cX2_replaces 38 = .ok (.iaload, 1) := by decide +kernel
theorem dX2_replaces_39 : decode cX2_replaces 39 = .ok (.aload_n 0, 1) := by decide +kernel
theorem dX2_replaces_40 : decode cX2_replaces 40 = .ok (.getfield 10, 3) := by decide +kernel
theorem dX2_replaces_43 : decode cX2_replaces 43 = .ok (.getfield 155, 3) := by decide +kernel
theorem dX2_replaces_46 : decode cX2_replaces 46 = .ok (.aload_n 0, 1) := by decide +kernel
theorem dX2_replaces_47 : decode cX2_replaces 47 = .ok (.getfield 19, 3) := by decide +kernel
theorem dX2_replaces_50 : decode cX2_replaces 50 = .ok (.getfield 115, 3) := by decide +kernel
theorem dX2_replaces_53 : decode cX2_replaces 53 = .ok (.iload_n 2, 1) := by decide +kernel
theorem dX2_replaces_54 : decode cX2_replaces 54 = .ok (.iaload, 1) := by decide +kernel
theorem dX2_replaces_55 : decode cX2_replaces 55 = .ok (.iaload, 1) := by decide +kernel
theorem dX2_replaces_56 : decode cX2_replaces 56 = .ok (.if_icmp .eq 12, 3) := by decide +kernel
theorem dX2_replaces_59 : decode cX2_replaces 59 = .ok (.aload_n 0, 1) := by decide +kernel
theorem dX2_replaces_60 : decode cX2_replaces 60 = .ok (.iload_n 1, 1) := by decide +kernel
theorem dX2_replaces_61 : decode cX2_replaces 61 = .ok (.iload_n 2, 1) := by decide +kernel
theorem dX2_replaces_62 : decode cX2_replaces 62 = .ok (.invokevirtual 158, 3) := by decide +kernel
theorem dX2_replaces_65 : decode cX2_replaces 65 = .ok (.ifCond .eq 7, 3) := by decide +kernel
theorem dX2_replaces_68 : decode cX2_replaces 68 = .ok (.iconst 1, 1) := by decide +kernel
theorem dX2_replaces_69 : decode cX2_replaces 69 = .ok (.goto 4, 3) := by decide +kernel
theorem dX2_replaces_72 : decode cX2_replaces 72 = .ok (.iconst 0, 1) := by decide +kernel
theorem dX2_replaces_73 : decode cX2_replaces 73 = .ok (.ireturn, 1) := by decide +kernel
set_option maxRecDepth 20000 in
theorem ggX2_couldReplace_X1_isVirtual : GoodIn wsX2_couldReplace wsX1_isVirtual := goodIn_r _ [7, 8, 9, 10, 6, 11, 12, 13, 14, 15, 16, 17, 20, 21, 22, 23, 24, 25, 26] (by decide +kernel) (by decide +kernel)
set_option maxRecDepth 20000 in
theorem gX2_couldReplace_X1_isVirtual : GoodIn wsX2_couldReplace (wsV RX2 161 RX1 yX1_isVirtual wsX1_isVirtual) := goodIn_app (goodIn_of _ (by decide +kernel)) ggX2_couldReplace_X1_isVirtual
theorem dX2_couldReplace_0 : decode cX2_couldReplace 0 = .ok (.iload_n 1, 1) := by decide +kernel
theorem dX2_couldReplace_1 : decode cX2_couldReplace 1 = .ok (.iload_n 2, 1) := by decide +kernel
theorem dX2_couldReplace_2 : decode cX2_couldReplace 2 = .ok (.if_icmp .eq 50, 3) := by decide +kernel
theorem dX2_couldReplace_5 : decode cX2_couldReplace 5 = .ok (.aload_n 0, 1) := by decide +kernel
theorem dX2_couldReplace_6 : decode cX2_couldReplace 6 = .ok (.getfield 19, 3) := by decide +kernel
theorem dX2_couldReplace_9 : decode cX2_couldReplace 9 = .ok (.getfield 131, 3) := by decide +kernel
theorem dX2_couldReplace_12 : decode cX2_couldReplace 12 = .ok (.iload_n 1, 1) := by decide +kernel
theorem dX2_couldReplace_13 : decode cX2_couldReplace 13 = .ok (.iaload, 1) := by decide +kernel
theorem dX2_couldReplace_14 : decode cX2_couldReplace 14 = .ok (.aload_n 0, 1) := by decide +kernel
theorem dX2_couldReplace_15 : decode cX2_couldReplace 15 = .ok (.getfield 19, 3) := by decide +kernel
theorem dX2_couldReplace_18 : decode cX2_couldReplace 18 = .ok (.getfield 131, 3) := by decide +kernel
theorem dX2_couldReplace_21 : decode cX2_couldReplace 21 = .ok (.iload_n 2, 1) := by decide +kernel
theorem dX2_couldReplace_22 : decode cX2_couldReplace 22 = .ok (.iaload, 1) := by decide +kernel
theorem dX2_couldReplace_23 : decode cX2_couldReplace 23 = .ok (.if_icmp .ne 29, 3) := by decide +kernel
theorem dX2_couldReplace_26 : decode cX2_couldReplace 26 = .ok (.aload_n 0, 1) := by decide +kernel
theorem dX2_couldReplace_27 : decode cX2_couldReplace 27 = .ok (.getfield 19, 3) := by decide +kernel
theorem dX2_couldReplace_30 : decode cX2_couldReplace 30 = .ok (.iload_n 1, 1) := by decide +kernel
theorem dX2_couldReplace_31 : decode cX2_couldReplace 31 = .ok (.invokevirtual 161, 3) := by decide +kernel
theorem dX2_couldReplace_34 : decode cX2_couldReplace 34 = .ok (.ifCond .eq 18, 3) := by decide +kernel
theorem dX2_couldReplace_37 : decode cX2_couldReplace 37 = .ok (.aload_n 0, 1) := by decide +kernel
theorem dX2_couldReplace_38 : decode cX2_couldReplace 38 = .ok (.getfield 19, 3) := by decide +kernel
theorem dX2_couldReplace_41 : decode cX2_couldReplace 41 = .ok (.iload_n 2, 1) := by decide +kernel
theorem dX2_couldReplace_42 : decode cX2_couldReplace 42 = .ok (.invokevirtual 161, 3) := by decide +kernel
theorem dX2_couldReplace_45 : decode cX2_couldReplace 45 = .ok (.ifCond .eq 7, 3) := by decide +kernel
theorem dX2_couldReplace_48 : decode cX2_couldReplace 48 = .ok (.iconst 1, 1) := by decide +kernel
theorem dX2_couldReplace_49 : decode cX2_couldReplace 49 = .ok (.goto 4, 3) := by decide +kernel
theorem dX2_couldReplace_52 : decode cX2_couldReplace 52 = .ok (.iconst 0, 1) := by decide +kernel
theorem dX2_couldReplace_53 : decode cX2_couldReplace 53 = .ok (.ireturn, 1) := by decide +kernel
set_option maxRecDepth 20000 in
theorem ggX2_replacesBetween_X0_inRow : GoodIn wsX2_replacesBetween wsX0_inRow := goodIn_r _ [10, 11, 12, 13, 14, 9, 15, 16, 17, 18, 19, 55, 56, 57, 58, 59, 60, 61, 62, 63, 64] (by decide +kernel) (by decide +kernel)
set_option maxRecDepth 20000 in
theorem gX2_replacesBetween_X0_inRow : GoodIn wsX2_replacesBetween (wsV RX2 164 RX0 yX0_inRow wsX0_inRow) := goodIn_app (goodIn_of _ (by decide +kernel)) ggX2_replacesBetween_X0_inRow
set_option maxRecDepth 20000 in
theorem ggX2_replacesBetween_X1_inClass : GoodIn wsX2_replacesBetween wsX1_inClass := goodIn_r _ [24, 25, 26, 27, 48, 49, 50, 51, 52, 53, 54] (by decide +kernel) (by decide +kernel)
set_option maxRecDepth 20000 in
theorem gX2_replacesBetween_X1_inClass : GoodIn wsX2_replacesBetween (wsV RX2 64 RX1 yX1_inClass wsX1_inClass) := goodIn_app (goodIn_of _ (by decide +kernel)) ggX2_replacesBetween_X1_inClass
set_option maxRecDepth 20000 in
theorem ggX2_replacesBetween_X1_isVirtual : GoodIn wsX2_replacesBetween wsX1_isVirtual := goodIn_r _ [31, 32, 33, 34, 23, 35, 36, 37, 38, 39, 40, 41, 48, 49, 50, 51, 52, 53, 54] (by decide +kernel) (by decide +kernel)
set_option maxRecDepth 20000 in
theorem gX2_replacesBetween_X1_isVirtual : GoodIn wsX2_replacesBetween (wsV RX2 161 RX1 yX1_isVirtual wsX1_isVirtual) := goodIn_app (goodIn_of _ (by decide +kernel)) ggX2_replacesBetween_X1_isVirtual
set_option maxRecDepth 20000 in
theorem ggX2_replacesBetween_X1_isPublicOrProtected : GoodIn wsX2_replacesBetween wsX1_isPublicOrProtected := goodIn_r _ [45, 41, 48, 49, 50, 51, 52, 53, 54] (by decide +kernel) (by decide +kernel)
set_option maxRecDepth 20000 in
theorem gX2_replacesBetween_X1_isPublicOrProtected : GoodIn wsX2_replacesBetween (wsV RX2 152 RX1 yX1_isPublicOrProtected wsX1_isPublicOrProtected) := goodIn_app (goodIn_of _ (by decide +kernel)) ggX2_replacesBetween_X1_isPublicOrProtected
theorem dX2_replacesBetween_0 : decode cX2_replacesBetween 0 = .ok (.aload_n 0, 1) := by decide +kernel
theorem dX2_replacesBetween_1 : decode cX2_replacesBetween 1 = .ok (.getfield 19, 3) := by decide +kernel
theorem dX2_replacesBetween_4 : decode cX2_replacesBetween 4 = .ok (.getfield 115, 3) := by decide +kernel
theorem dX2_replacesBetween_7 : decode cX2_replacesBetween 7 = .ok (.iload_n 1, 1) := by decide +kernel
theorem dX2_replacesBetween_8 : decode cX2_replacesBetween 8 = .ok (.iaload, 1) := by decide +kernel
theorem dX2_replacesBetween_9 : decode cX2_replacesBetween 9 = .ok (.istore_n 3, 1) := by decide +kernel
theorem dX2_replacesBetween_10 : decode cX2_replacesBetween 10 = .ok (.aload_n 0, 1) := by decide +kernel
theorem dX2_replacesBetween_11 : decode cX2_replacesBetween 11 = .ok (.getfield 19, 3) := by decide +kernel
theorem dX2_replacesBetween_14 : decode cX2_replacesBetween 14 = .ok (.getfield 115, 3) := by decide +kernel
theorem dX2_replacesBetween_17 : decode cX2_replacesBetween 17 = .ok (.iload_n 2, 1) := by decide +kernel
theorem dX2_replacesBetween_18 : decode cX2_replacesBetween 18 = .ok (.iaload, 1) := by decide +kernel
theorem dX2_replacesBetween_19 : decode cX2_replacesBetween 19 = .ok (.istore 4, 2) := by decide +kernel
theorem dX2_replacesBetween_21 : decode cX2_replacesBetween 21 = .ok (.iload_n 3, 1) := by decide +kernel
theorem dX2_replacesBetween_22 : decode cX2_replacesBetween 22 = .ok (.iconst 1, 1) := by decide +kernel
theorem dX2_replacesBetween_23 : decode cX2_replacesBetween 23 = .ok (.isub, 1) := by decide +kernel
theorem dX2_replacesBetween_24 : decode cX2_replacesBetween 24 = .ok (.istore 5, 2) := by decide +kernel
theorem dX2_replacesBetween_26 : decode cX2_replacesBetween 26 = .ok (.iload 5, 2) := by decide +kernel
theorem dX2_replacesBetween_28 : decode cX2_replacesBetween 28 = .ok (.ifCond .lt 109, 3) := by decide +kernel
theorem dX2_replacesBetween_31 : decode cX2_replacesBetween 31 = .ok (.aload_n 0, 1) := by decide +kernel
theorem dX2_replacesBetween_32 : decode cX2_replacesBetween 32 = .ok (.getfield 10, 3) := by decide +kernel
theorem dX2_replacesBetween_35 : decode cX2_replacesBetween 35 = .ok (.iload_n 3, 1) := by decide +kernel
theorem dX2_replacesBetween_36 : decode cX2_replacesBetween 36 = .ok (.iload 5, 2) := by decide +kernel
theorem dX2_replacesBetween_38 : decode cX2_replacesBetween 38 = .ok (.invokevirtual 164, 3) := by decide +kernel
theorem dX2_replacesBetween_41 : decode cX2_replacesBetween 41 = .ok (.ifCond .ne 6, 3) := by decide +kernel
theorem dX2_replacesBetween_44 : decode cX2_replacesBetween 44 = .ok (.goto 87, 3) := by decide +kernel
theorem dX2_replacesBetween_47 : decode cX2_replacesBetween 47 = .ok (.iload 5, 2) := by decide +kernel
theorem dX2_replacesBetween_49 : decode cX2_replacesBetween 49 = .ok (.iload 4, 2) := by decide +kernel
theorem dX2_replacesBetween_51 : decode cX2_replacesBetween 51 = .ok (.if_icmp .ne 5, 3) := by decide +kernel
theorem dX2_replacesBetween_54 : decode cX2_replacesBetween 54 = .ok (.iconst 0, 1) := by decide +kernel
theorem dX2_replacesBetween_55 : decode cX2_replacesBetween 55 = .ok (.ireturn, 1) := by decide +kernel
theorem dX2_replacesBetween_56 : decode cX2_replacesBetween 56 = .ok (.aload_n 0, 1) := by decide +kernel
theorem dX2_replacesBetween_57 : decode cX2_replacesBetween 57 = .ok (.getfield 19, 3) := by decide +kernel
theorem dX2_replacesBetween_60 : decode cX2_replacesBetween 60 = .ok (.iload 5, 2) := by decide +kernel
theorem dX2_replacesBetween_62 : decode cX2_replacesBetween 62 = .ok (.aload_n 0, 1) := by decide +kernel
theorem dX2_replacesBetween_63 : decode cX2_replacesBetween 63 = .ok (.getfield 19, 3) := by decide +kernel
theorem dX2_replacesBetween_66 : decode cX2_replacesBetween 66 = .ok (.getfield 131, 3) := by decide +kernel
theorem dX2_replacesBetween_69 : decode cX2_replacesBetween 69 = .ok (.iload_n 1, 1) := by decide +kernel
theorem dX2_replacesBetween_70 : decode cX2_replacesBetween 70 = .ok (.iaload, 1) := by decide +kernel
theorem dX2_replacesBetween_71 : decode cX2_replacesBetween 71 = .ok (.invokevirtual 64, 3) := by decide +kernel
theorem dX2_replacesBetween_74 : decode cX2_replacesBetween 74 = .ok (.istore 6, 2) := by decide +kernel
theorem dX2_replacesBetween_76 : decode cX2_replacesBetween 76 = .ok (.iload 6, 2) := by decide +kernel
theorem dX2_replacesBetween_78 : decode cX2_replacesBetween 78 = .ok (.iconst (-1), 1) := by decide +kernel
theorem dX2_replacesBetween_79 : decode cX2_replacesBetween 79 = .ok (.if_icmp .eq 52, 3) := by decide +kernel
theorem dX2_replacesBetween_82 : decode cX2_replacesBetween 82 = .ok (.aload_n 0, 1) := by decide +kernel
theorem dX2_replacesBetween_83 : decode cX2_replacesBetween 83 = .ok (.getfield 10, 3) := by decide +kernel
theorem dX2_replacesBetween_86 : decode cX2_replacesBetween 86 = .ok (.getfield 155, 3) := by decide +kernel
theorem dX2_replacesBetween_89 : decode cX2_replacesBetween 89 = .ok (.iload 5, 2) := by decide +kernel
theorem dX2_replacesBetween_91 : decode cX2_replacesBetween 91 = .ok (.iaload, 1) := by decide +kernel
theorem dX2_replacesBetween_92 : decode cX2_replacesBetween 92 = .ok (.aload_n 0, 1) := by decide +kernel
theorem dX2_replacesBetween_93 : decode cX2_replacesBetween 93 = .ok (.getfield 10, 3) := by decide +kernel
theorem dX2_replacesBetween_96 : decode cX2_replacesBetween 96 = .ok (.getfield 155, 3) := by decide +kernel
theorem dX2_replacesBetween_99 : decode cX2_replacesBetween 99 = .ok (.iload 4, 2) := by decide +kernel
theorem dX2_replacesBetween_101 : decode cX2_replacesBetween 101 = .ok (.iaload, 1) := by decide +kernel
theorem dX2_replacesBetween_102 : decode cX2_replacesBetween 102 = .ok (.if_icmp .ne 29, 3) := by decide +kernel
theorem dX2_replacesBetween_105 : decode cX2_replacesBetween 105 = .ok (.aload_n 0, 1) := by decide +kernel
theorem dX2_replacesBetween_106 : decode cX2_replacesBetween 106 = .ok (.getfield 19, 3) := by decide +kernel
theorem dX2_replacesBetween_109 : decode cX2_replacesBetween 109 = .ok (.iload 6, 2) := by decide +kernel
theorem dX2_replacesBetween_111 : decode cX2_replacesBetween 111 = .ok (.invokevirtual 161, 3) := by decide +kernel
theorem dX2_replacesBetween_114 : decode cX2_replacesBetween 114 = .ok (.ifCond .eq 17, 3) := by decide +kernel
theorem dX2_replacesBetween_117 : decode cX2_replacesBetween 117 = .ok (.aload_n 0, 1) := by decide +kernel
theorem dX2_replacesBetween_118 : decode cX2_replacesBetween 118 = .ok (.getfield 19, 3) := by decide +kernel
theorem dX2_replacesBetween_121 : decode cX2_replacesBetween 121 = .ok (.iload 6, 2) := by decide +kernel
theorem dX2_replacesBetween_123 : decode cX2_replacesBetween 123 = .ok (.invokevirtual 152, 3) := by decide +kernel
theorem dX2_replacesBetween_126 : decode cX2_replacesBetween 126 = .ok (.ifCond .eq 5, 3) := by decide +kernel
theorem dX2_replacesBetween_129 : decode cX2_replacesBetween 129 = .ok (.iconst 1, 1) := by decide +kernel
theorem dX2_replacesBetween_130 : decode cX2_replacesBetween 130 = .ok (.ireturn, 1) := by decide +kernel
theorem dX2_replacesBetween_131 : decode cX2_replacesBetween 131 = .ok (.iinc 5 (-1), 3) := by decide +kernel
theorem dX2_replacesBetween_134 : decode cX2_replacesBetween 134 = .ok (.goto (-108), 3) := by decide +kernel
theorem dX2_replacesBetween_137 : decode cX2_replacesBetween 137 = .ok (.iconst 0, 1) := by decide +kernel
theorem dX2_replacesBetween_138 : decode cX2_replacesBetween 138 = .ok (.ireturn, 1) := by decide +kernel
set_option maxRecDepth 20000 in
theorem ggX2_replacesFinal_X0_inRow : GoodIn wsX2_replacesFinal wsX0_inRow := goodIn_r _ [9, 10, 11, 12, 13, 8, 14, 15, 16, 17, 18, 71, 72, 73, 74, 75, 76, 77, 78, 79, 80] (by decide +kernel) (by decide +kernel)
set_option maxRecDepth 20000 in
theorem gX2_replacesFinal_X0_inRow : GoodIn wsX2_replacesFinal (wsV RX2 164 RX0 yX0_inRow wsX0_inRow) := goodIn_app (goodIn_of _ (by decide +kernel)) ggX2_replacesFinal_X0_inRow
set_option maxRecDepth 20000 in
theorem ggX2_replacesFinal_X1_inClass : GoodIn wsX2_replacesFinal wsX1_inClass := goodIn_r _ [23, 24, 25, 26, 64, 65, 66, 67, 68, 69, 70] (by decide +kernel) (by decide +kernel)
set_option maxRecDepth 20000 in
theorem gX2_replacesFinal_X1_inClass : GoodIn wsX2_replacesFinal (wsV RX2 64 RX1 yX1_inClass wsX1_inClass) := goodIn_app (goodIn_of _ (by decide +kernel)) ggX2_replacesFinal_X1_inClass
set_option maxRecDepth 20000 in
theorem ggX2_replacesFinal_X1_isFinal : GoodIn wsX2_replacesFinal wsX1_isFinal := goodIn_r _ [30, 31, 64, 65, 66, 67, 68, 69, 70] (by decide +kernel) (by decide +kernel)
set_option maxRecDepth 20000 in
theorem gX2_replacesFinal_X1_isFinal : GoodIn wsX2_replacesFinal (wsV RX2 167 RX1 yX1_isFinal wsX1_isFinal) := goodIn_app (goodIn_of _ (by decide +kernel)) ggX2_replacesFinal_X1_isFinal
set_option maxRecDepth 20000 in
theorem ggX2_replacesFinal_X2_replaces : GoodIn wsX2_replacesFinal wsX2_replaces := goodIn_r _ [35, 1, 3, 36, 2, 37, 38, 39, 17, 40, 4, 41, 42, 43, 22, 44, 45, 46, 47, 48, 31, 49, 50, 51, 52, 53, 54, 55, 56, 57, 58, 59, 60, 61, 5, 6, 7, 8, 9, 10, 11, 12, 13, 14, 15, 16, 18, 19, 20, 21, 23, 24, 25, 26, 62, 63, 71, 72, 73, 74, 75, 76, 77, 78, 79, 80, 64, 65, 66, 67, 68, 69, 70] (by decide +kernel) (by decide +kernel)
set_option maxRecDepth 20000 in
theorem gX2_replacesFinal_X2_replaces : GoodIn wsX2_replacesFinal (wsV RX2 86 RX2 yX2_replaces wsX2_replaces) := goodIn_app (goodIn_of _ (by decide +kernel)) ggX2_replacesFinal_X2_replaces
theorem dX2_replacesFinal_0 : decode cX2_replacesFinal 0 = .ok (.aload_n 0, 1) := by decide +kernel
theorem dX2_replacesFinal_1 : decode cX2_replacesFinal 1 = .ok (.getfield 19, 3) := by decide +kernel
theorem dX2_replacesFinal_4 : decode cX2_replacesFinal 4 = .ok (.getfield 115, 3) := by decide +kernel
theorem dX2_replacesFinal_7 : decode cX2_replacesFinal 7 = .ok (.iload_n 1, 1) := by decide +kernel
theorem dX2_replacesFinal_8 : decode cX2_replacesFinal 8 = .ok (.iaload, 1) := by decide +kernel
theorem dX2_replacesFinal_9 : decode cX2_replacesFinal 9 = .ok (.istore_n 2, 1) := by decide +kernel
theorem dX2_replacesFinal_10 : decode cX2_replacesFinal 10 = .ok (.iload_n 2, 1) := by decide +kernel
theorem dX2_replacesFinal_11 : decode cX2_replacesFinal 11 = .ok (.iconst 1, 1) := by decide +kernel
theorem dX2_replacesFinal_12 : decode cX2_replacesFinal 12 = .ok (.isub, 1) := by decide +kernel
theorem dX2_replacesFinal_13 : decode cX2_replacesFinal 13 = .ok (.istore_n 3, 1) := by decide +kernel
theorem dX2_replacesFinal_14 : decode cX2_replacesFinal 14 = .ok (.iload_n 3, 1) := by decide +kernel
theorem dX2_replacesFinal_15 : decode cX2_replacesFinal 15 = .ok (.ifCond .lt 70, 3) := by decide +kernel
theorem dX2_replacesFinal_18 : decode cX2_replacesFinal 18 = .ok (.aload_n 0, 1) := by decide +kernel
theorem dX2_replacesFinal_19 : decode cX2_replacesFinal 19 = .ok (.getfield 10, 3) := by decide +kernel
theorem dX2_replacesFinal_22 : decode cX2_replacesFinal 22 = .ok (.iload_n 2, 1) := by decide +kernel
theorem dX2_replacesFinal_23 : decode cX2_replacesFinal 23 = .ok (.iload_n 3, 1) := by decide +kernel
theorem dX2_replacesFinal_24 : decode cX2_replacesFinal 24 = .ok (.invokevirtual 164, 3) := by decide +kernel
theorem dX2_replacesFinal_27 : decode cX2_replacesFinal 27 = .ok (.ifCond .eq 52, 3) := by decide +kernel
theorem dX2_replacesFinal_30 : decode cX2_replacesFinal 30 = .ok (.aload_n 0, 1) := by decide +kernel
theorem dX2_replacesFinal_31 : decode cX2_replacesFinal 31 = .ok (.getfield 19, 3) := by decide +kernel
theorem dX2_replacesFinal_34 : decode cX2_replacesFinal 34 = .ok (.iload_n 3, 1) := by decide +kernel
theorem dX2_replacesFinal_35 : decode cX2_replacesFinal 35 = .ok (.aload_n 0, 1) := by decide +kernel
theorem dX2_replacesFinal_36 : decode cX2_replacesFinal 36 = .ok (.getfield 19, 3) := by decide +kernel
theorem dX2_replacesFinal_39 : decode cX2_replacesFinal 39 = .ok (.getfield 131, 3) := by decide +kernel
theorem dX2_replacesFinal_42 : decode cX2_replacesFinal 42 = .ok (.iload_n 1, 1) := by decide +kernel
theorem dX2_replacesFinal_43 : decode cX2_replacesFinal 43 = .ok (.iaload, 1) := by decide +kernel
theorem dX2_replacesFinal_44 : decode cX2_replacesFinal 44 = .ok (.invokevirtual 64, 3) := by decide +kernel
theorem dX2_replacesFinal_47 : decode cX2_replacesFinal 47 = .ok (.istore 4, 2) := by decide +kernel
theorem dX2_replacesFinal_49 : decode cX2_replacesFinal 49 = .ok (.iload 4, 2) := by decide +kernel
theorem dX2_replacesFinal_51 : decode cX2_replacesFinal 51 = .ok (.iconst (-1), 1) := by decide +kernel
theorem dX2_replacesFinal_52 : decode cX2_replacesFinal 52 = .ok (.if_icmp .eq 27, 3) := by decide +kernel
theorem dX2_replacesFinal_55 : decode cX2_replacesFinal 55 = .ok (.aload_n 0, 1) := by decide +kernel
theorem dX2_replacesFinal_56 : decode cX2_replacesFinal 56 = .ok (.getfield 19, 3) := by decide +kernel
theorem dX2_replacesFinal_59 : decode cX2_replacesFinal 59 = .ok (.iload 4, 2) := by decide +kernel
theorem dX2_replacesFinal_61 : decode cX2_replacesFinal 61 = .ok (.invokevirtual 167, 3) := by decide +kernel
theorem dX2_replacesFinal_64 : decode cX2_replacesFinal 64 = .ok (.ifCond .eq 15, 3) := by decide +kernel
theorem dX2_replacesFinal_67 : decode cX2_replacesFinal 67 = .ok (.aload_n 0, 1) := by decide +kernel
theorem dX2_replacesFinal_68 : decode cX2_replacesFinal 68 = .ok (.iload_n 1, 1) := by decide +kernel
theorem dX2_replacesFinal_69 : decode cX2_replacesFinal 69 = .ok (.iload 4, 2) := by decide +kernel
theorem dX2_replacesFinal_71 : decode cX2_replacesFinal 71 = .ok (.invokevirtual 86, 3) := by decide +kernel
theorem dX2_replacesFinal_74 : decode cX2_replacesFinal 74 = .ok (.ifCond .eq 5, 3) := by decide +kernel
theorem dX2_replacesFinal_77 : decode cX2_replacesFinal 77 = .ok (.iconst 1, 1) := by decide +kernel
theorem dX2_replacesFinal_78 : decode cX2_replacesFinal 78 = .ok (.ireturn, 1) := by decide +kernel
theorem dX2_replacesFinal_79 : decode cX2_replacesFinal 79 = .ok (.iinc 3 (-1), 3) := by decide +kernel
theorem dX2_replacesFinal_82 : decode cX2_replacesFinal 82 = .ok (.goto (-68), 3) := by decide +kernel
theorem dX2_replacesFinal_85 : decode cX2_replacesFinal 85 = .ok (.iconst 0, 1) := by decide +kernel
theorem dX2_replacesFinal_86 : decode cX2_replacesFinal 86 = .ok (.ireturn, 1) := by decide +kernel
set_option maxRecDepth 20000 in
theorem ggX2_replacesFromBelow_X0_below : GoodIn wsX2_replacesFromBelow wsX0_below := goodIn_r _ [8, 9, 10, 11, 12, 68, 69, 70, 71, 72, 73, 74, 75, 76, 77] (by decide +kernel) (by decide +kernel)
set_option maxRecDepth 20000 in
theorem gX2_replacesFromBelow_X0_below : GoodIn wsX2_replacesFromBelow (wsV RX2 75 RX0 yX0_below wsX0_below) := goodIn_app (goodIn_of _ (by decide +kernel)) ggX2_replacesFromBelow_X0_below
set_option maxRecDepth 20000 in
theorem ggX2_replacesFromBelow_X2_replaces : GoodIn wsX2_replacesFromBelow wsX2_replaces := goodIn_r _ [16, 2, 1, 17, 3, 18, 19, 20, 11, 21, 22, 23, 24, 25, 26, 27, 28, 29, 30, 31, 32, 33, 34, 35, 36, 37, 38, 39, 40, 41, 42, 43, 44, 45, 46, 47, 48, 7, 49, 50, 51, 5, 6, 8, 9, 10, 12, 52, 53, 54, 55, 56, 57, 58, 59, 60, 68, 69, 70, 71, 72, 73, 74, 75, 76, 77, 61, 62, 63, 64, 65, 66, 67] (by decide +kernel) (by decide +kernel)
set_option maxRecDepth 20000 in
theorem gX2_replacesFromBelow_X2_replaces : GoodIn wsX2_replacesFromBelow (wsV RX2 86 RX2 yX2_replaces wsX2_replaces) := goodIn_app (goodIn_of _ (by decide +kernel)) ggX2_replacesFromBelow_X2_replaces
theorem dX2_replacesFromBelow_0 : decode cX2_replacesFromBelow 0 = .ok (.aload_n 0, 1) := by decide +kernel
theorem dX2_replacesFromBelow_1 : decode cX2_replacesFromBelow 1 = .ok (.getfield 10, 3) := by decide +kernel
theorem dX2_replacesFromBelow_4 : decode cX2_replacesFromBelow 4 = .ok (.aload_n 0, 1) := by decide +kernel
theorem dX2_replacesFromBelow_5 : decode cX2_replacesFromBelow 5 = .ok (.getfield 19, 3) := by decide +kernel
theorem dX2_replacesFromBelow_8 : decode cX2_replacesFromBelow 8 = .ok (.getfield 115, 3) := by decide +kernel
theorem dX2_replacesFromBelow_11 : decode cX2_replacesFromBelow 11 = .ok (.iload_n 1, 1) := by decide +kernel
theorem dX2_replacesFromBelow_12 : decode cX2_replacesFromBelow 12 = .ok (.iaload, 1) := by decide +kernel
theorem dX2_replacesFromBelow_13 : decode cX2_replacesFromBelow 13 = .ok (.aload_n 0, 1) := by decide +kernel
theorem dX2_replacesFromBelow_14 : decode cX2_replacesFromBelow 14 = .ok (.getfield 19, 3) := by decide +kernel
theorem dX2_replacesFromBelow_17 : decode cX2_replacesFromBelow 17 = .ok (.getfield 115, 3) := by decide +kernel
theorem dX2_replacesFromBelow_20 : decode cX2_replacesFromBelow 20 = .ok (.iload_n 2, 1) := by decide +kernel
theorem dX2_replacesFromBelow_21 : decode cX2_replacesFromBelow 21 = .ok (.iaload, 1) := by decide +kernel
theorem dX2_replacesFromBelow_22 : decode cX2_replacesFromBelow 22 = .ok (.invokevirtual 75, 3) := by decide +kernel
theorem dX2_replacesFromBelow_25 : decode cX2_replacesFromBelow 25 = .ok (.ifCond .eq 16, 3) := by decide +kernel
theorem dX2_replacesFromBelow_28 : decode cX2_replacesFromBelow 28 = .ok (.aload_n 0, 1) := by decide +kernel
theorem dX2_replacesFromBelow_29 : decode cX2_replacesFromBelow 29 = .ok (.iload_n 1, 1) := by decide +kernel
theorem dX2_replacesFromBelow_30 : decode cX2_replacesFromBelow 30 = .ok (.iload_n 2, 1) := by decide +kernel
theorem dX2_replacesFromBelow_31 : decode cX2_replacesFromBelow 31 = .ok (.invokevirtual 86, 3) := by decide +kernel
theorem dX2_replacesFromBelow_34 : decode cX2_replacesFromBelow 34 = .ok (.ifCond .eq 7, 3) := by decide +kernel
theorem dX2_replacesFromBelow_37 : decode cX2_replacesFromBelow 37 = .ok (.iconst 1, 1) := by decide +kernel
theorem dX2_replacesFromBelow_38 : decode cX2_replacesFromBelow 38 = .ok (.goto 4, 3) := by decide +kernel
theorem dX2_replacesFromBelow_41 : decode cX2_replacesFromBelow 41 = .ok (.iconst 0, 1) := by decide +kernel
theorem dX2_replacesFromBelow_42 : decode cX2_replacesFromBelow 42 = .ok (.ireturn, 1) := by decide +kernel
set_option maxRecDepth 20000 in
theorem ggX2_replacesOfPlain_X2_replaces : GoodIn wsX2_replacesOfPlain wsX2_replaces := goodIn_r _ [9, 3, 1, 10, 4, 11, 12, 13, 8, 14, 15, 16, 17, 18, 19, 20, 21, 22, 23, 24, 25, 26, 27, 28, 29, 30, 31, 32, 33, 34, 35, 36, 37, 38, 39, 40, 41, 42, 43, 44, 45, 46, 47, 48, 49, 50, 51, 52, 53, 54, 55, 56, 57, 58, 59, 60, 61, 62, 63, 64, 65, 66, 67, 68, 69, 70, 71, 72, 73, 74, 75, 76, 77] (by decide +kernel) (by decide +kernel)
set_option maxRecDepth 20000 in
theorem gX2_replacesOfPlain_X2_replaces : GoodIn wsX2_replacesOfPlain (wsV RX2 86 RX2 yX2_replaces wsX2_replaces) := goodIn_app (goodIn_of _ (by decide +kernel)) ggX2_replacesOfPlain_X2_replaces
theorem dX2_replacesOfPlain_0 : decode cX2_replacesOfPlain 0 = .ok (.aload_n 0, 1) := by decide +kernel
theorem dX2_replacesOfPlain_1 : decode cX2_replacesOfPlain 1 = .ok (.getfield 10, 3) := by decide +kernel
theorem dX2_replacesOfPlain_4 : decode cX2_replacesOfPlain 4 = .ok (.getfield 56, 3) := by decide +kernel
theorem dX2_replacesOfPlain_7 : decode cX2_replacesOfPlain 7 = .ok (.aload_n 0, 1) := by decide +kernel
theorem dX2_replacesOfPlain_8 : decode cX2_replacesOfPlain 8 = .ok (.getfield 19, 3) := by decide +kernel
theorem dX2_replacesOfPlain_11 : decode cX2_replacesOfPlain 11 = .ok (.getfield 115, 3) := by decide +kernel
theorem dX2_replacesOfPlain_14 : decode cX2_replacesOfPlain 14 = .ok (.iload_n 2, 1) := by decide +kernel
theorem dX2_replacesOfPlain_15 : decode cX2_replacesOfPlain 15 = .ok (.iaload, 1) := by decide +kernel
theorem dX2_replacesOfPlain_16 : decode cX2_replacesOfPlain 16 = .ok (.baload, 1) := by decide +kernel
theorem dX2_replacesOfPlain_17 : decode cX2_replacesOfPlain 17 = .ok (.ifCond .ne 16, 3) := by decide +kernel
theorem dX2_replacesOfPlain_20 : decode cX2_replacesOfPlain 20 = .ok (.aload_n 0, 1) := by decide +kernel
theorem dX2_replacesOfPlain_21 : decode cX2_replacesOfPlain 21 = .ok (.iload_n 1, 1) := by decide +kernel
theorem dX2_replacesOfPlain_22 : decode cX2_replacesOfPlain 22 = .ok (.iload_n 2, 1) := by decide +kernel
theorem dX2_replacesOfPlain_23 : decode cX2_replacesOfPlain 23 = .ok (.invokevirtual 86, 3) := by decide +kernel
theorem dX2_replacesOfPlain_26 : decode cX2_replacesOfPlain 26 = .ok (.ifCond .eq 7, 3) := by decide +kernel
theorem dX2_replacesOfPlain_29 : decode cX2_replacesOfPlain 29 = .ok (.iconst 1, 1) := by decide +kernel
theorem dX2_replacesOfPlain_30 : decode cX2_replacesOfPlain 30 = .ok (.goto 4, 3) := by decide +kernel
theorem dX2_replacesOfPlain_33 : decode cX2_replacesOfPlain 33 = .ok (.iconst 0, 1) := by decide +kernel
theorem dX2_replacesOfPlain_34 : decode cX2_replacesOfPlain 34 = .ok (.ireturn, 1) := by decide +kernel
set_option maxRecDepth 20000 in
theorem ggX2_firstInRow_X0_inRow : GoodIn wsX2_firstInRow wsX0_inRow := goodIn_r _ [7, 8, 9, 10, 11, 6, 12, 13, 14, 15, 16, 27, 28, 29, 30, 31, 32, 33, 34, 35, 36] (by decide +kernel) (by decide +kernel)
set_option maxRecDepth 20000 in
theorem gX2_firstInRow_X0_inRow : GoodIn wsX2_firstInRow (wsV RX2 164 RX0 yX0_inRow wsX0_inRow) := goodIn_app (goodIn_of _ (by decide +kernel)) ggX2_firstInRow_X0_inRow
set_option maxRecDepth 20000 in
theorem ggX2_firstInRow_X1_inClass : GoodIn wsX2_firstInRow wsX1_inClass := goodIn_r _ [21, 22, 23, 24, 37, 38, 39, 40, 41, 42, 43] (by decide +kernel) (by decide +kernel)
set_option maxRecDepth 20000 in
theorem gX2_firstInRow_X1_inClass : GoodIn wsX2_firstInRow (wsV RX2 64 RX1 yX1_inClass wsX1_inClass) := goodIn_app (goodIn_of _ (by decide +kernel)) ggX2_firstInRow_X1_inClass
theorem dX2_firstInRow_0 : decode cX2_firstInRow 0 = .ok (.iload_n 1, 1) := by decide +kernel
theorem dX2_firstInRow_1 : decode cX2_firstInRow 1 = .ok (.istore_n 3, 1) := by decide +kernel
theorem dX2_firstInRow_2 : decode cX2_firstInRow 2 = .ok (.iload_n 3, 1) := by decide +kernel
theorem dX2_firstInRow_3 : decode cX2_firstInRow 3 = .ok (.ifCond .lt 41, 3) := by decide +kernel
theorem dX2_firstInRow_6 : decode cX2_firstInRow 6 = .ok (.aload_n 0, 1) := by decide +kernel
theorem dX2_firstInRow_7 : decode cX2_firstInRow 7 = .ok (.getfield 10, 3) := by decide +kernel
theorem dX2_firstInRow_10 : decode cX2_firstInRow 10 = .ok (.iload_n 1, 1) := by decide +kernel
theorem dX2_firstInRow_11 : decode cX2_firstInRow 11 = .ok (.iload_n 3, 1) := by decide +kernel
theorem dX2_firstInRow_12 : decode cX2_firstInRow 12 = .ok (.invokevirtual 164, 3) := by decide +kernel
theorem dX2_firstInRow_15 : decode cX2_firstInRow 15 = .ok (.ifCond .eq 23, 3) := by decide +kernel
theorem dX2_firstInRow_18 : decode cX2_firstInRow 18 = .ok (.aload_n 0, 1) := by decide +kernel
theorem dX2_firstInRow_19 : decode cX2_firstInRow 19 = .ok (.getfield 19, 3) := by decide +kernel
theorem dX2_firstInRow_22 : decode cX2_firstInRow 22 = .ok (.iload_n 3, 1) := by decide +kernel
theorem dX2_firstInRow_23 : decode cX2_firstInRow 23 = .ok (.iload_n 2, 1) := by decide +kernel
theorem dX2_firstInRow_24 : decode cX2_firstInRow 24 = .ok (.invokevirtual 64, 3) := by decide +kernel
theorem dX2_firstInRow_27 : decode cX2_firstInRow 27 = .ok (.istore 4, 2) := by decide +kernel
theorem dX2_firstInRow_29 : decode cX2_firstInRow 29 = .ok (.iload 4, 2) := by decide +kernel
theorem dX2_firstInRow_31 : decode cX2_firstInRow 31 = .ok (.iconst (-1), 1) := by decide +kernel
theorem dX2_firstInRow_32 : decode cX2_firstInRow 32 = .ok (.if_icmp .eq 6, 3) := by decide +kernel
theorem dX2_firstInRow_35 : decode cX2_firstInRow 35 = .ok (.iload 4, 2) := by decide +kernel
theorem dX2_firstInRow_37 : decode cX2_firstInRow 37 = .ok (.ireturn, 1) := by decide +kernel
theorem dX2_firstInRow_38 : decode cX2_firstInRow 38 = .ok (.iinc 3 (-1), 3) := by decide +kernel
theorem dX2_firstInRow_41 : decode cX2_firstInRow 41 = .ok (.goto (-39), 3) := by decide +kernel
theorem dX2_firstInRow_44 : decode cX2_firstInRow 44 = .ok (.iconst (-1), 1) := by decide +kernel
theorem dX2_firstInRow_45 : decode cX2_firstInRow 45 = .ok (.ireturn, 1) := by decide +kernel
set_option maxRecDepth 20000 in
theorem ggX2_firstInstanceInRow_X0_inRow : GoodIn wsX2_firstInstanceInRow wsX0_inRow := goodIn_r _ [7, 8, 9, 10, 11, 6, 12, 13, 14, 15, 16, 32, 33, 34, 35, 36, 37, 38, 39, 40, 41] (by decide +kernel) (by decide +kernel)
set_option maxRecDepth 20000 in
theorem gX2_firstInstanceInRow_X0_inRow : GoodIn wsX2_firstInstanceInRow (wsV RX2 164 RX0 yX0_inRow wsX0_inRow) := goodIn_app (goodIn_of _ (by decide +kernel)) ggX2_firstInstanceInRow_X0_inRow
set_option maxRecDepth 20000 in
theorem ggX2_firstInstanceInRow_X1_inClass : GoodIn wsX2_firstInstanceInRow wsX1_inClass := goodIn_r _ [21, 22, 23, 24, 42, 43, 44, 45, 46, 47, 48] (by decide +kernel) (by decide +kernel)
set_option maxRecDepth 20000 in
theorem gX2_firstInstanceInRow_X1_inClass : GoodIn wsX2_firstInstanceInRow (wsV RX2 64 RX1 yX1_inClass wsX1_inClass) := goodIn_app (goodIn_of _ (by decide +kernel)) ggX2_firstInstanceInRow_X1_inClass
set_option maxRecDepth 20000 in
theorem ggX2_firstInstanceInRow_X1_isStatic : GoodIn wsX2_firstInstanceInRow wsX1_isStatic := goodIn_r _ [28, 29, 42, 43, 44, 45, 46, 47, 48] (by decide +kernel) (by decide +kernel)
set_option maxRecDepth 20000 in
theorem gX2_firstInstanceInRow_X1_isStatic : GoodIn wsX2_firstInstanceInRow (wsV RX2 112 RX1 yX1_isStatic wsX1_isStatic) := goodIn_app (goodIn_of _ (by decide +kernel)) ggX2_firstInstanceInRow_X1_isStatic
theorem dX2_firstInstanceInRow_0 : decode cX2_firstInstanceInRow 0 = .ok (.iload_n 1, 1) := by decide +kernel
theorem dX2_firstInstanceInRow_1 : decode cX2_firstInstanceInRow 1 = .ok (.istore_n 3, 1) := by decide +kernel
theorem dX2_firstInstanceInRow_2 : decode cX2_firstInstanceInRow 2 = .ok (.iload_n 3, 1) := by decide +kernel
theorem dX2_firstInstanceInRow_3 : decode cX2_firstInstanceInRow 3 = .ok (.ifCond .lt 53, 3) := by decide +kernel
theorem dX2_firstInstanceInRow_6 : decode cX2_firstInstanceInRow 6 = .ok (.aload_n 0, 1) := by decide +kernel
theorem dX2_firstInstanceInRow_7 : decode cX2_firstInstanceInRow 7 = .ok (.getfield 10, 3) := by decide +kernel
theorem dX2_firstInstanceInRow_10 : decode cX2_firstInstanceInRow 10 = .ok (.iload_n 1, 1) := by decide +kernel
theorem dX2_firstInstanceInRow_11 : decode cX2_firstInstanceInRow 11 = .ok (.iload_n 3, 1) := by decide +kernel
theorem dX2_firstInstanceInRow_12 : decode cX2_firstInstanceInRow 12 = .ok (.invokevirtual 164, 3) := by decide +kernel
theorem dX2_firstInstanceInRow_15 : decode cX2_firstInstanceInRow 15 = .ok (.ifCond .eq 35, 3) := by decide +kernel
theorem dX2_firstInstanceInRow_18 : decode cX2_firstInstanceInRow 18 = .ok (.aload_n 0, 1) := by decide +kernel
theorem dX2_firstInstanceInRow_19 : decode cX2_firstInstanceInRow 19 = .ok (.getfield 19, 3) := by decide +kernel
theorem dX2_firstInstanceInRow_22 : decode cX2_firstInstanceInRow 22 = .ok (.iload_n 3, 1) := by decide +kernel
theorem dX2_firstInstanceInRow_23 : decode cX2_firstInstanceInRow 23 = .ok (.iload_n 2, 1) := by decide +kernel
theorem dX2_firstInstanceInRow_24 : decode cX2_firstInstanceInRow 24 = .ok (.invokevirtual 64, 3) := by decide +kernel
theorem dX2_firstInstanceInRow_27 : decode cX2_firstInstanceInRow 27 = .ok (.istore 4, 2) := by decide +kernel
theorem dX2_firstInstanceInRow_29 : decode cX2_firstInstanceInRow 29 = .ok (.iload 4, 2) := by decide +kernel
theorem dX2_firstInstanceInRow_31 : decode cX2_firstInstanceInRow 31 = .ok (.iconst (-1), 1) := by decide +kernel
theorem dX2_firstInstanceInRow_32 : decode cX2_firstInstanceInRow 32 = .ok (.if_icmp .eq 18, 3) := by decide +kernel
theorem dX2_firstInstanceInRow_35 : decode cX2_firstInstanceInRow 35 = .ok (.aload_n 0, 1) := by decide +kernel
theorem dX2_firstInstanceInRow_36 : decode cX2_firstInstanceInRow 36 = .ok (.getfield 19, 3) := by decide +kernel
theorem dX2_firstInstanceInRow_39 : decode cX2_firstInstanceInRow 39 = .ok (.iload 4, 2) := by decide +kernel
theorem dX2_firstInstanceInRow_41 : decode cX2_firstInstanceInRow 41 = .ok (.invokevirtual 112, 3) := by decide +kernel
theorem dX2_firstInstanceInRow_44 : decode cX2_firstInstanceInRow 44 = .ok (.ifCond .ne 6, 3) := by decide +kernel
theorem dX2_firstInstanceInRow_47 : decode cX2_firstInstanceInRow 47 = .ok (.iload 4, 2) := by decide +kernel
theorem dX2_firstInstanceInRow_49 : decode cX2_firstInstanceInRow 49 = .ok (.ireturn, 1) := by decide +kernel
theorem dX2_firstInstanceInRow_50 : decode cX2_firstInstanceInRow 50 = .ok (.iinc 3 (-1), 3) := by decide +kernel
theorem dX2_firstInstanceInRow_53 : decode cX2_firstInstanceInRow 53 = .ok (.goto (-51), 3) := by decide +kernel
theorem dX2_firstInstanceInRow_56 : decode cX2_firstInstanceInRow 56 = .ok (.iconst (-1), 1) := by decide +kernel
theorem dX2_firstInstanceInRow_57 : decode cX2_firstInstanceInRow 57 = .ok (.ireturn, 1) := by decide +kernel
set_option maxRecDepth 20000 in
theorem ggX2_firstReplacing_X0_inRow : GoodIn wsX2_firstReplacing wsX0_inRow := goodIn_r _ [8, 9, 10, 11, 12, 7, 13, 14, 15, 16, 17, 67, 68, 69, 70, 71, 72, 73, 74, 75, 76] (by decide +kernel) (by decide +kernel)
set_option maxRecDepth 20000 in
theorem gX2_firstReplacing_X0_inRow : GoodIn wsX2_firstReplacing (wsV RX2 164 RX0 yX0_inRow wsX0_inRow) := goodIn_app (goodIn_of _ (by decide +kernel)) ggX2_firstReplacing_X0_inRow
set_option maxRecDepth 20000 in
theorem ggX2_firstReplacing_X1_inClass : GoodIn wsX2_firstReplacing wsX1_inClass := goodIn_r _ [22, 23, 24, 25, 60, 61, 62, 63, 64, 65, 66] (by decide +kernel) (by decide +kernel)
set_option maxRecDepth 20000 in
theorem gX2_firstReplacing_X1_inClass : GoodIn wsX2_firstReplacing (wsV RX2 64 RX1 yX1_inClass wsX1_inClass) := goodIn_app (goodIn_of _ (by decide +kernel)) ggX2_firstReplacing_X1_inClass
set_option maxRecDepth 20000 in
theorem ggX2_firstReplacing_X2_replaces : GoodIn wsX2_firstReplacing wsX2_replaces := goodIn_r _ [29, 2, 1, 30, 31, 32, 33, 34, 16, 35, 3, 36, 37, 38, 21, 39, 40, 41, 42, 43, 44, 45, 46, 47, 48, 49, 50, 51, 52, 53, 54, 55, 56, 57, 4, 5, 6, 7, 8, 9, 10, 11, 12, 13, 14, 15, 17, 18, 19, 20, 22, 23, 24, 25, 58, 59, 67, 68, 69, 70, 71, 72, 73, 74, 75, 76, 60, 61, 62, 63, 64, 65, 66] (by decide +kernel) (by decide +kernel)
set_option maxRecDepth 20000 in
theorem gX2_firstReplacing_X2_replaces : GoodIn wsX2_firstReplacing (wsV RX2 86 RX2 yX2_replaces wsX2_replaces) := goodIn_app (goodIn_of _ (by decide +kernel)) ggX2_firstReplacing_X2_replaces
theorem dX2_firstReplacing_0 : decode cX2_firstReplacing 0 = .ok (.iload_n 1, 1) := by decide +kernel
theorem dX2_firstReplacing_1 : decode cX2_firstReplacing 1 = .ok (.istore_n 3, 1) := by decide +kernel
theorem dX2_firstReplacing_2 : decode cX2_firstReplacing 2 = .ok (.iload_n 3, 1) := by decide +kernel
theorem dX2_firstReplacing_3 : decode cX2_firstReplacing 3 = .ok (.ifCond .lt 65, 3) := by decide +kernel
theorem dX2_firstReplacing_6 : decode cX2_firstReplacing 6 = .ok (.aload_n 0, 1) := by decide +kernel
theorem dX2_firstReplacing_7 : decode cX2_firstReplacing 7 = .ok (.getfield 10, 3) := by decide +kernel
theorem dX2_firstReplacing_10 : decode cX2_firstReplacing 10 = .ok (.iload_n 1, 1) := by decide +kernel
theorem dX2_firstReplacing_11 : decode cX2_firstReplacing 11 = .ok (.iload_n 3, 1) := by decide +kernel
theorem dX2_firstReplacing_12 : decode cX2_firstReplacing 12 = .ok (.invokevirtual 164, 3) := by decide +kernel
theorem dX2_firstReplacing_15 : decode cX2_firstReplacing 15 = .ok (.ifCond .eq 47, 3) := by decide +kernel
theorem dX2_firstReplacing_18 : decode cX2_firstReplacing 18 = .ok (.aload_n 0, 1) := by decide +kernel
theorem dX2_firstReplacing_19 : decode cX2_firstReplacing 19 = .ok (.getfield 19, 3) := by decide +kernel
theorem dX2_firstReplacing_22 : decode cX2_firstReplacing 22 = .ok (.iload_n 3, 1) := by decide +kernel
theorem dX2_firstReplacing_23 : decode cX2_firstReplacing 23 = .ok (.aload_n 0, 1) := by decide +kernel
theorem dX2_firstReplacing_24 : decode cX2_firstReplacing 24 = .ok (.getfield 19, 3) := by decide +kernel
theorem dX2_firstReplacing_27 : decode cX2_firstReplacing 27 = .ok (.getfield 131, 3) := by decide +kernel
theorem dX2_firstReplacing_30 : decode cX2_firstReplacing 30 = .ok (.iload_n 2, 1) := by decide +kernel
theorem dX2_firstReplacing_31 : decode cX2_firstReplacing 31 = .ok (.iaload, 1) := by decide +kernel
theorem dX2_firstReplacing_32 : decode cX2_firstReplacing 32 = .ok (.invokevirtual 64, 3) := by decide +kernel
theorem dX2_firstReplacing_35 : decode cX2_firstReplacing 35 = .ok (.istore 4, 2) := by decide +kernel
theorem dX2_firstReplacing_37 : decode cX2_firstReplacing 37 = .ok (.iload 4, 2) := by decide +kernel
theorem dX2_firstReplacing_39 : decode cX2_firstReplacing 39 = .ok (.iconst (-1), 1) := by decide +kernel
theorem dX2_firstReplacing_40 : decode cX2_firstReplacing 40 = .ok (.if_icmp .eq 22, 3) := by decide +kernel
theorem dX2_firstReplacing_43 : decode cX2_firstReplacing 43 = .ok (.iload 4, 2) := by decide +kernel
theorem dX2_firstReplacing_45 : decode cX2_firstReplacing 45 = .ok (.iload_n 2, 1) := by decide +kernel
theorem dX2_firstReplacing_46 : decode cX2_firstReplacing 46 = .ok (.if_icmp .eq 13, 3) := by decide +kernel
theorem dX2_firstReplacing_49 : decode cX2_firstReplacing 49 = .ok (.aload_n 0, 1) := by decide +kernel
theorem dX2_firstReplacing_50 : decode cX2_firstReplacing 50 = .ok (.iload 4, 2) := by decide +kernel
theorem dX2_firstReplacing_52 : decode cX2_firstReplacing 52 = .ok (.iload_n 2, 1) := by decide +kernel
theorem dX2_firstReplacing_53 : decode cX2_firstReplacing 53 = .ok (.invokevirtual 86, 3) := by decide +kernel
theorem dX2_firstReplacing_56 : decode cX2_firstReplacing 56 = .ok (.ifCond .eq 6, 3) := by decide +kernel
theorem dX2_firstReplacing_59 : decode cX2_firstReplacing 59 = .ok (.iload 4, 2) := by decide +kernel
theorem dX2_firstReplacing_61 : decode cX2_firstReplacing 61 = .ok (.ireturn, 1) := by decide +kernel
theorem dX2_firstReplacing_62 : decode cX2_firstReplacing 62 = .ok (.iinc 3 (-1), 3) := by decide +kernel
theorem dX2_firstReplacing_65 : decode cX2_firstReplacing 65 = .ok (.goto (-63), 3) := by decide +kernel
theorem dX2_firstReplacing_68 : decode cX2_firstReplacing 68 = .ok (.iconst (-1), 1) := by decide +kernel
theorem dX2_firstReplacing_69 : decode cX2_firstReplacing 69 = .ok (.ireturn, 1) := by decide +kernel
set_option maxRecDepth 20000 in
theorem ggX2_firstInFaces_X0_faceAt : GoodIn wsX2_firstInFaces wsX0_faceAt := goodIn_r _ [8, 9, 10, 21, 22, 23, 24, 25, 26, 27, 28, 29, 30] (by decide +kernel) (by decide +kernel)
set_option maxRecDepth 20000 in
theorem gX2_firstInFaces_X0_faceAt : GoodIn wsX2_firstInFaces (wsV RX2 82 RX0 yX0_faceAt wsX0_faceAt) := goodIn_app (goodIn_of _ (by decide +kernel)) ggX2_firstInFaces_X0_faceAt
set_option maxRecDepth 20000 in
theorem ggX2_firstInFaces_X1_inClass : GoodIn wsX2_firstInFaces wsX1_inClass := goodIn_r _ [15, 16, 17, 18, 31, 32, 33, 34, 35, 36, 37] (by decide +kernel) (by decide +kernel)
set_option maxRecDepth 20000 in
theorem gX2_firstInFaces_X1_inClass : GoodIn wsX2_firstInFaces (wsV RX2 64 RX1 yX1_inClass wsX1_inClass) := goodIn_app (goodIn_of _ (by decide +kernel)) ggX2_firstInFaces_X1_inClass
theorem dX2_firstInFaces_0 : decode cX2_firstInFaces 0 = .ok (.iconst 0, 1) := by decide +kernel
theorem dX2_firstInFaces_1 : decode cX2_firstInFaces 1 = .ok (.istore_n 3, 1) := by decide +kernel
theorem dX2_firstInFaces_2 : decode cX2_firstInFaces 2 = .ok (.iload_n 3, 1) := by decide +kernel
theorem dX2_firstInFaces_3 : decode cX2_firstInFaces 3 = .ok (.aload_n 0, 1) := by decide +kernel
theorem dX2_firstInFaces_4 : decode cX2_firstInFaces 4 = .ok (.getfield 10, 3) := by decide +kernel
theorem dX2_firstInFaces_7 : decode cX2_firstInFaces 7 = .ok (.getfield 79, 3) := by decide +kernel
theorem dX2_firstInFaces_10 : decode cX2_firstInFaces 10 = .ok (.iload_n 1, 1) := by decide +kernel
theorem dX2_firstInFaces_11 : decode cX2_firstInFaces 11 = .ok (.iaload, 1) := by decide +kernel
theorem dX2_firstInFaces_12 : decode cX2_firstInFaces 12 = .ok (.if_icmp .ge 37, 3) := by decide +kernel
theorem dX2_firstInFaces_15 : decode cX2_firstInFaces 15 = .ok (.aload_n 0, 1) := by decide +kernel
theorem dX2_firstInFaces_16 : decode cX2_firstInFaces 16 = .ok (.getfield 19, 3) := by decide +kernel
theorem dX2_firstInFaces_19 : decode cX2_firstInFaces 19 = .ok (.aload_n 0, 1) := by decide +kernel
theorem dX2_firstInFaces_20 : decode cX2_firstInFaces 20 = .ok (.getfield 10, 3) := by decide +kernel
theorem dX2_firstInFaces_23 : decode cX2_firstInFaces 23 = .ok (.iload_n 1, 1) := by decide +kernel
theorem dX2_firstInFaces_24 : decode cX2_firstInFaces 24 = .ok (.iload_n 3, 1) := by decide +kernel
theorem dX2_firstInFaces_25 : decode cX2_firstInFaces 25 = .ok (.invokevirtual 82, 3) := by decide +kernel
theorem dX2_firstInFaces_28 : decode cX2_firstInFaces 28 = .ok (.iload_n 2, 1) := by decide +kernel
theorem dX2_firstInFaces_29 : decode cX2_firstInFaces 29 = .ok (.invokevirtual 64, 3) := by decide +kernel
theorem dX2_firstInFaces_32 : decode cX2_firstInFaces 32 = .ok (.istore 4, 2) := by decide +kernel
theorem dX2_firstInFaces_34 : decode cX2_firstInFaces 34 = .ok (.iload 4, 2) := by decide +kernel
theorem dX2_firstInFaces_36 : decode cX2_firstInFaces 36 = .ok (.iconst (-1), 1) := by decide +kernel
theorem dX2_firstInFaces_37 : decode cX2_firstInFaces 37 = .ok (.if_icmp .eq 6, 3) := by decide +kernel
theorem dX2_firstInFaces_40 : decode cX2_firstInFaces 40 = .ok (.iload 4, 2) := by decide +kernel
theorem dX2_firstInFaces_42 : decode cX2_firstInFaces 42 = .ok (.ireturn, 1) := by decide +kernel
theorem dX2_firstInFaces_43 : decode cX2_firstInFaces 43 = .ok (.iinc 3 1, 3) := by decide +kernel
theorem dX2_firstInFaces_46 : decode cX2_firstInFaces 46 = .ok (.goto (-44), 3) := by decide +kernel
theorem dX2_firstInFaces_49 : decode cX2_firstInFaces 49 = .ok (.iconst (-1), 1) := by decide +kernel
theorem dX2_firstInFaces_50 : decode cX2_firstInFaces 50 = .ok (.ireturn, 1) := by decide +kernel
set_option maxRecDepth 20000 in
theorem ggX2_hiddenFaces_X0_faceAt : GoodIn wsX2_hiddenFaces wsX0_faceAt := goodIn_r _ [9, 10, 11, 22, 23, 24, 25, 26, 27, 28, 29, 30, 31] (by decide +kernel) (by decide +kernel)
set_option maxRecDepth 20000 in
theorem gX2_hiddenFaces_X0_faceAt : GoodIn wsX2_hiddenFaces (wsV RX2 82 RX0 yX0_faceAt wsX0_faceAt) := goodIn_app (goodIn_of _ (by decide +kernel)) ggX2_hiddenFaces_X0_faceAt
set_option maxRecDepth 20000 in
theorem ggX2_hiddenFaces_X1_inClass : GoodIn wsX2_hiddenFaces wsX1_inClass := goodIn_r _ [16, 17, 18, 19, 32, 33, 34, 35, 36, 37, 38] (by decide +kernel) (by decide +kernel)
set_option maxRecDepth 20000 in
theorem gX2_hiddenFaces_X1_inClass : GoodIn wsX2_hiddenFaces (wsV RX2 64 RX1 yX1_inClass wsX1_inClass) := goodIn_app (goodIn_of _ (by decide +kernel)) ggX2_hiddenFaces_X1_inClass
theorem dX2_hiddenFaces_0 : decode cX2_hiddenFaces 0 = .ok (.lconst 0, 1) := by decide +kernel
theorem dX2_hiddenFaces_1 : decode cX2_hiddenFaces 1 = .ok (.lstore_n 3, 1) := by decide +kernel
theorem dX2_hiddenFaces_2 : decode cX2_hiddenFaces 2 = .ok (.iconst 0, 1) := by decide +kernel
theorem dX2_hiddenFaces_3 : decode cX2_hiddenFaces 3 = .ok (.istore 5, 2) := by decide +kernel
theorem dX2_hiddenFaces_5 : decode cX2_hiddenFaces 5 = .ok (.iload 5, 2) := by decide +kernel
theorem dX2_hiddenFaces_7 : decode cX2_hiddenFaces 7 = .ok (.aload_n 0, 1) := by decide +kernel
theorem dX2_hiddenFaces_8 : decode cX2_hiddenFaces 8 = .ok (.getfield 10, 3) := by decide +kernel
theorem dX2_hiddenFaces_11 : decode cX2_hiddenFaces 11 = .ok (.getfield 79, 3) := by decide +kernel
theorem dX2_hiddenFaces_14 : decode cX2_hiddenFaces 14 = .ok (.iload_n 1, 1) := by decide +kernel
theorem dX2_hiddenFaces_15 : decode cX2_hiddenFaces 15 = .ok (.iaload, 1) := by decide +kernel
theorem dX2_hiddenFaces_16 : decode cX2_hiddenFaces 16 = .ok (.if_icmp .ge 48, 3) := by decide +kernel
theorem dX2_hiddenFaces_19 : decode cX2_hiddenFaces 19 = .ok (.aload_n 0, 1) := by decide +kernel
theorem dX2_hiddenFaces_20 : decode cX2_hiddenFaces 20 = .ok (.getfield 10, 3) := by decide +kernel
theorem dX2_hiddenFaces_23 : decode cX2_hiddenFaces 23 = .ok (.iload_n 1, 1) := by decide +kernel
theorem dX2_hiddenFaces_24 : decode cX2_hiddenFaces 24 = .ok (.iload 5, 2) := by decide +kernel
theorem dX2_hiddenFaces_26 : decode cX2_hiddenFaces 26 = .ok (.invokevirtual 82, 3) := by decide +kernel
theorem dX2_hiddenFaces_29 : decode cX2_hiddenFaces 29 = .ok (.istore 6, 2) := by decide +kernel
theorem dX2_hiddenFaces_31 : decode cX2_hiddenFaces 31 = .ok (.aload_n 0, 1) := by decide +kernel
theorem dX2_hiddenFaces_32 : decode cX2_hiddenFaces 32 = .ok (.getfield 19, 3) := by decide +kernel
theorem dX2_hiddenFaces_35 : decode cX2_hiddenFaces 35 = .ok (.iload 6, 2) := by decide +kernel
theorem dX2_hiddenFaces_37 : decode cX2_hiddenFaces 37 = .ok (.iload_n 2, 1) := by decide +kernel
theorem dX2_hiddenFaces_38 : decode cX2_hiddenFaces 38 = .ok (.invokevirtual 64, 3) := by decide +kernel
theorem dX2_hiddenFaces_41 : decode cX2_hiddenFaces 41 = .ok (.iconst (-1), 1) := by decide +kernel
theorem dX2_hiddenFaces_42 : decode cX2_hiddenFaces 42 = .ok (.if_icmp .eq 16, 3) := by decide +kernel
theorem dX2_hiddenFaces_45 : decode cX2_hiddenFaces 45 = .ok (.lload_n 3, 1) := by decide +kernel
theorem dX2_hiddenFaces_46 : decode cX2_hiddenFaces 46 = .ok (.aload_n 0, 1) := by decide +kernel
theorem dX2_hiddenFaces_47 : decode cX2_hiddenFaces 47 = .ok (.getfield 10, 3) := by decide +kernel
theorem dX2_hiddenFaces_50 : decode cX2_hiddenFaces 50 = .ok (.getfield 170, 3) := by decide +kernel
theorem dX2_hiddenFaces_53 : decode cX2_hiddenFaces 53 = .ok (.iload 6, 2) := by decide +kernel
theorem dX2_hiddenFaces_55 : decode cX2_hiddenFaces 55 = .ok (.laload, 1) := by decide +kernel
theorem dX2_hiddenFaces_56 : decode cX2_hiddenFaces 56 = .ok (.lor, 1) := by decide +kernel
theorem dX2_hiddenFaces_57 : decode cX2_hiddenFaces 57 = .ok (.lstore_n 3, 1) := by decide +kernel
theorem dX2_hiddenFaces_58 : decode cX2_hiddenFaces 58 = .ok (.iinc 5 1, 3) := by decide +kernel
theorem dX2_hiddenFaces_61 : decode cX2_hiddenFaces 61 = .ok (.goto (-56), 3) := by decide +kernel
theorem dX2_hiddenFaces_64 : decode cX2_hiddenFaces 64 = .ok (.lload_n 3, 1) := by decide +kernel
theorem dX2_hiddenFaces_65 : decode cX2_hiddenFaces 65 = .ok (.lreturn, 1) := by decide +kernel
set_option maxRecDepth 20000 in
theorem ggX2_nearestAt_X0_faceAt : GoodIn wsX2_nearestAt wsX0_faceAt := goodIn_r _ [7, 8, 9, 24, 25, 26, 27, 28, 29, 30, 31, 32, 33] (by decide +kernel) (by decide +kernel)
set_option maxRecDepth 20000 in
theorem gX2_nearestAt_X0_faceAt : GoodIn wsX2_nearestAt (wsV RX2 82 RX0 yX0_faceAt wsX0_faceAt) := goodIn_app (goodIn_of _ (by decide +kernel)) ggX2_nearestAt_X0_faceAt
set_option maxRecDepth 20000 in
theorem ggX2_nearestAt_X2_holds : GoodIn wsX2_nearestAt wsX2_holds := goodIn_r _ [13] (by decide +kernel) (by decide +kernel)
set_option maxRecDepth 20000 in
theorem gX2_nearestAt_X2_holds : GoodIn wsX2_nearestAt (va_wsS RX2 174 yX2_holds wsX2_holds) := goodIn_app (goodIn_of _ (by decide +kernel)) ggX2_nearestAt_X2_holds
set_option maxRecDepth 20000 in
theorem ggX2_nearestAt_X1_inClass : GoodIn wsX2_nearestAt wsX1_inClass := goodIn_r _ [18, 19, 20, 21, 34, 35, 36, 37, 38, 39, 40] (by decide +kernel) (by decide +kernel)
set_option maxRecDepth 20000 in
theorem gX2_nearestAt_X1_inClass : GoodIn wsX2_nearestAt (wsV RX2 64 RX1 yX1_inClass wsX1_inClass) := goodIn_app (goodIn_of _ (by decide +kernel)) ggX2_nearestAt_X1_inClass
theorem dX2_nearestAt_0 : decode cX2_nearestAt 0 = .ok (.aload_n 0, 1) := by decide +kernel
theorem dX2_nearestAt_1 : decode cX2_nearestAt 1 = .ok (.getfield 10, 3) := by decide +kernel
theorem dX2_nearestAt_4 : decode cX2_nearestAt 4 = .ok (.iload_n 1, 1) := by decide +kernel
theorem dX2_nearestAt_5 : decode cX2_nearestAt 5 = .ok (.iload_n 3, 1) := by decide +kernel
theorem dX2_nearestAt_6 : decode cX2_nearestAt 6 = .ok (.invokevirtual 82, 3) := by decide +kernel
theorem dX2_nearestAt_9 : decode cX2_nearestAt 9 = .ok (.istore 6, 2) := by decide +kernel
theorem dX2_nearestAt_11 : decode cX2_nearestAt 11 = .ok (.lload 4, 2) := by decide +kernel
theorem dX2_nearestAt_13 : decode cX2_nearestAt 13 = .ok (.iload 6, 2) := by decide +kernel
theorem dX2_nearestAt_15 : decode cX2_nearestAt 15 = .ok (.invokestatic 174, 3) := by decide +kernel
theorem dX2_nearestAt_18 : decode cX2_nearestAt 18 = .ok (.ifCond .eq 7, 3) := by decide +kernel
theorem dX2_nearestAt_21 : decode cX2_nearestAt 21 = .ok (.iconst (-1), 1) := by decide +kernel
theorem dX2_nearestAt_22 : decode cX2_nearestAt 22 = .ok (.goto 13, 3) := by decide +kernel
theorem dX2_nearestAt_25 : decode cX2_nearestAt 25 = .ok (.aload_n 0, 1) := by decide +kernel
theorem dX2_nearestAt_26 : decode cX2_nearestAt 26 = .ok (.getfield 19, 3) := by decide +kernel
theorem dX2_nearestAt_29 : decode cX2_nearestAt 29 = .ok (.iload 6, 2) := by decide +kernel
theorem dX2_nearestAt_31 : decode cX2_nearestAt 31 = .ok (.iload_n 2, 1) := by decide +kernel
theorem dX2_nearestAt_32 : decode cX2_nearestAt 32 = .ok (.invokevirtual 64, 3) := by decide +kernel
theorem dX2_nearestAt_35 : decode cX2_nearestAt 35 = .ok (.ireturn, 1) := by decide +kernel
set_option maxRecDepth 20000 in
theorem ggX2_onlyConcreteNearest_X2_hiddenFaces : GoodIn wsX2_onlyConcreteNearest wsX2_hiddenFaces := goodIn_r _ [8, 1, 2, 3, 9, 10, 11, 12, 13, 14, 15, 16, 17, 18, 19, 20, 21, 22, 23, 24, 37, 38, 39, 40, 41, 42, 43, 44, 45, 46, 47, 48, 49, 50, 51, 52, 53, 54, 55] (by decide +kernel) (by decide +kernel)
set_option maxRecDepth 20000 in
theorem gX2_onlyConcreteNearest_X2_hiddenFaces : GoodIn wsX2_onlyConcreteNearest (wsV RX2 95 RX2 yX2_hiddenFaces wsX2_hiddenFaces) := goodIn_app (goodIn_of _ (by decide +kernel)) ggX2_onlyConcreteNearest_X2_hiddenFaces
set_option maxRecDepth 20000 in
theorem ggX2_onlyConcreteNearest_X2_nearestAt : GoodIn wsX2_onlyConcreteNearest wsX2_nearestAt := goodIn_r _ [28, 1, 3, 10, 11, 12, 13, 14, 15, 16, 29, 30, 7, 31, 17, 18, 19, 20, 21, 22, 23, 24, 37, 38, 39, 40, 41, 42, 43, 44, 45, 46, 47, 48, 49, 50, 51, 52, 53, 54, 55] (by decide +kernel) (by decide +kernel)
set_option maxRecDepth 20000 in
theorem gX2_onlyConcreteNearest_X2_nearestAt : GoodIn wsX2_onlyConcreteNearest (wsV RX2 99 RX2 yX2_nearestAt wsX2_nearestAt) := goodIn_app (goodIn_of _ (by decide +kernel)) ggX2_onlyConcreteNearest_X2_nearestAt
set_option maxRecDepth 20000 in
theorem ggX2_onlyConcreteNearest_X1_isAbstract : GoodIn wsX2_onlyConcreteNearest wsX1_isAbstract := goodIn_r _ [35, 36, 49, 50, 51, 52, 53, 54, 55] (by decide +kernel) (by decide +kernel)
set_option maxRecDepth 20000 in
theorem gX2_onlyConcreteNearest_X1_isAbstract : GoodIn wsX2_onlyConcreteNearest (wsV RX2 178 RX1 yX1_isAbstract wsX1_isAbstract) := goodIn_app (goodIn_of _ (by decide +kernel)) ggX2_onlyConcreteNearest_X1_isAbstract
theorem dX2_onlyConcreteNearest_0 : decode cX2_onlyConcreteNearest 0 = .ok (.aload_n 0, 1) := by decide +kernel
theorem dX2_onlyConcreteNearest_1 : decode cX2_onlyConcreteNearest 1 = .ok (.iload_n 1, 1) := by decide +kernel
theorem dX2_onlyConcreteNearest_2 : decode cX2_onlyConcreteNearest 2 = .ok (.iload_n 2, 1) := by decide +kernel
theorem dX2_onlyConcreteNearest_3 : decode cX2_onlyConcreteNearest 3 = .ok (.invokevirtual 95, 3) := by decide +kernel
theorem dX2_onlyConcreteNearest_6 : decode cX2_onlyConcreteNearest 6 = .ok (.lstore_n 3, 1) := by decide +kernel
theorem dX2_onlyConcreteNearest_7 : decode cX2_onlyConcreteNearest 7 = .ok (.iconst (-1), 1) := by decide +kernel
theorem dX2_onlyConcreteNearest_8 : decode cX2_onlyConcreteNearest 8 = .ok (.istore 5, 2) := by decide +kernel
theorem dX2_onlyConcreteNearest_10 : decode cX2_onlyConcreteNearest 10 = .ok (.iconst 0, 1) := by decide +kernel
theorem dX2_onlyConcreteNearest_11 : decode cX2_onlyConcreteNearest 11 = .ok (.istore 6, 2) := by decide +kernel
theorem dX2_onlyConcreteNearest_13 : decode cX2_onlyConcreteNearest 13 = .ok (.iload 6, 2) := by decide +kernel
theorem dX2_onlyConcreteNearest_15 : decode cX2_onlyConcreteNearest 15 = .ok (.aload_n 0, 1) := by decide +kernel
theorem dX2_onlyConcreteNearest_16 : decode cX2_onlyConcreteNearest 16 = .ok (.getfield 10, 3) := by decide +kernel
theorem dX2_onlyConcreteNearest_19 : decode cX2_onlyConcreteNearest 19 = .ok (.getfield 79, 3) := by decide +kernel
theorem dX2_onlyConcreteNearest_22 : decode cX2_onlyConcreteNearest 22 = .ok (.iload_n 1, 1) := by decide +kernel
theorem dX2_onlyConcreteNearest_23 : decode cX2_onlyConcreteNearest 23 = .ok (.iaload, 1) := by decide +kernel
theorem dX2_onlyConcreteNearest_24 : decode cX2_onlyConcreteNearest 24 = .ok (.if_icmp .ge 51, 3) := by decide +kernel
theorem dX2_onlyConcreteNearest_27 : decode cX2_onlyConcreteNearest 27 = .ok (.aload_n 0, 1) := by decide +kernel
theorem dX2_onlyConcreteNearest_28 : decode cX2_onlyConcreteNearest 28 = .ok (.iload_n 1, 1) := by decide +kernel
theorem dX2_onlyConcreteNearest_29 : decode cX2_onlyConcreteNearest 29 = .ok (.iload_n 2, 1) := by decide +kernel
theorem dX2_onlyConcreteNearest_30 : decode cX2_onlyConcreteNearest 30 = .ok (.iload 6, 2) := by decide +kernel
theorem dX2_onlyConcreteNearest_32 : decode cX2_onlyConcreteNearest 32 = .ok (.lload_n 3, 1) := by decide +kernel
theorem dX2_onlyConcreteNearest_33 : decode cX2_onlyConcreteNearest 33 = .ok (.invokevirtual 99, 3) := by decide +kernel
theorem dX2_onlyConcreteNearest_36 : decode cX2_onlyConcreteNearest 36 = .ok (.istore 7, 2) := by decide +kernel
theorem dX2_onlyConcreteNearest_38 : decode cX2_onlyConcreteNearest 38 = .ok (.iload 7, 2) := by decide +kernel
theorem dX2_onlyConcreteNearest_40 : decode cX2_onlyConcreteNearest 40 = .ok (.iconst (-1), 1) := by decide +kernel
theorem dX2_onlyConcreteNearest_41 : decode cX2_onlyConcreteNearest 41 = .ok (.if_icmp .eq 28, 3) := by decide +kernel
theorem dX2_onlyConcreteNearest_44 : decode cX2_onlyConcreteNearest 44 = .ok (.aload_n 0, 1) := by decide +kernel
theorem dX2_onlyConcreteNearest_45 : decode cX2_onlyConcreteNearest 45 = .ok (.getfield 19, 3) := by decide +kernel
theorem dX2_onlyConcreteNearest_48 : decode cX2_onlyConcreteNearest 48 = .ok (.iload 7, 2) := by decide +kernel
theorem dX2_onlyConcreteNearest_50 : decode cX2_onlyConcreteNearest 50 = .ok (.invokevirtual 178, 3) := by decide +kernel
theorem dX2_onlyConcreteNearest_53 : decode cX2_onlyConcreteNearest 53 = .ok (.ifCond .ne 16, 3) := by decide +kernel
theorem dX2_onlyConcreteNearest_56 : decode cX2_onlyConcreteNearest 56 = .ok (.iload 5, 2) := by decide +kernel
theorem dX2_onlyConcreteNearest_58 : decode cX2_onlyConcreteNearest 58 = .ok (.iconst (-1), 1) := by decide +kernel
theorem dX2_onlyConcreteNearest_59 : decode cX2_onlyConcreteNearest 59 = .ok (.if_icmp .eq 6, 3) := by decide +kernel
theorem dX2_onlyConcreteNearest_62 : decode cX2_onlyConcreteNearest 62 = .ok (.bipush (-26), 2) := by decide +kernel
theorem dX2_onlyConcreteNearest_64 : decode cX2_onlyConcreteNearest 64 = .ok (.ireturn, 1) := by decide +kernel
theorem dX2_onlyConcreteNearest_65 : decode cX2_onlyConcreteNearest 65 = .ok (.iload 7, 2) := by decide +kernel
theorem dX2_onlyConcreteNearest_67 : decode cX2_onlyConcreteNearest 67 = .ok (.istore 5, 2) := by decide +kernel
theorem dX2_onlyConcreteNearest_69 : decode cX2_onlyConcreteNearest 69 = .ok (.iinc 6 1, 3) := by decide +kernel
theorem dX2_onlyConcreteNearest_72 : decode cX2_onlyConcreteNearest 72 = .ok (.goto (-59), 3) := by decide +kernel
theorem dX2_onlyConcreteNearest_75 : decode cX2_onlyConcreteNearest 75 = .ok (.iload 5, 2) := by decide +kernel
theorem dX2_onlyConcreteNearest_77 : decode cX2_onlyConcreteNearest 77 = .ok (.ireturn, 1) := by decide +kernel
set_option maxRecDepth 20000 in
theorem ggX2_unlessAbstract_X1_isAbstract : GoodIn wsX2_unlessAbstract wsX1_isAbstract := goodIn_r _ [6, 7, 10, 11, 12, 13, 14, 15, 16] (by decide +kernel) (by decide +kernel)
set_option maxRecDepth 20000 in
theorem gX2_unlessAbstract_X1_isAbstract : GoodIn wsX2_unlessAbstract (wsV RX2 178 RX1 yX1_isAbstract wsX1_isAbstract) := goodIn_app (goodIn_of _ (by decide +kernel)) ggX2_unlessAbstract_X1_isAbstract
theorem dX2_unlessAbstract_0 : decode cX2_unlessAbstract 0 = .ok (.aload_n 0, 1) := by decide +kernel
theorem dX2_unlessAbstract_1 : decode cX2_unlessAbstract 1 = .ok (.getfield 19, 3) := by decide +kernel
theorem dX2_unlessAbstract_4 : decode cX2_unlessAbstract 4 = .ok (.iload_n 1, 1) := by decide +kernel
theorem dX2_unlessAbstract_5 : decode cX2_unlessAbstract 5 = .ok (.invokevirtual 178, 3) := by decide +kernel
theorem dX2_unlessAbstract_8 : decode cX2_unlessAbstract 8 = .ok (.ifCond .eq 8, 3) := by decide +kernel
theorem dX2_unlessAbstract_11 : decode cX2_unlessAbstract 11 = .ok (.bipush (-25), 2) := by decide +kernel
theorem dX2_unlessAbstract_13 : decode cX2_unlessAbstract 13 = .ok (.goto 4, 3) := by decide +kernel
theorem dX2_unlessAbstract_16 : decode cX2_unlessAbstract 16 = .ok (.iload_n 1, 1) := by decide +kernel
theorem dX2_unlessAbstract_17 : decode cX2_unlessAbstract 17 = .ok (.ireturn, 1) := by decide +kernel
theorem dX2_holds_0 : decode cX2_holds 0 = .ok (.lload_n 0, 1) := by decide +kernel
theorem dX2_holds_1 : decode cX2_holds 1 = .ok (.iload_n 2, 1) := by decide +kernel
theorem dX2_holds_2 : decode cX2_holds 2 = .ok (.lushr, 1) := by decide +kernel
theorem dX2_holds_3 : decode cX2_holds 3 = .ok (.lconst 1, 1) := by decide +kernel
theorem dX2_holds_4 : decode cX2_holds 4 = .ok (.land, 1) := by decide +kernel
theorem dX2_holds_5 : decode cX2_holds 5 = .ok (.lconst 0, 1) := by decide +kernel
theorem dX2_holds_6 : decode cX2_holds 6 = .ok (.lcmp, 1) := by decide +kernel
theorem dX2_holds_7 : decode cX2_holds 7 = .ok (.ifCond .eq 7, 3) := by decide +kernel
theorem dX2_holds_10 : decode cX2_holds 10 = .ok (.iconst 1, 1) := by decide +kernel
theorem dX2_holds_11 : decode cX2_holds 11 = .ok (.goto 4, 3) := by decide +kernel
theorem dX2_holds_14 : decode cX2_holds 14 = .ok (.iconst 0, 1) := by decide +kernel
theorem dX2_holds_15 : decode cX2_holds 15 = .ok (.ireturn, 1) := by decide +kernel
