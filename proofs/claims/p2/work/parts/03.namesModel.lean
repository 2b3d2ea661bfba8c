set_option maxRecDepth 20000 in
theorem ggX3_init_Jx4a65c_init_da8c8 : GoodIn wsX3_init wsJx4a65c_init_da8c8 := goodIn_r _ [17, 18, 19, 20, 21, 22, 23, 24, 25, 26, 27, 28, 29, 2, 3, 30, 31, 32] (by decide +kernel) (by decide +kernel)
set_option maxRecDepth 20000 in
theorem gX3_init_Jx4a65c_init_da8c8 : GoodIn wsX3_init (wsJx4a65c_init_da8c8) := ggX3_init_Jx4a65c_init_da8c8
theorem dX3_init_0 : decode cX3_init 0 = .ok (.aload_n 0, 1) := by decide +kernel
theorem dX3_init_1 : decode cX3_init 1 = .ok (.invokespecial 1, 3) := by decide +kernel
theorem dX3_init_4 : decode cX3_init 4 = .ok (.aload_n 0, 1) := by decide +kernel
theorem dX3_init_5 : decode cX3_init 5 = .ok (.new 7, 3) := by decide +kernel
theorem dX3_init_8 : decode cX3_init 8 = .ok (.dup, 1) := by decide +kernel
theorem dX3_init_9 : decode cX3_init 9 = .ok (.invokespecial 9, 3) := by decide +kernel
theorem dX3_init_12 : decode cX3_init 12 = .ok (.putfield 10, 3) := by decide +kernel
theorem dX3_init_15 : decode cX3_init 15 = .ok (.aload_n 0, 1) := by decide +kernel
theorem dX3_init_16 : decode cX3_init 16 = .ok (.new 7, 3) := by decide +kernel
theorem dX3_init_19 : decode cX3_init 19 = .ok (.dup, 1) := by decide +kernel
theorem dX3_init_20 : decode cX3_init 20 = .ok (.invokespecial 9, 3) := by decide +kernel
theorem dX3_init_23 : decode cX3_init 23 = .ok (.putfield 16, 3) := by decide +kernel
theorem dX3_init_26 : decode cX3_init 26 = .ok (.aload_n 0, 1) := by decide +kernel
theorem dX3_init_27 : decode cX3_init 27 = .ok (.new 7, 3) := by decide +kernel
theorem dX3_init_30 : decode cX3_init 30 = .ok (.dup, 1) := by decide +kernel
theorem dX3_init_31 : decode cX3_init 31 = .ok (.invokespecial 9, 3) := by decide +kernel
theorem dX3_init_34 : decode cX3_init 34 = .ok (.putfield 19, 3) := by decide +kernel
theorem dX3_init_37 : decode cX3_init 37 = .ok (.aload_n 0, 1) := by decide +kernel
theorem dX3_init_38 : decode cX3_init 38 = .ok (.iconst (-1), 1) := by decide +kernel
theorem dX3_init_39 : decode cX3_init 39 = .ok (.putfield 22, 3) := by decide +kernel
theorem dX3_init_42 : decode cX3_init 42 = .ok (.aload_n 0, 1) := by decide +kernel
theorem dX3_init_43 : decode cX3_init 43 = .ok (.iload_n 1, 1) := by decide +kernel
theorem dX3_init_44 : decode cX3_init 44 = .ok (.putfield 26, 3) := by decide +kernel
theorem dX3_init_47 : decode cX3_init 47 = .ok (.aload_n 0, 1) := by decide +kernel
theorem dX3_init_48 : decode cX3_init 48 = .ok (.aload_n 2, 1) := by decide +kernel
theorem dX3_init_49 : decode cX3_init 49 = .ok (.putfield 29, 3) := by decide +kernel
theorem dX3_init_52 : decode cX3_init 52 = .ok (.aload_n 0, 1) := by decide +kernel
theorem dX3_init_53 : decode cX3_init 53 = .ok (.iload_n 3, 1) := by decide +kernel
theorem dX3_init_54 : decode cX3_init 54 = .ok (.putfield 33, 3) := by decide +kernel
theorem dX3_init_57 : decode cX3_init 57 = .ok (.aload_n 0, 1) := by decide +kernel
theorem dX3_init_58 : decode cX3_init 58 = .ok (.iload 4, 2) := by decide +kernel
theorem dX3_init_60 : decode cX3_init 60 = .ok (.putfield 36, 3) := by decide +kernel
theorem dX3_init_63 : decode cX3_init 63 = .ok (.return_, 1) := by decide +kernel
set_option maxRecDepth 20000 in
theorem ggX3_named_Jx4a65c_size_8abf5 : GoodIn wsX3_named wsJx4a65c_size_8abf5 := goodIn_r _ [8, 9, 43, 44, 45] (by decide +kernel) (by decide +kernel)
set_option maxRecDepth 20000 in
theorem gX3_named_Jx4a65c_size_8abf5 : GoodIn wsX3_named (wsV RX3 40 RJx4a65c yJx4a65c_size_8abf5 wsJx4a65c_size_8abf5) := goodIn_app (goodIn_of _ (by decide +kernel)) ggX3_named_Jx4a65c_size_8abf5
set_option maxRecDepth 20000 in
theorem ggX3_named_Jx4a65c_get_915e3 : GoodIn wsX3_named wsJx4a65c_get_915e3 := goodIn_r _ [13, 9, 14, 15, 16, 17, 18, 19, 20, 21, 22, 23, 24, 7, 25, 26, 43, 44, 45] (by decide +kernel) (by decide +kernel)
set_option maxRecDepth 20000 in
theorem gX3_named_Jx4a65c_get_915e3 : GoodIn wsX3_named (wsV RX3 44 RJx4a65c yJx4a65c_get_915e3 wsJx4a65c_get_915e3) := goodIn_app (goodIn_of _ (by decide +kernel)) ggX3_named_Jx4a65c_get_915e3
theorem dX3_named_0 : decode cX3_named 0 = .ok (.iconst 0, 1) := by decide +kernel
theorem dX3_named_1 : decode cX3_named 1 = .ok (.istore_n 2, 1) := by decide +kernel
theorem dX3_named_2 : decode cX3_named 2 = .ok (.iload_n 2, 1) := by decide +kernel
theorem dX3_named_3 : decode cX3_named 3 = .ok (.aload_n 0, 1) := by decide +kernel
theorem dX3_named_4 : decode cX3_named 4 = .ok (.getfield 16, 3) := by decide +kernel
theorem dX3_named_7 : decode cX3_named 7 = .ok (.invokevirtual 40, 3) := by decide +kernel
theorem dX3_named_10 : decode cX3_named 10 = .ok (.if_icmp .ge 39, 3) := by decide +kernel
theorem dX3_named_13 : decode cX3_named 13 = .ok (.aload_n 0, 1) := by decide +kernel
theorem dX3_named_14 : decode cX3_named 14 = .ok (.getfield 16, 3) := by decide +kernel
theorem dX3_named_17 : decode cX3_named 17 = .ok (.iload_n 2, 1) := by decide +kernel
theorem dX3_named_18 : decode cX3_named 18 = .ok (.invokevirtual 44, 3) := by decide +kernel
theorem dX3_named_21 : decode cX3_named 21 = .ok (.checkcast 48, 3) := by decide +kernel
theorem dX3_named_24 : decode cX3_named 24 = .ok (.getfield 50, 3) := by decide +kernel
theorem dX3_named_27 : decode cX3_named 27 = .ok (.iload_n 1, 1) := by decide +kernel
theorem dX3_named_28 : decode cX3_named 28 = .ok (.if_icmp .ne 15, 3) := by decide +kernel
theorem dX3_named_31 : decode cX3_named 31 = .ok (.aload_n 0, 1) := by decide +kernel
theorem dX3_named_32 : decode cX3_named 32 = .ok (.getfield 16, 3) := by decide +kernel
theorem dX3_named_35 : decode cX3_named 35 = .ok (.iload_n 2, 1) := by decide +kernel
theorem dX3_named_36 : decode cX3_named 36 = .ok (.invokevirtual 44, 3) := by decide +kernel
theorem dX3_named_39 : decode cX3_named 39 = .ok (.checkcast 48, 3) := by decide +kernel
theorem dX3_named_42 : decode cX3_named 42 = .ok (.areturn, 1) := by decide +kernel
theorem dX3_named_43 : decode cX3_named 43 = .ok (.iinc 2 1, 3) := by decide +kernel
theorem dX3_named_46 : decode cX3_named 46 = .ok (.goto (-44), 3) := by decide +kernel
theorem dX3_named_49 : decode cX3_named 49 = .ok (.aconst_null, 1) := by decide +kernel
theorem dX3_named_50 : decode cX3_named 50 = .ok (.areturn, 1) := by decide +kernel
theorem dX4_init_0 : decode cX4_init 0 = .ok (.aload_n 0, 1) := by decide +kernel
theorem dX4_init_1 : decode cX4_init 1 = .ok (.invokespecial 1, 3) := by decide +kernel
theorem dX4_init_4 : decode cX4_init 4 = .ok (.aload_n 0, 1) := by decide +kernel
theorem dX4_init_5 : decode cX4_init 5 = .ok (.iload_n 1, 1) := by decide +kernel
theorem dX4_init_6 : decode cX4_init 6 = .ok (.putfield 7, 3) := by decide +kernel
theorem dX4_init_9 : decode cX4_init 9 = .ok (.aload_n 0, 1) := by decide +kernel
theorem dX4_init_10 : decode cX4_init 10 = .ok (.aload_n 2, 1) := by decide +kernel
theorem dX4_init_11 : decode cX4_init 11 = .ok (.putfield 13, 3) := by decide +kernel
theorem dX4_init_14 : decode cX4_init 14 = .ok (.aload_n 0, 1) := by decide +kernel
theorem dX4_init_15 : decode cX4_init 15 = .ok (.iload_n 3, 1) := by decide +kernel
theorem dX4_init_16 : decode cX4_init 16 = .ok (.putfield 17, 3) := by decide +kernel
theorem dX4_init_19 : decode cX4_init 19 = .ok (.aload_n 0, 1) := by decide +kernel
theorem dX4_init_20 : decode cX4_init 20 = .ok (.iload 4, 2) := by decide +kernel
theorem dX4_init_22 : decode cX4_init 22 = .ok (.putfield 20, 3) := by decide +kernel
theorem dX4_init_25 : decode cX4_init 25 = .ok (.aload_n 0, 1) := by decide +kernel
theorem dX4_init_26 : decode cX4_init 26 = .ok (.iload 5, 2) := by decide +kernel
theorem dX4_init_28 : decode cX4_init 28 = .ok (.iconst 1, 1) := by decide +kernel
theorem dX4_init_29 : decode cX4_init 29 = .ok (.iand, 1) := by decide +kernel
theorem dX4_init_30 : decode cX4_init 30 = .ok (.iconst 1, 1) := by decide +kernel
theorem dX4_init_31 : decode cX4_init 31 = .ok (.if_icmp .ne 7, 3) := by decide +kernel
theorem dX4_init_34 : decode cX4_init 34 = .ok (.iconst 1, 1) := by decide +kernel
theorem dX4_init_35 : decode cX4_init 35 = .ok (.goto 4, 3) := by decide +kernel
theorem dX4_init_38 : decode cX4_init 38 = .ok (.iconst 0, 1) := by decide +kernel
theorem dX4_init_39 : decode cX4_init 39 = .ok (.putfield 23, 3) := by decide +kernel
theorem dX4_init_42 : decode cX4_init 42 = .ok (.aload_n 0, 1) := by decide +kernel
theorem dX4_init_43 : decode cX4_init 43 = .ok (.iload 5, 2) := by decide +kernel
theorem dX4_init_45 : decode cX4_init 45 = .ok (.iconst 1, 1) := by decide +kernel
theorem dX4_init_46 : decode cX4_init 46 = .ok (.ishr, 1) := by decide +kernel
theorem dX4_init_47 : decode cX4_init 47 = .ok (.iconst 1, 1) := by decide +kernel
theorem dX4_init_48 : decode cX4_init 48 = .ok (.iand, 1) := by decide +kernel
theorem dX4_init_49 : decode cX4_init 49 = .ok (.iconst 1, 1) := by decide +kernel
theorem dX4_init_50 : decode cX4_init 50 = .ok (.if_icmp .ne 7, 3) := by decide +kernel
theorem dX4_init_53 : decode cX4_init 53 = .ok (.iconst 1, 1) := by decide +kernel
theorem dX4_init_54 : decode cX4_init 54 = .ok (.goto 4, 3) := by decide +kernel
theorem dX4_init_57 : decode cX4_init 57 = .ok (.iconst 0, 1) := by decide +kernel
theorem dX4_init_58 : decode cX4_init 58 = .ok (.putfield 27, 3) := by decide +kernel
theorem dX4_init_61 : decode cX4_init 61 = .ok (.aload_n 0, 1) := by decide +kernel
theorem dX4_init_62 : decode cX4_init 62 = .ok (.iload 5, 2) := by decide +kernel
theorem dX4_init_64 : decode cX4_init 64 = .ok (.iconst 2, 1) := by decide +kernel
theorem dX4_init_65 : decode cX4_init 65 = .ok (.ishr, 1) := by decide +kernel
theorem dX4_init_66 : decode cX4_init 66 = .ok (.iconst 1, 1) := by decide +kernel
theorem dX4_init_67 : decode cX4_init 67 = .ok (.iand, 1) := by decide +kernel
theorem dX4_init_68 : decode cX4_init 68 = .ok (.iconst 1, 1) := by decide +kernel
theorem dX4_init_69 : decode cX4_init 69 = .ok (.if_icmp .ne 7, 3) := by decide +kernel
theorem dX4_init_72 : decode cX4_init 72 = .ok (.iconst 1, 1) := by decide +kernel
theorem dX4_init_73 : decode cX4_init 73 = .ok (.goto 4, 3) := by decide +kernel
theorem dX4_init_76 : decode cX4_init 76 = .ok (.iconst 0, 1) := by decide +kernel
theorem dX4_init_77 : decode cX4_init 77 = .ok (.putfield 30, 3) := by decide +kernel
theorem dX4_init_80 : decode cX4_init 80 = .ok (.return_, 1) := by decide +kernel
set_option maxRecDepth 20000 in
theorem ggX5_init_Jx4a65c_init_da8c8 : GoodIn wsX5_init wsJx4a65c_init_da8c8 := goodIn_r _ [14, 15, 16, 17, 18, 19, 20, 21, 22, 23, 24, 25, 26, 2, 3, 94, 95, 96] (by decide +kernel) (by decide +kernel)
set_option maxRecDepth 20000 in
theorem gX5_init_Jx4a65c_init_da8c8 : GoodIn wsX5_init (wsJx4a65c_init_da8c8) := ggX5_init_Jx4a65c_init_da8c8
set_option maxRecDepth 20000 in
theorem ggX5_init_X3_init : GoodIn wsX5_init wsX3_init := goodIn_r _ [29, 30, 2, 3, 31, 5, 6, 32, 33, 34, 35, 36, 37, 38, 39, 40, 13, 14, 15, 16, 17, 18, 19, 20, 21, 22, 23, 24, 25, 26, 94, 95, 96, 100, 101, 102, 103, 104, 105, 106, 107, 108] (by decide +kernel) (by decide +kernel)
set_option maxRecDepth 20000 in
theorem gX5_init_X3_init : GoodIn wsX5_init (wsX3_init) := ggX5_init_X3_init
set_option maxRecDepth 20000 in
theorem ggX5_init_Jx4a65c_add_9ea2d : GoodIn wsX5_init wsJx4a65c_add_9ea2d := goodIn_r _ [44, 45, 46, 16, 47, 48, 49, 50, 6, 51, 52, 53, 54, 55, 56, 57, 58, 59, 15, 60, 61, 62, 63, 64, 65, 66, 67, 68, 69, 70, 71, 72, 73, 74, 75, 76, 77, 78, 79, 80, 81, 82, 83, 84, 85, 86, 87, 88, 89, 90, 91, 92, 93, 94, 95, 96] (by decide +kernel) (by decide +kernel)
set_option maxRecDepth 20000 in
theorem gX5_init_Jx4a65c_add_9ea2d : GoodIn wsX5_init (wsV RX5 24 RJx4a65c yJx4a65c_add_9ea2d wsJx4a65c_add_9ea2d) := goodIn_app (goodIn_of _ (by decide +kernel)) ggX5_init_Jx4a65c_add_9ea2d
theorem dX5_init_0 : decode cX5_init 0 = .ok (.aload_n 0, 1) := by decide +kernel
theorem dX5_init_1 : decode cX5_init 1 = .ok (.invokespecial 1, 3) := by decide +kernel
theorem dX5_init_4 : decode cX5_init 4 = .ok (.aload_n 0, 1) := by decide +kernel
theorem dX5_init_5 : decode cX5_init 5 = .ok (.new 7, 3) := by decide +kernel
theorem dX5_init_8 : decode cX5_init 8 = .ok (.dup, 1) := by decide +kernel
theorem dX5_init_9 : decode cX5_init 9 = .ok (.invokespecial 9, 3) := by decide +kernel
theorem dX5_init_12 : decode cX5_init 12 = .ok (.putfield 10, 3) := by decide +kernel
theorem dX5_init_15 : decode cX5_init 15 = .ok (.aload_n 0, 1) := by decide +kernel
theorem dX5_init_16 : decode cX5_init 16 = .ok (.new 7, 3) := by decide +kernel
theorem dX5_init_19 : decode cX5_init 19 = .ok (.dup, 1) := by decide +kernel
theorem dX5_init_20 : decode cX5_init 20 = .ok (.invokespecial 9, 3) := by decide +kernel
theorem dX5_init_23 : decode cX5_init 23 = .ok (.putfield 16, 3) := by decide +kernel
theorem dX5_init_26 : decode cX5_init 26 = .ok (.aload_n 0, 1) := by decide +kernel
theorem dX5_init_27 : decode cX5_init 27 = .ok (.getfield 10, 3) := by decide +kernel
theorem dX5_init_30 : decode cX5_init 30 = .ok (.new 19, 3) := by decide +kernel
theorem dX5_init_33 : decode cX5_init 33 = .ok (.dup, 1) := by decide +kernel
theorem dX5_init_34 : decode cX5_init 34 = .ok (.iconst 0, 1) := by decide +kernel
theorem dX5_init_35 : decode cX5_init 35 = .ok (.aconst_null, 1) := by decide +kernel
theorem dX5_init_36 : decode cX5_init 36 = .ok (.iconst 0, 1) := by decide +kernel
theorem dX5_init_37 : decode cX5_init 37 = .ok (.iconst 0, 1) := by decide +kernel
theorem dX5_init_38 : decode cX5_init 38 = .ok (.invokespecial 21, 3) := by decide +kernel
theorem dX5_init_41 : decode cX5_init 41 = .ok (.invokevirtual 24, 3) := by decide +kernel
theorem dX5_init_44 : decode cX5_init 44 = .ok (.pop, 1) := by decide +kernel
theorem dX5_init_45 : decode cX5_init 45 = .ok (.return_, 1) := by decide +kernel
set_option maxRecDepth 20000 in
theorem ggX5_at_Jx4a65c_size_8abf5 : GoodIn wsX5_at wsJx4a65c_size_8abf5 := goodIn_r _ [7, 8, 29, 30, 31] (by decide +kernel) (by decide +kernel)
set_option maxRecDepth 20000 in
theorem gX5_at_Jx4a65c_size_8abf5 : GoodIn wsX5_at (wsV RX5 28 RJx4a65c yJx4a65c_size_8abf5 wsJx4a65c_size_8abf5) := goodIn_app (goodIn_of _ (by decide +kernel)) ggX5_at_Jx4a65c_size_8abf5
set_option maxRecDepth 20000 in
theorem ggX5_at_Jx4a65c_get_915e3 : GoodIn wsX5_at wsJx4a65c_get_915e3 := goodIn_r _ [12, 8, 13, 14, 15, 16, 17, 18, 19, 20, 21, 22, 23, 6, 24, 25, 29, 30, 31] (by decide +kernel) (by decide +kernel)
set_option maxRecDepth 20000 in
theorem gX5_at_Jx4a65c_get_915e3 : GoodIn wsX5_at (wsV RX5 32 RJx4a65c yJx4a65c_get_915e3 wsJx4a65c_get_915e3) := goodIn_app (goodIn_of _ (by decide +kernel)) ggX5_at_Jx4a65c_get_915e3
theorem dX5_at_0 : decode cX5_at 0 = .ok (.iload_n 1, 1) := by decide +kernel
theorem dX5_at_1 : decode cX5_at 1 = .ok (.ifCond .lt 28, 3) := by decide +kernel
theorem dX5_at_4 : decode cX5_at 4 = .ok (.iload_n 1, 1) := by decide +kernel
theorem dX5_at_5 : decode cX5_at 5 = .ok (.aload_n 0, 1) := by decide +kernel
theorem dX5_at_6 : decode cX5_at 6 = .ok (.getfield 10, 3) := by decide +kernel
theorem dX5_at_9 : decode cX5_at 9 = .ok (.invokevirtual 28, 3) := by decide +kernel
theorem dX5_at_12 : decode cX5_at 12 = .ok (.if_icmp .ge 17, 3) := by decide +kernel
theorem dX5_at_15 : decode cX5_at 15 = .ok (.aload_n 0, 1) := by decide +kernel
theorem dX5_at_16 : decode cX5_at 16 = .ok (.getfield 10, 3) := by decide +kernel
theorem dX5_at_19 : decode cX5_at 19 = .ok (.iload_n 1, 1) := by decide +kernel
theorem dX5_at_20 : decode cX5_at 20 = .ok (.invokevirtual 32, 3) := by decide +kernel
theorem dX5_at_23 : decode cX5_at 23 = .ok (.checkcast 19, 3) := by decide +kernel
theorem dX5_at_26 : decode cX5_at 26 = .ok (.goto 4, 3) := by decide +kernel
theorem dX5_at_29 : decode cX5_at 29 = .ok (.aconst_null, 1) := by decide +kernel
theorem dX5_at_30 : decode cX5_at 30 = .ok (.areturn, 1) := by decide +kernel
set_option maxRecDepth 20000 in
theorem ggX5_met_Jx4a65c_size_8abf5 : GoodIn wsX5_met wsJx4a65c_size_8abf5 := goodIn_r _ [7, 8, 29, 30, 31] (by decide +kernel) (by decide +kernel)
set_option maxRecDepth 20000 in
theorem gX5_met_Jx4a65c_size_8abf5 : GoodIn wsX5_met (wsV RX5 28 RJx4a65c yJx4a65c_size_8abf5 wsJx4a65c_size_8abf5) := goodIn_app (goodIn_of _ (by decide +kernel)) ggX5_met_Jx4a65c_size_8abf5
set_option maxRecDepth 20000 in
theorem ggX5_met_Jx4a65c_get_915e3 : GoodIn wsX5_met wsJx4a65c_get_915e3 := goodIn_r _ [12, 8, 13, 14, 15, 16, 17, 18, 19, 20, 21, 22, 23, 6, 24, 25, 29, 30, 31] (by decide +kernel) (by decide +kernel)
set_option maxRecDepth 20000 in
theorem gX5_met_Jx4a65c_get_915e3 : GoodIn wsX5_met (wsV RX5 32 RJx4a65c yJx4a65c_get_915e3 wsJx4a65c_get_915e3) := goodIn_app (goodIn_of _ (by decide +kernel)) ggX5_met_Jx4a65c_get_915e3
theorem dX5_met_0 : decode cX5_met 0 = .ok (.iload_n 1, 1) := by decide +kernel
theorem dX5_met_1 : decode cX5_met 1 = .ok (.ifCond .lt 28, 3) := by decide +kernel
theorem dX5_met_4 : decode cX5_met 4 = .ok (.iload_n 1, 1) := by decide +kernel
theorem dX5_met_5 : decode cX5_met 5 = .ok (.aload_n 0, 1) := by decide +kernel
theorem dX5_met_6 : decode cX5_met 6 = .ok (.getfield 16, 3) := by decide +kernel
theorem dX5_met_9 : decode cX5_met 9 = .ok (.invokevirtual 28, 3) := by decide +kernel
theorem dX5_met_12 : decode cX5_met 12 = .ok (.if_icmp .ge 17, 3) := by decide +kernel
theorem dX5_met_15 : decode cX5_met 15 = .ok (.aload_n 0, 1) := by decide +kernel
theorem dX5_met_16 : decode cX5_met 16 = .ok (.getfield 16, 3) := by decide +kernel
theorem dX5_met_19 : decode cX5_met 19 = .ok (.iload_n 1, 1) := by decide +kernel
theorem dX5_met_20 : decode cX5_met 20 = .ok (.invokevirtual 32, 3) := by decide +kernel
theorem dX5_met_23 : decode cX5_met 23 = .ok (.checkcast 36, 3) := by decide +kernel
theorem dX5_met_26 : decode cX5_met 26 = .ok (.goto 4, 3) := by decide +kernel
theorem dX5_met_29 : decode cX5_met 29 = .ok (.aconst_null, 1) := by decide +kernel
theorem dX5_met_30 : decode cX5_met 30 = .ok (.areturn, 1) := by decide +kernel
theorem dX5_isName_0 : decode cX5_isName 0 = .ok (.iload_n 0, 1) := by decide +kernel
theorem dX5_isName_1 : decode cX5_isName 1 = .ok (.ifCond .lt 13, 3) := by decide +kernel
theorem dX5_isName_4 : decode cX5_isName 4 = .ok (.iload_n 0, 1) := by decide +kernel
theorem dX5_isName_5 : decode cX5_isName 5 = .ok (.bipush 32, 2) := by decide +kernel
theorem dX5_isName_7 : decode cX5_isName 7 = .ok (.if_icmp .ge 7, 3) := by decide +kernel
theorem dX5_isName_10 : decode cX5_isName 10 = .ok (.iconst 1, 1) := by decide +kernel
theorem dX5_isName_11 : decode cX5_isName 11 = .ok (.goto 4, 3) := by decide +kernel
theorem dX5_isName_14 : decode cX5_isName 14 = .ok (.iconst 0, 1) := by decide +kernel
theorem dX5_isName_15 : decode cX5_isName 15 = .ok (.ireturn, 1) := by decide +kernel
set_option maxRecDepth 20000 in
theorem ggX5_add_X5_at : GoodIn wsX5_add wsX5_at := goodIn_r _ [10, 2, 11, 12, 13, 14, 15, 16, 17, 18, 19, 20, 21, 22, 23, 24, 25, 26, 27, 28, 29, 30, 31, 32, 33, 34, 126, 127, 128, 129, 130, 131] (by decide +kernel) (by decide +kernel)
set_option maxRecDepth 20000 in
theorem gX5_add_X5_at : GoodIn wsX5_add (wsV RX5 38 RX5 yX5_at wsX5_at) := goodIn_app (goodIn_of _ (by decide +kernel)) ggX5_add_X5_at
set_option maxRecDepth 20000 in
theorem ggX5_add_Jx4a65c_size_8abf5 : GoodIn wsX5_add wsJx4a65c_size_8abf5 := goodIn_r _ [16, 17, 129, 130, 131] (by decide +kernel) (by decide +kernel)
set_option maxRecDepth 20000 in
theorem gX5_add_Jx4a65c_size_8abf5 : GoodIn wsX5_add (wsV RX5 28 RJx4a65c yJx4a65c_size_8abf5 wsJx4a65c_size_8abf5) := goodIn_app (goodIn_of _ (by decide +kernel)) ggX5_add_Jx4a65c_size_8abf5
set_option maxRecDepth 20000 in
theorem ggX5_add_X3_init : GoodIn wsX5_add wsX3_init := goodIn_r _ [37, 38, 39, 40, 41, 42, 15, 43, 44, 45, 46, 47, 48, 49, 50, 51, 52, 53, 54, 34, 55, 56, 57, 58, 59, 60, 61, 62, 63, 64, 129, 130, 131, 117, 118, 119, 120, 121, 122, 123, 124, 125] (by decide +kernel) (by decide +kernel)
set_option maxRecDepth 20000 in
theorem gX5_add_X3_init : GoodIn wsX5_add (wsX3_init) := ggX5_add_X3_init
set_option maxRecDepth 20000 in
theorem ggX5_add_Jx4a65c_add_9ea2d : GoodIn wsX5_add wsJx4a65c_add_9ea2d := goodIn_r _ [68, 69, 70, 34, 17, 71, 72, 73, 15, 74, 75, 76, 77, 78, 79, 80, 81, 82, 54, 83, 84, 85, 86, 87, 88, 89, 90, 91, 92, 93, 94, 95, 96, 97, 98, 99, 100, 101, 102, 103, 104, 105, 106, 107, 108, 109, 110, 111, 112, 113, 114, 115, 116, 129, 130, 131] (by decide +kernel) (by decide +kernel)
set_option maxRecDepth 20000 in
theorem gX5_add_Jx4a65c_add_9ea2d : GoodIn wsX5_add (wsV RX5 24 RJx4a65c yJx4a65c_add_9ea2d wsJx4a65c_add_9ea2d) := goodIn_app (goodIn_of _ (by decide +kernel)) ggX5_add_Jx4a65c_add_9ea2d
theorem dX5_add_0 : decode cX5_add 0 = .ok (.aload_n 0, 1) := by decide +kernel
theorem dX5_add_1 : decode cX5_add 1 = .ok (.iload_n 1, 1) := by decide +kernel
theorem dX5_add_2 : decode cX5_add 2 = .ok (.invokevirtual 38, 3) := by decide +kernel
theorem dX5_add_5 : decode cX5_add 5 = .ok (.astore 4, 2) := by decide +kernel
theorem dX5_add_7 : decode cX5_add 7 = .ok (.aload 4, 2) := by decide +kernel
theorem dX5_add_9 : decode cX5_add 9 = .ok (.ifnull 11, 3) := by decide +kernel
theorem dX5_add_12 : decode cX5_add 12 = .ok (.aload 4, 2) := by decide +kernel
theorem dX5_add_14 : decode cX5_add 14 = .ok (.getfield 42, 3) := by decide +kernel
theorem dX5_add_17 : decode cX5_add 17 = .ok (.ifCond .eq 6, 3) := by decide +kernel
theorem dX5_add_20 : decode cX5_add 20 = .ok (.bipush (-14), 2) := by decide +kernel
theorem dX5_add_22 : decode cX5_add 22 = .ok (.ireturn, 1) := by decide +kernel
theorem dX5_add_23 : decode cX5_add 23 = .ok (.iload_n 2, 1) := by decide +kernel
theorem dX5_add_24 : decode cX5_add 24 = .ok (.ifCond .lt 27, 3) := by decide +kernel
theorem dX5_add_27 : decode cX5_add 27 = .ok (.iload_n 2, 1) := by decide +kernel
theorem dX5_add_28 : decode cX5_add 28 = .ok (.bipush 9, 2) := by decide +kernel
theorem dX5_add_30 : decode cX5_add 30 = .ok (.if_icmp .gt 21, 3) := by decide +kernel
theorem dX5_add_33 : decode cX5_add 33 = .ok (.iload_n 3, 1) := by decide +kernel
theorem dX5_add_34 : decode cX5_add 34 = .ok (.ifCond .lt 17, 3) := by decide +kernel
theorem dX5_add_37 : decode cX5_add 37 = .ok (.iload_n 3, 1) := by decide +kernel
theorem dX5_add_38 : decode cX5_add 38 = .ok (.iconst 1, 1) := by decide +kernel
theorem dX5_add_39 : decode cX5_add 39 = .ok (.if_icmp .gt 12, 3) := by decide +kernel
theorem dX5_add_42 : decode cX5_add 42 = .ok (.iload_n 3, 1) := by decide +kernel
theorem dX5_add_43 : decode cX5_add 43 = .ok (.iconst 1, 1) := by decide +kernel
theorem dX5_add_44 : decode cX5_add 44 = .ok (.if_icmp .ne 9, 3) := by decide +kernel
theorem dX5_add_47 : decode cX5_add 47 = .ok (.iload_n 1, 1) := by decide +kernel
theorem dX5_add_48 : decode cX5_add 48 = .ok (.ifCond .eq 5, 3) := by decide +kernel
theorem dX5_add_51 : decode cX5_add 51 = .ok (.iconst (-1), 1) := by decide +kernel
theorem dX5_add_52 : decode cX5_add 52 = .ok (.ireturn, 1) := by decide +kernel
theorem dX5_add_53 : decode cX5_add 53 = .ok (.aload_n 0, 1) := by decide +kernel
theorem dX5_add_54 : decode cX5_add 54 = .ok (.getfield 10, 3) := by decide +kernel
theorem dX5_add_57 : decode cX5_add 57 = .ok (.invokevirtual 28, 3) := by decide +kernel
theorem dX5_add_60 : decode cX5_add 60 = .ok (.bipush 60, 2) := by decide +kernel
theorem dX5_add_62 : decode cX5_add 62 = .ok (.if_icmp .ne 6, 3) := by decide +kernel
theorem dX5_add_65 : decode cX5_add 65 = .ok (.bipush (-12), 2) := by decide +kernel
theorem dX5_add_67 : decode cX5_add 67 = .ok (.ireturn, 1) := by decide +kernel
theorem dX5_add_68 : decode cX5_add 68 = .ok (.aload_n 0, 1) := by decide +kernel
theorem dX5_add_69 : decode cX5_add 69 = .ok (.getfield 10, 3) := by decide +kernel
theorem dX5_add_72 : decode cX5_add 72 = .ok (.new 19, 3) := by decide +kernel
theorem dX5_add_75 : decode cX5_add 75 = .ok (.dup, 1) := by decide +kernel
theorem dX5_add_76 : decode cX5_add 76 = .ok (.aload_n 0, 1) := by decide +kernel
theorem dX5_add_77 : decode cX5_add 77 = .ok (.getfield 10, 3) := by decide +kernel
theorem dX5_add_80 : decode cX5_add 80 = .ok (.invokevirtual 28, 3) := by decide +kernel
theorem dX5_add_83 : decode cX5_add 83 = .ok (.aload 4, 2) := by decide +kernel
theorem dX5_add_85 : decode cX5_add 85 = .ok (.iload_n 2, 1) := by decide +kernel
theorem dX5_add_86 : decode cX5_add 86 = .ok (.iload_n 3, 1) := by decide +kernel
theorem dX5_add_87 : decode cX5_add 87 = .ok (.iconst 1, 1) := by decide +kernel
theorem dX5_add_88 : decode cX5_add 88 = .ok (.if_icmp .ne 7, 3) := by decide +kernel
theorem dX5_add_91 : decode cX5_add 91 = .ok (.iconst 1, 1) := by decide +kernel
theorem dX5_add_92 : decode cX5_add 92 = .ok (.goto 4, 3) := by decide +kernel
theorem dX5_add_95 : decode cX5_add 95 = .ok (.iconst 0, 1) := by decide +kernel
theorem dX5_add_96 : decode cX5_add 96 = .ok (.invokespecial 21, 3) := by decide +kernel
theorem dX5_add_99 : decode cX5_add 99 = .ok (.invokevirtual 24, 3) := by decide +kernel
theorem dX5_add_102 : decode cX5_add 102 = .ok (.pop, 1) := by decide +kernel
theorem dX5_add_103 : decode cX5_add 103 = .ok (.aload_n 0, 1) := by decide +kernel
theorem dX5_add_104 : decode cX5_add 104 = .ok (.getfield 10, 3) := by decide +kernel
theorem dX5_add_107 : decode cX5_add 107 = .ok (.invokevirtual 28, 3) := by decide +kernel
theorem dX5_add_110 : decode cX5_add 110 = .ok (.iconst 1, 1) := by decide +kernel
theorem dX5_add_111 : decode cX5_add 111 = .ok (.isub, 1) := by decide +kernel
theorem dX5_add_112 : decode cX5_add 112 = .ok (.ireturn, 1) := by decide +kernel
set_option maxRecDepth 20000 in
theorem ggX5_implement_X5_at : GoodIn wsX5_implement wsX5_at := goodIn_r _ [9, 1, 10, 11, 12, 13, 14, 15, 16, 17, 18, 19, 20, 21, 22, 23, 24, 25, 26, 27, 28, 29, 30, 31, 32, 33, 90, 91, 92, 102, 103, 104] (by decide +kernel) (by decide +kernel)
set_option maxRecDepth 20000 in
theorem gX5_implement_X5_at : GoodIn wsX5_implement (wsV RX5 38 RX5 yX5_at wsX5_at) := goodIn_app (goodIn_of _ (by decide +kernel)) ggX5_implement_X5_at
set_option maxRecDepth 20000 in
theorem ggX5_implement_Jx4a65c_size_8abf5 : GoodIn wsX5_implement wsJx4a65c_size_8abf5 := goodIn_r _ [15, 16, 102, 103, 104] (by decide +kernel) (by decide +kernel)
set_option maxRecDepth 20000 in
theorem gX5_implement_Jx4a65c_size_8abf5 : GoodIn wsX5_implement (wsV RX5 28 RJx4a65c yJx4a65c_size_8abf5 wsJx4a65c_size_8abf5) := goodIn_app (goodIn_of _ (by decide +kernel)) ggX5_implement_Jx4a65c_size_8abf5
set_option maxRecDepth 20000 in
theorem ggX5_implement_X5_hasFace : GoodIn wsX5_implement wsX5_hasFace := goodIn_r _ [36, 4, 11, 12, 13, 14, 15, 16, 17, 18, 19, 20, 21, 22, 23, 24, 25, 26, 27, 28, 29, 30, 31, 32, 33, 93, 94, 95, 96, 97, 98, 99, 100, 101, 102, 103, 104] (by decide +kernel) (by decide +kernel)
set_option maxRecDepth 20000 in
theorem gX5_implement_X5_hasFace : GoodIn wsX5_implement (va_wsS RX5 47 yX5_hasFace wsX5_hasFace) := goodIn_app (goodIn_of _ (by decide +kernel)) ggX5_implement_X5_hasFace
set_option maxRecDepth 20000 in
theorem ggX5_implement_Jx4a65c_add_9ea2d : GoodIn wsX5_implement wsJx4a65c_add_9ea2d := goodIn_r _ [40, 41, 42, 33, 16, 43, 44, 45, 14, 46, 47, 48, 49, 50, 51, 52, 53, 54, 55, 56, 57, 58, 59, 60, 61, 62, 63, 64, 65, 66, 67, 68, 69, 70, 71, 72, 73, 74, 75, 76, 77, 78, 79, 80, 81, 82, 83, 84, 85, 86, 87, 88, 89, 102, 103, 104] (by decide +kernel) (by decide +kernel)
set_option maxRecDepth 20000 in
theorem gX5_implement_Jx4a65c_add_9ea2d : GoodIn wsX5_implement (wsV RX5 24 RJx4a65c yJx4a65c_add_9ea2d wsJx4a65c_add_9ea2d) := goodIn_app (goodIn_of _ (by decide +kernel)) ggX5_implement_Jx4a65c_add_9ea2d
theorem dX5_implement_0 : decode cX5_implement 0 = .ok (.aload_n 0, 1) := by decide +kernel
theorem dX5_implement_1 : decode cX5_implement 1 = .ok (.iload_n 1, 1) := by decide +kernel
theorem dX5_implement_2 : decode cX5_implement 2 = .ok (.invokevirtual 38, 3) := by decide +kernel
theorem dX5_implement_5 : decode cX5_implement 5 = .ok (.astore_n 3, 1) := by decide +kernel
theorem dX5_implement_6 : decode cX5_implement 6 = .ok (.aload_n 0, 1) := by decide +kernel
theorem dX5_implement_7 : decode cX5_implement 7 = .ok (.iload_n 2, 1) := by decide +kernel
theorem dX5_implement_8 : decode cX5_implement 8 = .ok (.invokevirtual 38, 3) := by decide +kernel
theorem dX5_implement_11 : decode cX5_implement 11 = .ok (.astore 4, 2) := by decide +kernel
theorem dX5_implement_13 : decode cX5_implement 13 = .ok (.aload_n 3, 1) := by decide +kernel
theorem dX5_implement_14 : decode cX5_implement 14 = .ok (.ifnull 34, 3) := by decide +kernel
theorem dX5_implement_17 : decode cX5_implement 17 = .ok (.aload 4, 2) := by decide +kernel
theorem dX5_implement_19 : decode cX5_implement 19 = .ok (.ifnull 29, 3) := by decide +kernel
theorem dX5_implement_22 : decode cX5_implement 22 = .ok (.iload_n 1, 1) := by decide +kernel
theorem dX5_implement_23 : decode cX5_implement 23 = .ok (.aload_n 0, 1) := by decide +kernel
theorem dX5_implement_24 : decode cX5_implement 24 = .ok (.getfield 10, 3) := by decide +kernel
theorem dX5_implement_27 : decode cX5_implement 27 = .ok (.invokevirtual 28, 3) := by decide +kernel
theorem dX5_implement_30 : decode cX5_implement 30 = .ok (.iconst 1, 1) := by decide +kernel
theorem dX5_implement_31 : decode cX5_implement 31 = .ok (.isub, 1) := by decide +kernel
theorem dX5_implement_32 : decode cX5_implement 32 = .ok (.if_icmp .ne 16, 3) := by decide +kernel
theorem dX5_implement_35 : decode cX5_implement 35 = .ok (.iload_n 2, 1) := by decide +kernel
theorem dX5_implement_36 : decode cX5_implement 36 = .ok (.iload_n 1, 1) := by decide +kernel
theorem dX5_implement_37 : decode cX5_implement 37 = .ok (.if_icmp .eq 11, 3) := by decide +kernel
theorem dX5_implement_40 : decode cX5_implement 40 = .ok (.aload 4, 2) := by decide +kernel
theorem dX5_implement_42 : decode cX5_implement 42 = .ok (.getfield 42, 3) := by decide +kernel
theorem dX5_implement_45 : decode cX5_implement 45 = .ok (.ifCond .ne 6, 3) := by decide +kernel
theorem dX5_implement_48 : decode cX5_implement 48 = .ok (.bipush (-14), 2) := by decide +kernel
theorem dX5_implement_50 : decode cX5_implement 50 = .ok (.ireturn, 1) := by decide +kernel
theorem dX5_implement_51 : decode cX5_implement 51 = .ok (.aload_n 3, 1) := by decide +kernel
theorem dX5_implement_52 : decode cX5_implement 52 = .ok (.getfield 46, 3) := by decide +kernel
theorem dX5_implement_55 : decode cX5_implement 55 = .ok (.invokevirtual 28, 3) := by decide +kernel
theorem dX5_implement_58 : decode cX5_implement 58 = .ok (.ifCond .gt 12, 3) := by decide +kernel
theorem dX5_implement_61 : decode cX5_implement 61 = .ok (.aload_n 3, 1) := by decide +kernel
theorem dX5_implement_62 : decode cX5_implement 62 = .ok (.aload 4, 2) := by decide +kernel
theorem dX5_implement_64 : decode cX5_implement 64 = .ok (.invokestatic 47, 3) := by decide +kernel
theorem dX5_implement_67 : decode cX5_implement 67 = .ok (.ifCond .eq 5, 3) := by decide +kernel
theorem dX5_implement_70 : decode cX5_implement 70 = .ok (.iconst (-1), 1) := by decide +kernel
theorem dX5_implement_71 : decode cX5_implement 71 = .ok (.ireturn, 1) := by decide +kernel
theorem dX5_implement_72 : decode cX5_implement 72 = .ok (.aload_n 3, 1) := by decide +kernel
theorem dX5_implement_73 : decode cX5_implement 73 = .ok (.getfield 51, 3) := by decide +kernel
theorem dX5_implement_76 : decode cX5_implement 76 = .ok (.invokevirtual 28, 3) := by decide +kernel
theorem dX5_implement_79 : decode cX5_implement 79 = .ok (.bipush 20, 2) := by decide +kernel
theorem dX5_implement_81 : decode cX5_implement 81 = .ok (.if_icmp .ne 6, 3) := by decide +kernel
theorem dX5_implement_84 : decode cX5_implement 84 = .ok (.bipush (-12), 2) := by decide +kernel
theorem dX5_implement_86 : decode cX5_implement 86 = .ok (.ireturn, 1) := by decide +kernel
theorem dX5_implement_87 : decode cX5_implement 87 = .ok (.aload_n 3, 1) := by decide +kernel
theorem dX5_implement_88 : decode cX5_implement 88 = .ok (.getfield 51, 3) := by decide +kernel
theorem dX5_implement_91 : decode cX5_implement 91 = .ok (.aload 4, 2) := by decide +kernel
theorem dX5_implement_93 : decode cX5_implement 93 = .ok (.invokevirtual 24, 3) := by decide +kernel
theorem dX5_implement_96 : decode cX5_implement 96 = .ok (.pop, 1) := by decide +kernel
theorem dX5_implement_97 : decode cX5_implement 97 = .ok (.aload_n 3, 1) := by decide +kernel
theorem dX5_implement_98 : decode cX5_implement 98 = .ok (.getfield 51, 3) := by decide +kernel
theorem dX5_implement_101 : decode cX5_implement 101 = .ok (.invokevirtual 28, 3) := by decide +kernel
theorem dX5_implement_104 : decode cX5_implement 104 = .ok (.ireturn, 1) := by decide +kernel
set_option maxRecDepth 20000 in
theorem ggX5_hasFace_Jx4a65c_size_8abf5 : GoodIn wsX5_hasFace wsJx4a65c_size_8abf5 := goodIn_r _ [6, 7, 34, 35, 36] (by decide +kernel) (by decide +kernel)
set_option maxRecDepth 20000 in
theorem gX5_hasFace_Jx4a65c_size_8abf5 : GoodIn wsX5_hasFace (wsV RX5 28 RJx4a65c yJx4a65c_size_8abf5 wsJx4a65c_size_8abf5) := goodIn_app (goodIn_of _ (by decide +kernel)) ggX5_hasFace_Jx4a65c_size_8abf5
set_option maxRecDepth 20000 in
theorem ggX5_hasFace_Jx4a65c_get_915e3 : GoodIn wsX5_hasFace wsJx4a65c_get_915e3 := goodIn_r _ [11, 7, 12, 13, 14, 15, 16, 17, 18, 19, 20, 21, 22, 5, 23, 24, 34, 35, 36] (by decide +kernel) (by decide +kernel)
set_option maxRecDepth 20000 in
theorem gX5_hasFace_Jx4a65c_get_915e3 : GoodIn wsX5_hasFace (wsV RX5 32 RJx4a65c yJx4a65c_get_915e3 wsJx4a65c_get_915e3) := goodIn_app (goodIn_of _ (by decide +kernel)) ggX5_hasFace_Jx4a65c_get_915e3
theorem dX5_hasFace_0 : decode cX5_hasFace 0 = .ok (.iconst 0, 1) := by decide +kernel
theorem dX5_hasFace_1 : decode cX5_hasFace 1 = .ok (.istore_n 2, 1) := by decide +kernel
theorem dX5_hasFace_2 : decode cX5_hasFace 2 = .ok (.iload_n 2, 1) := by decide +kernel
theorem dX5_hasFace_3 : decode cX5_hasFace 3 = .ok (.aload_n 0, 1) := by decide +kernel
theorem dX5_hasFace_4 : decode cX5_hasFace 4 = .ok (.getfield 51, 3) := by decide +kernel
theorem dX5_hasFace_7 : decode cX5_hasFace 7 = .ok (.invokevirtual 28, 3) := by decide +kernel
theorem dX5_hasFace_10 : decode cX5_hasFace 10 = .ok (.if_icmp .ge 23, 3) := by decide +kernel
theorem dX5_hasFace_13 : decode cX5_hasFace 13 = .ok (.aload_n 0, 1) := by decide +kernel
theorem dX5_hasFace_14 : decode cX5_hasFace 14 = .ok (.getfield 51, 3) := by decide +kernel
theorem dX5_hasFace_17 : decode cX5_hasFace 17 = .ok (.iload_n 2, 1) := by decide +kernel
theorem dX5_hasFace_18 : decode cX5_hasFace 18 = .ok (.invokevirtual 32, 3) := by decide +kernel
theorem dX5_hasFace_21 : decode cX5_hasFace 21 = .ok (.aload_n 1, 1) := by decide +kernel
theorem dX5_hasFace_22 : decode cX5_hasFace 22 = .ok (.if_acmp .ne 5, 3) := by decide +kernel
theorem dX5_hasFace_25 : decode cX5_hasFace 25 = .ok (.iconst 1, 1) := by decide +kernel
theorem dX5_hasFace_26 : decode cX5_hasFace 26 = .ok (.ireturn, 1) := by decide +kernel
theorem dX5_hasFace_27 : decode cX5_hasFace 27 = .ok (.iinc 2 1, 3) := by decide +kernel
theorem dX5_hasFace_30 : decode cX5_hasFace 30 = .ok (.goto (-28), 3) := by decide +kernel
theorem dX5_hasFace_33 : decode cX5_hasFace 33 = .ok (.iconst 0, 1) := by decide +kernel
theorem dX5_hasFace_34 : decode cX5_hasFace 34 = .ok (.ireturn, 1) := by decide +kernel
set_option maxRecDepth 20000 in
theorem ggX5_method_Jx4a65c_size_8abf5 : GoodIn wsX5_method wsJx4a65c_size_8abf5 := goodIn_r _ [14, 15, 132, 133, 134] (by decide +kernel) (by decide +kernel)
set_option maxRecDepth 20000 in
theorem gX5_method_Jx4a65c_size_8abf5 : GoodIn wsX5_method (wsV RX5 28 RJx4a65c yJx4a65c_size_8abf5 wsJx4a65c_size_8abf5) := goodIn_app (goodIn_of _ (by decide +kernel)) ggX5_method_Jx4a65c_size_8abf5
set_option maxRecDepth 20000 in
theorem ggX5_method_Jx4a65c_get_915e3 : GoodIn wsX5_method wsJx4a65c_get_915e3 := goodIn_r _ [19, 15, 20, 21, 22, 23, 24, 25, 26, 27, 28, 29, 30, 13, 31, 32, 132, 133, 134] (by decide +kernel) (by decide +kernel)
set_option maxRecDepth 20000 in
theorem gX5_method_Jx4a65c_get_915e3 : GoodIn wsX5_method (wsV RX5 32 RJx4a65c yJx4a65c_get_915e3 wsJx4a65c_get_915e3) := goodIn_app (goodIn_of _ (by decide +kernel)) ggX5_method_Jx4a65c_get_915e3
set_option maxRecDepth 20000 in
theorem ggX5_method_X5_isName : GoodIn wsX5_method wsX5_isName := goodIn_r _ [36] (by decide +kernel) (by decide +kernel)
set_option maxRecDepth 20000 in
theorem gX5_method_X5_isName : GoodIn wsX5_method (va_wsS RX5 54 yX5_isName wsX5_isName) := goodIn_app (goodIn_of _ (by decide +kernel)) ggX5_method_X5_isName
set_option maxRecDepth 20000 in
theorem ggX5_method_X3_named : GoodIn wsX5_method wsX3_named := goodIn_r _ [41, 42, 43, 44, 45, 11, 12, 13, 14, 15, 46, 17, 18, 19, 20, 21, 22, 23, 24, 25, 26, 27, 28, 29, 30, 31, 32, 116, 117, 118, 119, 120, 121, 122, 123, 124, 125, 126, 127, 128, 129, 130, 131, 132, 133, 134] (by decide +kernel) (by decide +kernel)
set_option maxRecDepth 20000 in
theorem gX5_method_X3_named : GoodIn wsX5_method (wsV RX5 58 RX3 yX3_named wsX3_named) := goodIn_app (goodIn_of _ (by decide +kernel)) ggX5_method_X3_named
set_option maxRecDepth 20000 in
theorem ggX5_method_X4_init : GoodIn wsX5_method wsX4_init := goodIn_r _ [49, 50, 51, 52, 53, 54, 55, 56, 57, 58, 59, 125, 126, 127, 128, 129, 130, 131] (by decide +kernel) (by decide +kernel)
set_option maxRecDepth 20000 in
theorem gX5_method_X4_init : GoodIn wsX5_method (wsX4_init) := ggX5_method_X4_init
set_option maxRecDepth 20000 in
theorem ggX5_method_Jx4a65c_add_9ea2d : GoodIn wsX5_method wsJx4a65c_add_9ea2d := goodIn_r _ [63, 64, 65, 32, 15, 66, 67, 68, 13, 69, 70, 71, 72, 73, 74, 75, 76, 77, 78, 79, 80, 81, 82, 83, 84, 85, 86, 87, 88, 89, 90, 91, 92, 93, 94, 95, 96, 97, 98, 99, 100, 101, 102, 103, 104, 105, 106, 107, 108, 109, 110, 111, 112, 132, 133, 134] (by decide +kernel) (by decide +kernel)
set_option maxRecDepth 20000 in
theorem gX5_method_Jx4a65c_add_9ea2d : GoodIn wsX5_method (wsV RX5 24 RJx4a65c yJx4a65c_add_9ea2d wsJx4a65c_add_9ea2d) := goodIn_app (goodIn_of _ (by decide +kernel)) ggX5_method_Jx4a65c_add_9ea2d
theorem dX5_method_0 : decode cX5_method 0 = .ok (.iload_n 1, 1) := by decide +kernel
theorem dX5_method_1 : decode cX5_method 1 = .ok (.iconst 1, 1) := by decide +kernel
theorem dX5_method_2 : decode cX5_method 2 = .ok (.if_icmp .lt 16, 3) := by decide +kernel
theorem dX5_method_5 : decode cX5_method 5 = .ok (.iload_n 1, 1) := by decide +kernel
theorem dX5_method_6 : decode cX5_method 6 = .ok (.aload_n 0, 1) := by decide +kernel
theorem dX5_method_7 : decode cX5_method 7 = .ok (.getfield 10, 3) := by decide +kernel
theorem dX5_method_10 : decode cX5_method 10 = .ok (.invokevirtual 28, 3) := by decide +kernel
theorem dX5_method_13 : decode cX5_method 13 = .ok (.iconst 1, 1) := by decide +kernel
theorem dX5_method_14 : decode cX5_method 14 = .ok (.isub, 1) := by decide +kernel
theorem dX5_method_15 : decode cX5_method 15 = .ok (.if_icmp .eq 6, 3) := by decide +kernel
theorem dX5_method_18 : decode cX5_method 18 = .ok (.bipush (-14), 2) := by decide +kernel
theorem dX5_method_20 : decode cX5_method 20 = .ok (.ireturn, 1) := by decide +kernel
theorem dX5_method_21 : decode cX5_method 21 = .ok (.aload_n 0, 1) := by decide +kernel
theorem dX5_method_22 : decode cX5_method 22 = .ok (.getfield 10, 3) := by decide +kernel
theorem dX5_method_25 : decode cX5_method 25 = .ok (.iload_n 1, 1) := by decide +kernel
theorem dX5_method_26 : decode cX5_method 26 = .ok (.invokevirtual 32, 3) := by decide +kernel
theorem dX5_method_29 : decode cX5_method 29 = .ok (.checkcast 19, 3) := by decide +kernel
theorem dX5_method_32 : decode cX5_method 32 = .ok (.astore 5, 2) := by decide +kernel
theorem dX5_method_34 : decode cX5_method 34 = .ok (.iload_n 2, 1) := by decide +kernel
theorem dX5_method_35 : decode cX5_method 35 = .ok (.invokestatic 54, 3) := by decide +kernel
theorem dX5_method_38 : decode cX5_method 38 = .ok (.ifCond .eq 33, 3) := by decide +kernel
theorem dX5_method_41 : decode cX5_method 41 = .ok (.iload_n 3, 1) := by decide +kernel
theorem dX5_method_42 : decode cX5_method 42 = .ok (.ifCond .lt 29, 3) := by decide +kernel
theorem dX5_method_45 : decode cX5_method 45 = .ok (.iload_n 3, 1) := by decide +kernel
theorem dX5_method_46 : decode cX5_method 46 = .ok (.iconst 3, 1) := by decide +kernel
theorem dX5_method_47 : decode cX5_method 47 = .ok (.if_icmp .gt 24, 3) := by decide +kernel
theorem dX5_method_50 : decode cX5_method 50 = .ok (.iload 4, 2) := by decide +kernel
theorem dX5_method_52 : decode cX5_method 52 = .ok (.ifCond .lt 19, 3) := by decide +kernel
theorem dX5_method_55 : decode cX5_method 55 = .ok (.iload 4, 2) := by decide +kernel
theorem dX5_method_57 : decode cX5_method 57 = .ok (.bipush 7, 2) := by decide +kernel
theorem dX5_method_59 : decode cX5_method 59 = .ok (.if_icmp .gt 12, 3) := by decide +kernel
theorem dX5_method_62 : decode cX5_method 62 = .ok (.aload 5, 2) := by decide +kernel
theorem dX5_method_64 : decode cX5_method 64 = .ok (.iload_n 2, 1) := by decide +kernel
theorem dX5_method_65 : decode cX5_method 65 = .ok (.invokevirtual 58, 3) := by decide +kernel
theorem dX5_method_68 : decode cX5_method 68 = .ok (.ifnull 5, 3) := by decide +kernel
theorem dX5_method_71 : decode cX5_method 71 = .ok (.iconst (-1), 1) := by decide +kernel
theorem dX5_method_72 : decode cX5_method 72 = .ok (.ireturn, 1) := by decide +kernel
theorem dX5_method_73 : decode cX5_method 73 = .ok (.iload 4, 2) := by decide +kernel
theorem dX5_method_75 : decode cX5_method 75 = .ok (.iconst 4, 1) := by decide +kernel
theorem dX5_method_76 : decode cX5_method 76 = .ok (.if_icmp .gt 14, 3) := by decide +kernel
theorem dX5_method_79 : decode cX5_method 79 = .ok (.iload 4, 2) := by decide +kernel
theorem dX5_method_81 : decode cX5_method 81 = .ok (.iconst 4, 1) := by decide +kernel
theorem dX5_method_82 : decode cX5_method 82 = .ok (.if_icmp .ne 10, 3) := by decide +kernel
theorem dX5_method_85 : decode cX5_method 85 = .ok (.iload_n 3, 1) := by decide +kernel
theorem dX5_method_86 : decode cX5_method 86 = .ok (.iconst 3, 1) := by decide +kernel
theorem dX5_method_87 : decode cX5_method 87 = .ok (.if_icmp .ne 5, 3) := by decide +kernel
theorem dX5_method_90 : decode cX5_method 90 = .ok (.iconst (-1), 1) := by decide +kernel
theorem dX5_method_91 : decode cX5_method 91 = .ok (.ireturn, 1) := by decide +kernel
theorem dX5_method_92 : decode cX5_method 92 = .ok (.aload 5, 2) := by decide +kernel
theorem dX5_method_94 : decode cX5_method 94 = .ok (.getfield 42, 3) := by decide +kernel
theorem dX5_method_97 : decode cX5_method 97 = .ok (.ifCond .eq 21, 3) := by decide +kernel
theorem dX5_method_100 : decode cX5_method 100 = .ok (.iload_n 3, 1) := by decide +kernel
theorem dX5_method_101 : decode cX5_method 101 = .ok (.iconst 1, 1) := by decide +kernel
theorem dX5_method_102 : decode cX5_method 102 = .ok (.if_icmp .ne 14, 3) := by decide +kernel
theorem dX5_method_105 : decode cX5_method 105 = .ok (.iload 4, 2) := by decide +kernel
theorem dX5_method_107 : decode cX5_method 107 = .ok (.ifCond .eq 11, 3) := by decide +kernel
theorem dX5_method_110 : decode cX5_method 110 = .ok (.iload 4, 2) := by decide +kernel
theorem dX5_method_112 : decode cX5_method 112 = .ok (.iconst 4, 1) := by decide +kernel
theorem dX5_method_113 : decode cX5_method 113 = .ok (.if_icmp .eq 5, 3) := by decide +kernel
theorem dX5_method_116 : decode cX5_method 116 = .ok (.iconst (-1), 1) := by decide +kernel
theorem dX5_method_117 : decode cX5_method 117 = .ok (.ireturn, 1) := by decide +kernel
theorem dX5_method_118 : decode cX5_method 118 = .ok (.aload_n 0, 1) := by decide +kernel
theorem dX5_method_119 : decode cX5_method 119 = .ok (.getfield 16, 3) := by decide +kernel
theorem dX5_method_122 : decode cX5_method 122 = .ok (.invokevirtual 28, 3) := by decide +kernel
theorem dX5_method_125 : decode cX5_method 125 = .ok (.sipush 400, 3) := by decide +kernel
theorem dX5_method_128 : decode cX5_method 128 = .ok (.if_icmp .ne 6, 3) := by decide +kernel
theorem dX5_method_131 : decode cX5_method 131 = .ok (.bipush (-12), 2) := by decide +kernel
theorem dX5_method_133 : decode cX5_method 133 = .ok (.ireturn, 1) := by decide +kernel
theorem dX5_method_134 : decode cX5_method 134 = .ok (.new 36, 3) := by decide +kernel
theorem dX5_method_137 : decode cX5_method 137 = .ok (.dup, 1) := by decide +kernel
theorem dX5_method_138 : decode cX5_method 138 = .ok (.aload_n 0, 1) := by decide +kernel
theorem dX5_method_139 : decode cX5_method 139 = .ok (.getfield 16, 3) := by decide +kernel
theorem dX5_method_142 : decode cX5_method 142 = .ok (.invokevirtual 28, 3) := by decide +kernel
theorem dX5_method_145 : decode cX5_method 145 = .ok (.aload 5, 2) := by decide +kernel
theorem dX5_method_147 : decode cX5_method 147 = .ok (.iload_n 2, 1) := by decide +kernel
theorem dX5_method_148 : decode cX5_method 148 = .ok (.iload_n 3, 1) := by decide +kernel
theorem dX5_method_149 : decode cX5_method 149 = .ok (.iload 4, 2) := by decide +kernel
theorem dX5_method_151 : decode cX5_method 151 = .ok (.invokespecial 62, 3) := by decide +kernel
theorem dX5_method_154 : decode cX5_method 154 = .ok (.astore 6, 2) := by decide +kernel
theorem dX5_method_156 : decode cX5_method 156 = .ok (.aload_n 0, 1) := by decide +kernel
theorem dX5_method_157 : decode cX5_method 157 = .ok (.getfield 16, 3) := by decide +kernel
theorem dX5_method_160 : decode cX5_method 160 = .ok (.aload 6, 2) := by decide +kernel
theorem dX5_method_162 : decode cX5_method 162 = .ok (.invokevirtual 24, 3) := by decide +kernel
theorem dX5_method_165 : decode cX5_method 165 = .ok (.pop, 1) := by decide +kernel
theorem dX5_method_166 : decode cX5_method 166 = .ok (.aload 5, 2) := by decide +kernel
theorem dX5_method_168 : decode cX5_method 168 = .ok (.getfield 46, 3) := by decide +kernel
theorem dX5_method_171 : decode cX5_method 171 = .ok (.aload 6, 2) := by decide +kernel
theorem dX5_method_173 : decode cX5_method 173 = .ok (.invokevirtual 24, 3) := by decide +kernel
theorem dX5_method_176 : decode cX5_method 176 = .ok (.pop, 1) := by decide +kernel
theorem dX5_method_177 : decode cX5_method 177 = .ok (.aload 6, 2) := by decide +kernel
theorem dX5_method_179 : decode cX5_method 179 = .ok (.getfield 65, 3) := by decide +kernel
theorem dX5_method_182 : decode cX5_method 182 = .ok (.ireturn, 1) := by decide +kernel
set_option maxRecDepth 20000 in
theorem ggX5_lies_X5_leadsTo : GoodIn wsX5_lies wsX5_leadsTo := goodIn_r _ [6, 7, 1, 8, 9, 10, 11, 2, 3, 4, 5, 12, 13, 14, 15, 16, 17, 18, 19, 20, 21, 22, 23, 24, 25, 26, 27, 28, 29, 30, 31, 32, 33, 34, 38, 39, 40, 41, 42, 43, 44, 45, 46, 35, 36, 37, 47, 48, 49] (by decide +kernel) (by decide +kernel)
set_option maxRecDepth 20000 in
theorem gX5_lies_X5_leadsTo : GoodIn wsX5_lies (wsV RX5 72 RX5 yX5_leadsTo wsX5_leadsTo) := goodIn_app (goodIn_of _ (by decide +kernel)) ggX5_lies_X5_leadsTo
theorem dX5_lies_0 : decode cX5_lies 0 = .ok (.aload_n 0, 1) := by decide +kernel
theorem dX5_lies_1 : decode cX5_lies 1 = .ok (.dup, 1) := by decide +kernel
theorem dX5_lies_2 : decode cX5_lies 2 = .ok (.getfield 69, 3) := by decide +kernel
theorem dX5_lies_5 : decode cX5_lies 5 = .ok (.iconst 1, 1) := by decide +kernel
theorem dX5_lies_6 : decode cX5_lies 6 = .ok (.iadd, 1) := by decide +kernel
theorem dX5_lies_7 : decode cX5_lies 7 = .ok (.putfield 69, 3) := by decide +kernel
theorem dX5_lies_10 : decode cX5_lies 10 = .ok (.aload_n 0, 1) := by decide +kernel
theorem dX5_lies_11 : decode cX5_lies 11 = .ok (.aload_n 1, 1) := by decide +kernel
theorem dX5_lies_12 : decode cX5_lies 12 = .ok (.aload_n 2, 1) := by decide +kernel
theorem dX5_lies_13 : decode cX5_lies 13 = .ok (.invokevirtual 72, 3) := by decide +kernel
theorem dX5_lies_16 : decode cX5_lies 16 = .ok (.ireturn, 1) := by decide +kernel
set_option maxRecDepth 20000 in
theorem ggX5_leadsTo_X5_leadsTo : GoodIn wsX5_leadsTo wsX5_leadsTo := goodIn_r _ [0, 1, 2, 3, 4, 5, 6, 7, 8, 9, 10, 11, 12, 13, 14, 15, 16, 17, 18, 19, 20, 21, 22, 23, 24, 25, 26, 27, 28, 29, 30, 31, 32, 33, 34, 35, 36, 37, 38, 39, 40, 41, 42, 43, 44, 45, 46, 47, 48] (by decide +kernel) (by decide +kernel)
set_option maxRecDepth 20000 in
theorem gX5_leadsTo_X5_leadsTo : GoodIn wsX5_leadsTo (wsV RX5 72 RX5 yX5_leadsTo wsX5_leadsTo) := goodIn_app (goodIn_of _ (by decide +kernel)) ggX5_leadsTo_X5_leadsTo
set_option maxRecDepth 20000 in
theorem ggX5_leadsTo_Jx4a65c_size_8abf5 : GoodIn wsX5_leadsTo wsJx4a65c_size_8abf5 := goodIn_r _ [15, 16, 46, 47, 48] (by decide +kernel) (by decide +kernel)
set_option maxRecDepth 20000 in
theorem gX5_leadsTo_Jx4a65c_size_8abf5 : GoodIn wsX5_leadsTo (wsV RX5 28 RJx4a65c yJx4a65c_size_8abf5 wsJx4a65c_size_8abf5) := goodIn_app (goodIn_of _ (by decide +kernel)) ggX5_leadsTo_Jx4a65c_size_8abf5
set_option maxRecDepth 20000 in
theorem ggX5_leadsTo_Jx4a65c_get_915e3 : GoodIn wsX5_leadsTo wsJx4a65c_get_915e3 := goodIn_r _ [20, 16, 21, 22, 23, 24, 25, 26, 27, 28, 29, 30, 31, 14, 32, 33, 46, 47, 48] (by decide +kernel) (by decide +kernel)
set_option maxRecDepth 20000 in
theorem gX5_leadsTo_Jx4a65c_get_915e3 : GoodIn wsX5_leadsTo (wsV RX5 32 RJx4a65c yJx4a65c_get_915e3 wsJx4a65c_get_915e3) := goodIn_app (goodIn_of _ (by decide +kernel)) ggX5_leadsTo_Jx4a65c_get_915e3
theorem dX5_leadsTo_0 : decode cX5_leadsTo 0 = .ok (.aload_n 1, 1) := by decide +kernel
theorem dX5_leadsTo_1 : decode cX5_leadsTo 1 = .ok (.aload_n 2, 1) := by decide +kernel
theorem dX5_leadsTo_2 : decode cX5_leadsTo 2 = .ok (.if_acmp .ne 5, 3) := by decide +kernel
theorem dX5_leadsTo_5 : decode cX5_leadsTo 5 = .ok (.iconst 1, 1) := by decide +kernel
theorem dX5_leadsTo_6 : decode cX5_leadsTo 6 = .ok (.ireturn, 1) := by decide +kernel
theorem dX5_leadsTo_7 : decode cX5_leadsTo 7 = .ok (.aload_n 1, 1) := by decide +kernel
theorem dX5_leadsTo_8 : decode cX5_leadsTo 8 = .ok (.getfield 75, 3) := by decide +kernel
theorem dX5_leadsTo_11 : decode cX5_leadsTo 11 = .ok (.aload_n 0, 1) := by decide +kernel
theorem dX5_leadsTo_12 : decode cX5_leadsTo 12 = .ok (.getfield 69, 3) := by decide +kernel
theorem dX5_leadsTo_15 : decode cX5_leadsTo 15 = .ok (.if_icmp .eq 14, 3) := by decide +kernel
theorem dX5_leadsTo_18 : decode cX5_leadsTo 18 = .ok (.aload_n 1, 1) := by decide +kernel
theorem dX5_leadsTo_19 : decode cX5_leadsTo 19 = .ok (.getfield 76, 3) := by decide +kernel
theorem dX5_leadsTo_22 : decode cX5_leadsTo 22 = .ok (.aload_n 2, 1) := by decide +kernel
theorem dX5_leadsTo_23 : decode cX5_leadsTo 23 = .ok (.getfield 76, 3) := by decide +kernel
theorem dX5_leadsTo_26 : decode cX5_leadsTo 26 = .ok (.if_icmp .ge 5, 3) := by decide +kernel
theorem dX5_leadsTo_29 : decode cX5_leadsTo 29 = .ok (.iconst 0, 1) := by decide +kernel
theorem dX5_leadsTo_30 : decode cX5_leadsTo 30 = .ok (.ireturn, 1) := by decide +kernel
theorem dX5_leadsTo_31 : decode cX5_leadsTo 31 = .ok (.aload_n 1, 1) := by decide +kernel
theorem dX5_leadsTo_32 : decode cX5_leadsTo 32 = .ok (.aload_n 0, 1) := by decide +kernel
theorem dX5_leadsTo_33 : decode cX5_leadsTo 33 = .ok (.getfield 69, 3) := by decide +kernel
theorem dX5_leadsTo_36 : decode cX5_leadsTo 36 = .ok (.putfield 75, 3) := by decide +kernel
theorem dX5_leadsTo_39 : decode cX5_leadsTo 39 = .ok (.aload_n 1, 1) := by decide +kernel
theorem dX5_leadsTo_40 : decode cX5_leadsTo 40 = .ok (.getfield 77, 3) := by decide +kernel
theorem dX5_leadsTo_43 : decode cX5_leadsTo 43 = .ok (.ifnull 17, 3) := by decide +kernel
theorem dX5_leadsTo_46 : decode cX5_leadsTo 46 = .ok (.aload_n 0, 1) := by decide +kernel
theorem dX5_leadsTo_47 : decode cX5_leadsTo 47 = .ok (.aload_n 1, 1) := by decide +kernel
theorem dX5_leadsTo_48 : decode cX5_leadsTo 48 = .ok (.getfield 77, 3) := by decide +kernel
theorem dX5_leadsTo_51 : decode cX5_leadsTo 51 = .ok (.aload_n 2, 1) := by decide +kernel
theorem dX5_leadsTo_52 : decode cX5_leadsTo 52 = .ok (.invokevirtual 72, 3) := by decide +kernel
theorem dX5_leadsTo_55 : decode cX5_leadsTo 55 = .ok (.ifCond .eq 5, 3) := by decide +kernel
theorem dX5_leadsTo_58 : decode cX5_leadsTo 58 = .ok (.iconst 1, 1) := by decide +kernel
theorem dX5_leadsTo_59 : decode cX5_leadsTo 59 = .ok (.ireturn, 1) := by decide +kernel
theorem dX5_leadsTo_60 : decode cX5_leadsTo 60 = .ok (.iconst 0, 1) := by decide +kernel
theorem dX5_leadsTo_61 : decode cX5_leadsTo 61 = .ok (.istore_n 3, 1) := by decide +kernel
theorem dX5_leadsTo_62 : decode cX5_leadsTo 62 = .ok (.iload_n 3, 1) := by decide +kernel
theorem dX5_leadsTo_63 : decode cX5_leadsTo 63 = .ok (.aload_n 1, 1) := by decide +kernel
theorem dX5_leadsTo_64 : decode cX5_leadsTo 64 = .ok (.getfield 51, 3) := by decide +kernel
theorem dX5_leadsTo_67 : decode cX5_leadsTo 67 = .ok (.invokevirtual 28, 3) := by decide +kernel
theorem dX5_leadsTo_70 : decode cX5_leadsTo 70 = .ok (.if_icmp .ge 30, 3) := by decide +kernel
theorem dX5_leadsTo_73 : decode cX5_leadsTo 73 = .ok (.aload_n 0, 1) := by decide +kernel
theorem dX5_leadsTo_74 : decode cX5_leadsTo 74 = .ok (.aload_n 1, 1) := by decide +kernel
theorem dX5_leadsTo_75 : decode cX5_leadsTo 75 = .ok (.getfield 51, 3) := by decide +kernel
theorem dX5_leadsTo_78 : decode cX5_leadsTo 78 = .ok (.iload_n 3, 1) := by decide +kernel
theorem dX5_leadsTo_79 : decode cX5_leadsTo 79 = .ok (.invokevirtual 32, 3) := by decide +kernel
theorem dX5_leadsTo_82 : decode cX5_leadsTo 82 = .ok (.checkcast 19, 3) := by decide +kernel
theorem dX5_leadsTo_85 : decode cX5_leadsTo 85 = .ok (.aload_n 2, 1) := by decide +kernel
theorem dX5_leadsTo_86 : decode cX5_leadsTo 86 = .ok (.invokevirtual 72, 3) := by decide +kernel
theorem dX5_leadsTo_89 : decode cX5_leadsTo 89 = .ok (.ifCond .eq 5, 3) := by decide +kernel
theorem dX5_leadsTo_92 : decode cX5_leadsTo 92 = .ok (.iconst 1, 1) := by decide +kernel
theorem dX5_leadsTo_93 : decode cX5_leadsTo 93 = .ok (.ireturn, 1) := by decide +kernel
theorem dX5_leadsTo_94 : decode cX5_leadsTo 94 = .ok (.iinc 3 1, 3) := by decide +kernel
theorem dX5_leadsTo_97 : decode cX5_leadsTo 97 = .ok (.goto (-35), 3) := by decide +kernel
theorem dX5_leadsTo_100 : decode cX5_leadsTo 100 = .ok (.iconst 0, 1) := by decide +kernel
theorem dX5_leadsTo_101 : decode cX5_leadsTo 101 = .ok (.ireturn, 1) := by decide +kernel
set_option maxRecDepth 20000 in
theorem ggX5_isBelow_X5_at : GoodIn wsX5_isBelow wsX5_at := goodIn_r _ [5, 6, 7, 8, 9, 10, 11, 12, 13, 14, 15, 16, 17, 18, 19, 20, 21, 22, 23, 24, 25, 26, 27, 28, 29, 30, 44, 45, 46, 47, 48, 49] (by decide +kernel) (by decide +kernel)
set_option maxRecDepth 20000 in
theorem gX5_isBelow_X5_at : GoodIn wsX5_isBelow (wsV RX5 38 RX5 yX5_at wsX5_at) := goodIn_app (goodIn_of _ (by decide +kernel)) ggX5_isBelow_X5_at
set_option maxRecDepth 20000 in
theorem ggX5_isBelow_X5_lies : GoodIn wsX5_isBelow wsX5_lies := goodIn_r _ [34, 35, 36, 37, 38, 4, 39, 40, 41, 42, 43, 7, 8, 9, 10, 11, 12, 13, 14, 15, 16, 17, 18, 19, 20, 21, 22, 23, 24, 25, 26, 27, 28, 29, 30, 44, 45, 46, 50, 51, 52, 53, 54, 55, 56, 57, 58, 47, 48, 49] (by decide +kernel) (by decide +kernel)
set_option maxRecDepth 20000 in
theorem gX5_isBelow_X5_lies : GoodIn wsX5_isBelow (wsV RX5 81 RX5 yX5_lies wsX5_lies) := goodIn_app (goodIn_of _ (by decide +kernel)) ggX5_isBelow_X5_lies
theorem dX5_isBelow_0 : decode cX5_isBelow 0 = .ok (.aload_n 0, 1) := by decide +kernel
theorem dX5_isBelow_1 : decode cX5_isBelow 1 = .ok (.iload_n 1, 1) := by decide +kernel
theorem dX5_isBelow_2 : decode cX5_isBelow 2 = .ok (.invokevirtual 38, 3) := by decide +kernel
theorem dX5_isBelow_5 : decode cX5_isBelow 5 = .ok (.ifnull 32, 3) := by decide +kernel
theorem dX5_isBelow_8 : decode cX5_isBelow 8 = .ok (.aload_n 0, 1) := by decide +kernel
theorem dX5_isBelow_9 : decode cX5_isBelow 9 = .ok (.iload_n 2, 1) := by decide +kernel
theorem dX5_isBelow_10 : decode cX5_isBelow 10 = .ok (.invokevirtual 38, 3) := by decide +kernel
theorem dX5_isBelow_13 : decode cX5_isBelow 13 = .ok (.ifnull 24, 3) := by decide +kernel
theorem dX5_isBelow_16 : decode cX5_isBelow 16 = .ok (.aload_n 0, 1) := by decide +kernel
theorem dX5_isBelow_17 : decode cX5_isBelow 17 = .ok (.aload_n 0, 1) := by decide +kernel
theorem dX5_isBelow_18 : decode cX5_isBelow 18 = .ok (.iload_n 1, 1) := by decide +kernel
theorem dX5_isBelow_19 : decode cX5_isBelow 19 = .ok (.invokevirtual 38, 3) := by decide +kernel
theorem dX5_isBelow_22 : decode cX5_isBelow 22 = .ok (.aload_n 0, 1) := by decide +kernel
theorem dX5_isBelow_23 : decode cX5_isBelow 23 = .ok (.iload_n 2, 1) := by decide +kernel
theorem dX5_isBelow_24 : decode cX5_isBelow 24 = .ok (.invokevirtual 38, 3) := by decide +kernel
theorem dX5_isBelow_27 : decode cX5_isBelow 27 = .ok (.invokevirtual 81, 3) := by decide +kernel
theorem dX5_isBelow_30 : decode cX5_isBelow 30 = .ok (.ifCond .eq 7, 3) := by decide +kernel
theorem dX5_isBelow_33 : decode cX5_isBelow 33 = .ok (.iconst 1, 1) := by decide +kernel
theorem dX5_isBelow_34 : decode cX5_isBelow 34 = .ok (.goto 4, 3) := by decide +kernel
theorem dX5_isBelow_37 : decode cX5_isBelow 37 = .ok (.iconst 0, 1) := by decide +kernel
theorem dX5_isBelow_38 : decode cX5_isBelow 38 = .ok (.ireturn, 1) := by decide +kernel
set_option maxRecDepth 20000 in
theorem ggX5_facesOf_Jx4a65c_size_8abf5 : GoodIn wsX5_facesOf wsJx4a65c_size_8abf5 := goodIn_r _ [9, 10, 105, 106, 107] (by decide +kernel) (by decide +kernel)
set_option maxRecDepth 20000 in
theorem gX5_facesOf_Jx4a65c_size_8abf5 : GoodIn wsX5_facesOf (wsV RX5 28 RJx4a65c yJx4a65c_size_8abf5 wsJx4a65c_size_8abf5) := goodIn_app (goodIn_of _ (by decide +kernel)) ggX5_facesOf_Jx4a65c_size_8abf5
set_option maxRecDepth 20000 in
theorem ggX5_facesOf_Jx4a65c_clear_da8c8 : GoodIn wsX5_facesOf wsJx4a65c_clear_da8c8 := goodIn_r _ [14, 15, 16, 17, 10, 105, 106, 107] (by decide +kernel) (by decide +kernel)
set_option maxRecDepth 20000 in
theorem gX5_facesOf_Jx4a65c_clear_da8c8 : GoodIn wsX5_facesOf (wsV RX5 90 RJx4a65c yJx4a65c_clear_da8c8 wsJx4a65c_clear_da8c8) := goodIn_app (goodIn_of _ (by decide +kernel)) ggX5_facesOf_Jx4a65c_clear_da8c8
set_option maxRecDepth 20000 in
theorem ggX5_facesOf_X5_gather : GoodIn wsX5_facesOf wsX5_gather := goodIn_r _ [22, 2, 23, 24, 4, 25, 5, 6, 7, 8, 9, 10, 26, 27, 28, 29, 30, 31, 32, 33, 34, 35, 36, 37, 38, 39, 40, 41, 17, 42, 43, 44, 45, 15, 16, 46, 47, 48, 49, 50, 51, 52, 53, 54, 55, 56, 57, 58, 59, 60, 61, 62, 63, 64, 65, 66, 67, 68, 69, 70, 71, 72, 73, 74, 75, 76, 77, 78, 79, 80, 81, 82, 83, 84, 85, 86, 87, 88, 89, 90, 91, 92, 18, 19, 20, 21, 93, 94, 95, 96, 97, 98, 99, 100, 101, 102, 103, 104, 105, 106, 107] (by decide +kernel) (by decide +kernel)
set_option maxRecDepth 20000 in
theorem gX5_facesOf_X5_gather : GoodIn wsX5_facesOf (wsV RX5 93 RX5 yX5_gather wsX5_gather) := goodIn_app (goodIn_of _ (by decide +kernel)) ggX5_facesOf_X5_gather
theorem dX5_facesOf_0 : decode cX5_facesOf 0 = .ok (.aload_n 1, 1) := by decide +kernel
theorem dX5_facesOf_1 : decode cX5_facesOf 1 = .ok (.getfield 84, 3) := by decide +kernel
theorem dX5_facesOf_4 : decode cX5_facesOf 4 = .ok (.aload_n 1, 1) := by decide +kernel
theorem dX5_facesOf_5 : decode cX5_facesOf 5 = .ok (.getfield 51, 3) := by decide +kernel
theorem dX5_facesOf_8 : decode cX5_facesOf 8 = .ok (.invokevirtual 28, 3) := by decide +kernel
theorem dX5_facesOf_11 : decode cX5_facesOf 11 = .ok (.if_icmp .ne 8, 3) := by decide +kernel
theorem dX5_facesOf_14 : decode cX5_facesOf 14 = .ok (.aload_n 1, 1) := by decide +kernel
theorem dX5_facesOf_15 : decode cX5_facesOf 15 = .ok (.getfield 87, 3) := by decide +kernel
theorem dX5_facesOf_18 : decode cX5_facesOf 18 = .ok (.areturn, 1) := by decide +kernel
theorem dX5_facesOf_19 : decode cX5_facesOf 19 = .ok (.aload_n 1, 1) := by decide +kernel
theorem dX5_facesOf_20 : decode cX5_facesOf 20 = .ok (.aload_n 1, 1) := by decide +kernel
theorem dX5_facesOf_21 : decode cX5_facesOf 21 = .ok (.getfield 51, 3) := by decide +kernel
theorem dX5_facesOf_24 : decode cX5_facesOf 24 = .ok (.invokevirtual 28, 3) := by decide +kernel
theorem dX5_facesOf_27 : decode cX5_facesOf 27 = .ok (.putfield 84, 3) := by decide +kernel
theorem dX5_facesOf_30 : decode cX5_facesOf 30 = .ok (.aload_n 1, 1) := by decide +kernel
theorem dX5_facesOf_31 : decode cX5_facesOf 31 = .ok (.getfield 87, 3) := by decide +kernel
theorem dX5_facesOf_34 : decode cX5_facesOf 34 = .ok (.invokevirtual 90, 3) := by decide +kernel
theorem dX5_facesOf_37 : decode cX5_facesOf 37 = .ok (.aload_n 0, 1) := by decide +kernel
theorem dX5_facesOf_38 : decode cX5_facesOf 38 = .ok (.dup, 1) := by decide +kernel
theorem dX5_facesOf_39 : decode cX5_facesOf 39 = .ok (.getfield 69, 3) := by decide +kernel
theorem dX5_facesOf_42 : decode cX5_facesOf 42 = .ok (.iconst 1, 1) := by decide +kernel
theorem dX5_facesOf_43 : decode cX5_facesOf 43 = .ok (.iadd, 1) := by decide +kernel
theorem dX5_facesOf_44 : decode cX5_facesOf 44 = .ok (.putfield 69, 3) := by decide +kernel
theorem dX5_facesOf_47 : decode cX5_facesOf 47 = .ok (.aload_n 0, 1) := by decide +kernel
theorem dX5_facesOf_48 : decode cX5_facesOf 48 = .ok (.aload_n 1, 1) := by decide +kernel
theorem dX5_facesOf_49 : decode cX5_facesOf 49 = .ok (.aload_n 1, 1) := by decide +kernel
theorem dX5_facesOf_50 : decode cX5_facesOf 50 = .ok (.getfield 87, 3) := by decide +kernel
theorem dX5_facesOf_53 : decode cX5_facesOf 53 = .ok (.invokevirtual 93, 3) := by decide +kernel
theorem dX5_facesOf_56 : decode cX5_facesOf 56 = .ok (.aload_n 1, 1) := by decide +kernel
theorem dX5_facesOf_57 : decode cX5_facesOf 57 = .ok (.getfield 87, 3) := by decide +kernel
theorem dX5_facesOf_60 : decode cX5_facesOf 60 = .ok (.areturn, 1) := by decide +kernel
set_option maxRecDepth 20000 in
theorem ggX5_gather_Jx4a65c_size_8abf5 : GoodIn wsX5_gather wsJx4a65c_size_8abf5 := goodIn_r _ [10, 11, 98, 99, 100] (by decide +kernel) (by decide +kernel)
set_option maxRecDepth 20000 in
theorem gX5_gather_Jx4a65c_size_8abf5 : GoodIn wsX5_gather (wsV RX5 28 RJx4a65c yJx4a65c_size_8abf5 wsJx4a65c_size_8abf5) := goodIn_app (goodIn_of _ (by decide +kernel)) ggX5_gather_Jx4a65c_size_8abf5
set_option maxRecDepth 20000 in
theorem ggX5_gather_Jx4a65c_get_915e3 : GoodIn wsX5_gather wsJx4a65c_get_915e3 := goodIn_r _ [15, 11, 16, 17, 18, 19, 20, 21, 22, 23, 24, 25, 26, 9, 27, 28, 98, 99, 100] (by decide +kernel) (by decide +kernel)
set_option maxRecDepth 20000 in
theorem gX5_gather_Jx4a65c_get_915e3 : GoodIn wsX5_gather (wsV RX5 32 RJx4a65c yJx4a65c_get_915e3 wsJx4a65c_get_915e3) := goodIn_app (goodIn_of _ (by decide +kernel)) ggX5_gather_Jx4a65c_get_915e3
set_option maxRecDepth 20000 in
theorem ggX5_gather_Jx4a65c_add_9ea2d : GoodIn wsX5_gather wsJx4a65c_add_9ea2d := goodIn_r _ [32, 33, 34, 28, 11, 35, 36, 37, 9, 38, 39, 40, 41, 42, 43, 44, 45, 46, 47, 48, 49, 50, 51, 52, 53, 54, 55, 56, 57, 58, 59, 60, 61, 62, 63, 64, 65, 66, 67, 68, 69, 70, 71, 72, 73, 74, 75, 76, 77, 78, 79, 80, 81, 98, 99, 100] (by decide +kernel) (by decide +kernel)
set_option maxRecDepth 20000 in
theorem gX5_gather_Jx4a65c_add_9ea2d : GoodIn wsX5_gather (wsV RX5 24 RJx4a65c yJx4a65c_add_9ea2d wsJx4a65c_add_9ea2d) := goodIn_app (goodIn_of _ (by decide +kernel)) ggX5_gather_Jx4a65c_add_9ea2d
set_option maxRecDepth 20000 in
theorem ggX5_gather_X5_gather : GoodIn wsX5_gather wsX5_gather := goodIn_r _ [0, 1, 2, 3, 4, 5, 6, 7, 8, 9, 10, 11, 12, 13, 14, 15, 16, 17, 18, 19, 20, 21, 22, 23, 24, 25, 26, 27, 28, 29, 30, 31, 32, 33, 34, 35, 36, 37, 38, 39, 40, 41, 42, 43, 44, 45, 46, 47, 48, 49, 50, 51, 52, 53, 54, 55, 56, 57, 58, 59, 60, 61, 62, 63, 64, 65, 66, 67, 68, 69, 70, 71, 72, 73, 74, 75, 76, 77, 78, 79, 80, 81, 82, 83, 84, 85, 86, 87, 88, 89, 90, 91, 92, 93, 94, 95, 96, 97, 98, 99, 100] (by decide +kernel) (by decide +kernel)
set_option maxRecDepth 20000 in
theorem gX5_gather_X5_gather : GoodIn wsX5_gather (wsV RX5 93 RX5 yX5_gather wsX5_gather) := goodIn_app (goodIn_of _ (by decide +kernel)) ggX5_gather_X5_gather
theorem dX5_gather_0 : decode cX5_gather 0 = .ok (.iconst 0, 1) := by decide +kernel
theorem dX5_gather_1 : decode cX5_gather 1 = .ok (.istore_n 3, 1) := by decide +kernel
theorem dX5_gather_2 : decode cX5_gather 2 = .ok (.iload_n 3, 1) := by decide +kernel
theorem dX5_gather_3 : decode cX5_gather 3 = .ok (.aload_n 1, 1) := by decide +kernel
theorem dX5_gather_4 : decode cX5_gather 4 = .ok (.getfield 51, 3) := by decide +kernel
theorem dX5_gather_7 : decode cX5_gather 7 = .ok (.invokevirtual 28, 3) := by decide +kernel
theorem dX5_gather_10 : decode cX5_gather 10 = .ok (.if_icmp .ge 60, 3) := by decide +kernel
theorem dX5_gather_13 : decode cX5_gather 13 = .ok (.aload_n 1, 1) := by decide +kernel
theorem dX5_gather_14 : decode cX5_gather 14 = .ok (.getfield 51, 3) := by decide +kernel
theorem dX5_gather_17 : decode cX5_gather 17 = .ok (.iload_n 3, 1) := by decide +kernel
theorem dX5_gather_18 : decode cX5_gather 18 = .ok (.invokevirtual 32, 3) := by decide +kernel
theorem dX5_gather_21 : decode cX5_gather 21 = .ok (.checkcast 19, 3) := by decide +kernel
theorem dX5_gather_24 : decode cX5_gather 24 = .ok (.astore 4, 2) := by decide +kernel
theorem dX5_gather_26 : decode cX5_gather 26 = .ok (.aload 4, 2) := by decide +kernel
theorem dX5_gather_28 : decode cX5_gather 28 = .ok (.getfield 75, 3) := by decide +kernel
theorem dX5_gather_31 : decode cX5_gather 31 = .ok (.aload_n 0, 1) := by decide +kernel
theorem dX5_gather_32 : decode cX5_gather 32 = .ok (.getfield 69, 3) := by decide +kernel
theorem dX5_gather_35 : decode cX5_gather 35 = .ok (.if_icmp .ne 6, 3) := by decide +kernel
theorem dX5_gather_38 : decode cX5_gather 38 = .ok (.goto 26, 3) := by decide +kernel
theorem dX5_gather_41 : decode cX5_gather 41 = .ok (.aload 4, 2) := by decide +kernel
theorem dX5_gather_43 : decode cX5_gather 43 = .ok (.aload_n 0, 1) := by decide +kernel
theorem dX5_gather_44 : decode cX5_gather 44 = .ok (.getfield 69, 3) := by decide +kernel
theorem dX5_gather_47 : decode cX5_gather 47 = .ok (.putfield 75, 3) := by decide +kernel
theorem dX5_gather_50 : decode cX5_gather 50 = .ok (.aload_n 2, 1) := by decide +kernel
theorem dX5_gather_51 : decode cX5_gather 51 = .ok (.aload 4, 2) := by decide +kernel
theorem dX5_gather_53 : decode cX5_gather 53 = .ok (.invokevirtual 24, 3) := by decide +kernel
theorem dX5_gather_56 : decode cX5_gather 56 = .ok (.pop, 1) := by decide +kernel
theorem dX5_gather_57 : decode cX5_gather 57 = .ok (.aload_n 0, 1) := by decide +kernel
theorem dX5_gather_58 : decode cX5_gather 58 = .ok (.aload 4, 2) := by decide +kernel
theorem dX5_gather_60 : decode cX5_gather 60 = .ok (.aload_n 2, 1) := by decide +kernel
theorem dX5_gather_61 : decode cX5_gather 61 = .ok (.invokevirtual 93, 3) := by decide +kernel
theorem dX5_gather_64 : decode cX5_gather 64 = .ok (.iinc 3 1, 3) := by decide +kernel
theorem dX5_gather_67 : decode cX5_gather 67 = .ok (.goto (-65), 3) := by decide +kernel
theorem dX5_gather_70 : decode cX5_gather 70 = .ok (.aload_n 1, 1) := by decide +kernel
theorem dX5_gather_71 : decode cX5_gather 71 = .ok (.getfield 77, 3) := by decide +kernel
theorem dX5_gather_74 : decode cX5_gather 74 = .ok (.ifnull 12, 3) := by decide +kernel
theorem dX5_gather_77 : decode cX5_gather 77 = .ok (.aload_n 0, 1) := by decide +kernel
theorem dX5_gather_78 : decode cX5_gather 78 = .ok (.aload_n 1, 1) := by decide +kernel
theorem dX5_gather_79 : decode cX5_gather 79 = .ok (.getfield 77, 3) := by decide +kernel
theorem dX5_gather_82 : decode cX5_gather 82 = .ok (.aload_n 2, 1) := by decide +kernel
theorem dX5_gather_83 : decode cX5_gather 83 = .ok (.invokevirtual 93, 3) := by decide +kernel
theorem dX5_gather_86 : decode cX5_gather 86 = .ok (.return_, 1) := by decide +kernel
set_option maxRecDepth 20000 in
theorem ggX5_face_X5_at : GoodIn wsX5_face wsX5_at := goodIn_r _ [7, 8, 1, 9, 10, 11, 12, 13, 14, 15, 16, 17, 18, 19, 20, 21, 22, 23, 24, 25, 26, 27, 28, 29, 30, 31, 112, 113, 114, 115, 116, 117] (by decide +kernel) (by decide +kernel)
set_option maxRecDepth 20000 in
theorem gX5_face_X5_at : GoodIn wsX5_face (wsV RX5 38 RX5 yX5_at wsX5_at) := goodIn_app (goodIn_of _ (by decide +kernel)) ggX5_face_X5_at
set_option maxRecDepth 20000 in
theorem ggX5_face_X5_facesOf : GoodIn wsX5_face wsX5_facesOf := goodIn_r _ [35, 36, 37, 38, 39, 9, 10, 11, 12, 13, 14, 40, 41, 42, 43, 44, 45, 31, 46, 47, 48, 6, 49, 1, 50, 51, 15, 16, 17, 18, 19, 20, 21, 22, 23, 24, 25, 26, 27, 28, 29, 30, 52, 53, 54, 55, 56, 57, 58, 59, 60, 61, 62, 63, 64, 65, 66, 67, 68, 69, 70, 71, 72, 73, 74, 75, 76, 77, 78, 79, 80, 81, 82, 83, 84, 85, 86, 87, 88, 89, 90, 91, 92, 93, 94, 95, 96, 97, 98, 99, 100, 101, 102, 103, 104, 105, 106, 107, 108, 109, 110, 111, 112, 113, 114, 115, 116, 117] (by decide +kernel) (by decide +kernel)
set_option maxRecDepth 20000 in
theorem gX5_face_X5_facesOf : GoodIn wsX5_face (wsV RX5 97 RX5 yX5_facesOf wsX5_facesOf) := goodIn_app (goodIn_of _ (by decide +kernel)) ggX5_face_X5_facesOf
set_option maxRecDepth 20000 in
theorem ggX5_face_Jx4a65c_size_8abf5 : GoodIn wsX5_face wsJx4a65c_size_8abf5 := goodIn_r _ [13, 14, 115, 116, 117] (by decide +kernel) (by decide +kernel)
set_option maxRecDepth 20000 in
theorem gX5_face_Jx4a65c_size_8abf5 : GoodIn wsX5_face (wsV RX5 28 RJx4a65c yJx4a65c_size_8abf5 wsJx4a65c_size_8abf5) := goodIn_app (goodIn_of _ (by decide +kernel)) ggX5_face_Jx4a65c_size_8abf5
set_option maxRecDepth 20000 in
theorem ggX5_face_Jx4a65c_get_915e3 : GoodIn wsX5_face wsJx4a65c_get_915e3 := goodIn_r _ [18, 14, 19, 20, 21, 22, 23, 24, 25, 26, 27, 28, 29, 12, 30, 31, 115, 116, 117] (by decide +kernel) (by decide +kernel)
set_option maxRecDepth 20000 in
theorem gX5_face_Jx4a65c_get_915e3 : GoodIn wsX5_face (wsV RX5 32 RJx4a65c yJx4a65c_get_915e3 wsJx4a65c_get_915e3) := goodIn_app (goodIn_of _ (by decide +kernel)) ggX5_face_Jx4a65c_get_915e3
theorem dX5_face_0 : decode cX5_face 0 = .ok (.aload_n 0, 1) := by decide +kernel
theorem dX5_face_1 : decode cX5_face 1 = .ok (.iload_n 1, 1) := by decide +kernel
theorem dX5_face_2 : decode cX5_face 2 = .ok (.invokevirtual 38, 3) := by decide +kernel
theorem dX5_face_5 : decode cX5_face 5 = .ok (.ifnull 7, 3) := by decide +kernel
theorem dX5_face_8 : decode cX5_face 8 = .ok (.iload_n 2, 1) := by decide +kernel
theorem dX5_face_9 : decode cX5_face 9 = .ok (.ifCond .ge 5, 3) := by decide +kernel
theorem dX5_face_12 : decode cX5_face 12 = .ok (.iconst (-1), 1) := by decide +kernel
theorem dX5_face_13 : decode cX5_face 13 = .ok (.ireturn, 1) := by decide +kernel
theorem dX5_face_14 : decode cX5_face 14 = .ok (.aload_n 0, 1) := by decide +kernel
theorem dX5_face_15 : decode cX5_face 15 = .ok (.aload_n 0, 1) := by decide +kernel
theorem dX5_face_16 : decode cX5_face 16 = .ok (.iload_n 1, 1) := by decide +kernel
theorem dX5_face_17 : decode cX5_face 17 = .ok (.invokevirtual 38, 3) := by decide +kernel
theorem dX5_face_20 : decode cX5_face 20 = .ok (.invokevirtual 97, 3) := by decide +kernel
theorem dX5_face_23 : decode cX5_face 23 = .ok (.astore_n 3, 1) := by decide +kernel
theorem dX5_face_24 : decode cX5_face 24 = .ok (.iload_n 2, 1) := by decide +kernel
theorem dX5_face_25 : decode cX5_face 25 = .ok (.aload_n 3, 1) := by decide +kernel
theorem dX5_face_26 : decode cX5_face 26 = .ok (.invokevirtual 28, 3) := by decide +kernel
theorem dX5_face_29 : decode cX5_face 29 = .ok (.if_icmp .ge 17, 3) := by decide +kernel
theorem dX5_face_32 : decode cX5_face 32 = .ok (.aload_n 3, 1) := by decide +kernel
theorem dX5_face_33 : decode cX5_face 33 = .ok (.iload_n 2, 1) := by decide +kernel
theorem dX5_face_34 : decode cX5_face 34 = .ok (.invokevirtual 32, 3) := by decide +kernel
theorem dX5_face_37 : decode cX5_face 37 = .ok (.checkcast 19, 3) := by decide +kernel
theorem dX5_face_40 : decode cX5_face 40 = .ok (.getfield 76, 3) := by decide +kernel
theorem dX5_face_43 : decode cX5_face 43 = .ok (.goto 4, 3) := by decide +kernel
theorem dX5_face_46 : decode cX5_face 46 = .ok (.iconst (-1), 1) := by decide +kernel
theorem dX5_face_47 : decode cX5_face 47 = .ok (.ireturn, 1) := by decide +kernel
theorem dX5_isFree_0 : decode cX5_isFree 0 = .ok (.aload_n 0, 1) := by decide +kernel
theorem dX5_isFree_1 : decode cX5_isFree 1 = .ok (.getfield 101, 3) := by decide +kernel
theorem dX5_isFree_4 : decode cX5_isFree 4 = .ok (.ifCond .ne 15, 3) := by decide +kernel
theorem dX5_isFree_7 : decode cX5_isFree 7 = .ok (.aload_n 0, 1) := by decide +kernel
theorem dX5_isFree_8 : decode cX5_isFree 8 = .ok (.getfield 104, 3) := by decide +kernel
theorem dX5_isFree_11 : decode cX5_isFree 11 = .ok (.iconst 3, 1) := by decide +kernel
theorem dX5_isFree_12 : decode cX5_isFree 12 = .ok (.if_icmp .eq 7, 3) := by decide +kernel
theorem dX5_isFree_15 : decode cX5_isFree 15 = .ok (.iconst 1, 1) := by decide +kernel
theorem dX5_isFree_16 : decode cX5_isFree 16 = .ok (.goto 4, 3) := by decide +kernel
theorem dX5_isFree_19 : decode cX5_isFree 19 = .ok (.iconst 0, 1) := by decide +kernel
theorem dX5_isFree_20 : decode cX5_isFree 20 = .ok (.ireturn, 1) := by decide +kernel
set_option maxRecDepth 20000 in
theorem ggX5_goesOver_X5_isFree : GoodIn wsX5_goesOver wsX5_isFree := goodIn_r _ [9, 10, 3, 42, 43, 44, 45, 46, 47, 48] (by decide +kernel) (by decide +kernel)
set_option maxRecDepth 20000 in
theorem gX5_goesOver_X5_isFree : GoodIn wsX5_goesOver (va_wsS RX5 113 yX5_isFree wsX5_isFree) := goodIn_app (goodIn_of _ (by decide +kernel)) ggX5_goesOver_X5_isFree
set_option maxRecDepth 20000 in
theorem ggX5_goesOver_X3_named : GoodIn wsX5_goesOver wsX3_named := goodIn_r _ [15, 16, 17, 18, 19, 20, 21, 22, 23, 24, 25, 26, 27, 28, 29, 30, 31, 32, 33, 34, 35, 36, 37, 38, 39, 40, 41, 49, 50, 51, 52, 53, 54, 55, 56, 57, 42, 43, 44, 45, 46, 47, 48, 58, 59, 60] (by decide +kernel) (by decide +kernel)
set_option maxRecDepth 20000 in
theorem gX5_goesOver_X3_named : GoodIn wsX5_goesOver (wsV RX5 58 RX3 yX3_named wsX3_named) := goodIn_app (goodIn_of _ (by decide +kernel)) ggX5_goesOver_X3_named
theorem dX5_goesOver_0 : decode cX5_goesOver 0 = .ok (.aload_n 0, 1) := by decide +kernel
theorem dX5_goesOver_1 : decode cX5_goesOver 1 = .ok (.getfield 107, 3) := by decide +kernel
theorem dX5_goesOver_4 : decode cX5_goesOver 4 = .ok (.aload_n 1, 1) := by decide +kernel
theorem dX5_goesOver_5 : decode cX5_goesOver 5 = .ok (.getfield 107, 3) := by decide +kernel
theorem dX5_goesOver_8 : decode cX5_goesOver 8 = .ok (.if_acmp .eq 28, 3) := by decide +kernel
theorem dX5_goesOver_11 : decode cX5_goesOver 11 = .ok (.aload_n 0, 1) := by decide +kernel
theorem dX5_goesOver_12 : decode cX5_goesOver 12 = .ok (.getfield 110, 3) := by decide +kernel
theorem dX5_goesOver_15 : decode cX5_goesOver 15 = .ok (.aload_n 1, 1) := by decide +kernel
theorem dX5_goesOver_16 : decode cX5_goesOver 16 = .ok (.getfield 110, 3) := by decide +kernel
theorem dX5_goesOver_19 : decode cX5_goesOver 19 = .ok (.if_icmp .ne 17, 3) := by decide +kernel
theorem dX5_goesOver_22 : decode cX5_goesOver 22 = .ok (.aload_n 0, 1) := by decide +kernel
theorem dX5_goesOver_23 : decode cX5_goesOver 23 = .ok (.invokestatic 113, 3) := by decide +kernel
theorem dX5_goesOver_26 : decode cX5_goesOver 26 = .ok (.ifCond .eq 10, 3) := by decide +kernel
theorem dX5_goesOver_29 : decode cX5_goesOver 29 = .ok (.aload_n 1, 1) := by decide +kernel
theorem dX5_goesOver_30 : decode cX5_goesOver 30 = .ok (.invokestatic 113, 3) := by decide +kernel
theorem dX5_goesOver_33 : decode cX5_goesOver 33 = .ok (.ifCond .ne 5, 3) := by decide +kernel
theorem dX5_goesOver_36 : decode cX5_goesOver 36 = .ok (.iconst 0, 1) := by decide +kernel
theorem dX5_goesOver_37 : decode cX5_goesOver 37 = .ok (.ireturn, 1) := by decide +kernel
theorem dX5_goesOver_38 : decode cX5_goesOver 38 = .ok (.aload_n 1, 1) := by decide +kernel
theorem dX5_goesOver_39 : decode cX5_goesOver 39 = .ok (.getfield 104, 3) := by decide +kernel
theorem dX5_goesOver_42 : decode cX5_goesOver 42 = .ok (.iconst 1, 1) := by decide +kernel
theorem dX5_goesOver_43 : decode cX5_goesOver 43 = .ok (.if_icmp .eq 28, 3) := by decide +kernel
theorem dX5_goesOver_46 : decode cX5_goesOver 46 = .ok (.aload_n 1, 1) := by decide +kernel
theorem dX5_goesOver_47 : decode cX5_goesOver 47 = .ok (.getfield 104, 3) := by decide +kernel
theorem dX5_goesOver_50 : decode cX5_goesOver 50 = .ok (.iconst 2, 1) := by decide +kernel
theorem dX5_goesOver_51 : decode cX5_goesOver 51 = .ok (.if_icmp .eq 20, 3) := by decide +kernel
theorem dX5_goesOver_54 : decode cX5_goesOver 54 = .ok (.aload_n 0, 1) := by decide +kernel
theorem dX5_goesOver_55 : decode cX5_goesOver 55 = .ok (.getfield 107, 3) := by decide +kernel
theorem dX5_goesOver_58 : decode cX5_goesOver 58 = .ok (.getfield 117, 3) := by decide +kernel
theorem dX5_goesOver_61 : decode cX5_goesOver 61 = .ok (.aload_n 1, 1) := by decide +kernel
theorem dX5_goesOver_62 : decode cX5_goesOver 62 = .ok (.getfield 107, 3) := by decide +kernel
theorem dX5_goesOver_65 : decode cX5_goesOver 65 = .ok (.getfield 117, 3) := by decide +kernel
theorem dX5_goesOver_68 : decode cX5_goesOver 68 = .ok (.if_icmp .ne 5, 3) := by decide +kernel
theorem dX5_goesOver_71 : decode cX5_goesOver 71 = .ok (.iconst 1, 1) := by decide +kernel
theorem dX5_goesOver_72 : decode cX5_goesOver 72 = .ok (.ireturn, 1) := by decide +kernel
theorem dX5_goesOver_73 : decode cX5_goesOver 73 = .ok (.iconst 1, 1) := by decide +kernel
theorem dX5_goesOver_74 : decode cX5_goesOver 74 = .ok (.aload_n 0, 1) := by decide +kernel
theorem dX5_goesOver_75 : decode cX5_goesOver 75 = .ok (.getfield 107, 3) := by decide +kernel
theorem dX5_goesOver_78 : decode cX5_goesOver 78 = .ok (.getfield 117, 3) := by decide +kernel
theorem dX5_goesOver_81 : decode cX5_goesOver 81 = .ok (.ishl, 1) := by decide +kernel
theorem dX5_goesOver_82 : decode cX5_goesOver 82 = .ok (.istore_n 2, 1) := by decide +kernel
theorem dX5_goesOver_83 : decode cX5_goesOver 83 = .ok (.aload_n 0, 1) := by decide +kernel
theorem dX5_goesOver_84 : decode cX5_goesOver 84 = .ok (.getfield 107, 3) := by decide +kernel
theorem dX5_goesOver_87 : decode cX5_goesOver 87 = .ok (.getfield 77, 3) := by decide +kernel
theorem dX5_goesOver_90 : decode cX5_goesOver 90 = .ok (.astore_n 3, 1) := by decide +kernel
theorem dX5_goesOver_91 : decode cX5_goesOver 91 = .ok (.aload_n 3, 1) := by decide +kernel
theorem dX5_goesOver_92 : decode cX5_goesOver 92 = .ok (.ifnull 102, 3) := by decide +kernel
theorem dX5_goesOver_95 : decode cX5_goesOver 95 = .ok (.aload_n 3, 1) := by decide +kernel
theorem dX5_goesOver_96 : decode cX5_goesOver 96 = .ok (.aload_n 1, 1) := by decide +kernel
theorem dX5_goesOver_97 : decode cX5_goesOver 97 = .ok (.getfield 107, 3) := by decide +kernel
theorem dX5_goesOver_100 : decode cX5_goesOver 100 = .ok (.if_acmp .eq 94, 3) := by decide +kernel
theorem dX5_goesOver_103 : decode cX5_goesOver 103 = .ok (.aload_n 3, 1) := by decide +kernel
theorem dX5_goesOver_104 : decode cX5_goesOver 104 = .ok (.aload_n 0, 1) := by decide +kernel
theorem dX5_goesOver_105 : decode cX5_goesOver 105 = .ok (.getfield 110, 3) := by decide +kernel
theorem dX5_goesOver_108 : decode cX5_goesOver 108 = .ok (.invokevirtual 58, 3) := by decide +kernel
theorem dX5_goesOver_111 : decode cX5_goesOver 111 = .ok (.astore 4, 2) := by decide +kernel
theorem dX5_goesOver_113 : decode cX5_goesOver 113 = .ok (.aload 4, 2) := by decide +kernel
theorem dX5_goesOver_115 : decode cX5_goesOver 115 = .ok (.ifnull 71, 3) := by decide +kernel
theorem dX5_goesOver_118 : decode cX5_goesOver 118 = .ok (.aload 4, 2) := by decide +kernel
theorem dX5_goesOver_120 : decode cX5_goesOver 120 = .ok (.invokestatic 113, 3) := by decide +kernel
theorem dX5_goesOver_123 : decode cX5_goesOver 123 = .ok (.ifCond .ne 6, 3) := by decide +kernel
theorem dX5_goesOver_126 : decode cX5_goesOver 126 = .ok (.goto 60, 3) := by decide +kernel
theorem dX5_goesOver_129 : decode cX5_goesOver 129 = .ok (.aload 4, 2) := by decide +kernel
theorem dX5_goesOver_131 : decode cX5_goesOver 131 = .ok (.getfield 104, 3) := by decide +kernel
theorem dX5_goesOver_134 : decode cX5_goesOver 134 = .ok (.iconst 1, 1) := by decide +kernel
theorem dX5_goesOver_135 : decode cX5_goesOver 135 = .ok (.if_icmp .eq 26, 3) := by decide +kernel
theorem dX5_goesOver_138 : decode cX5_goesOver 138 = .ok (.aload 4, 2) := by decide +kernel
theorem dX5_goesOver_140 : decode cX5_goesOver 140 = .ok (.getfield 104, 3) := by decide +kernel
theorem dX5_goesOver_143 : decode cX5_goesOver 143 = .ok (.iconst 2, 1) := by decide +kernel
theorem dX5_goesOver_144 : decode cX5_goesOver 144 = .ok (.if_icmp .eq 17, 3) := by decide +kernel
theorem dX5_goesOver_147 : decode cX5_goesOver 147 = .ok (.iload_n 2, 1) := by decide +kernel
theorem dX5_goesOver_148 : decode cX5_goesOver 148 = .ok (.aload_n 3, 1) := by decide +kernel
theorem dX5_goesOver_149 : decode cX5_goesOver 149 = .ok (.getfield 117, 3) := by decide +kernel
theorem dX5_goesOver_152 : decode cX5_goesOver 152 = .ok (.ishr, 1) := by decide +kernel
theorem dX5_goesOver_153 : decode cX5_goesOver 153 = .ok (.iconst 1, 1) := by decide +kernel
theorem dX5_goesOver_154 : decode cX5_goesOver 154 = .ok (.iand, 1) := by decide +kernel
theorem dX5_goesOver_155 : decode cX5_goesOver 155 = .ok (.ifCond .ne 6, 3) := by decide +kernel
theorem dX5_goesOver_158 : decode cX5_goesOver 158 = .ok (.goto 28, 3) := by decide +kernel
theorem dX5_goesOver_161 : decode cX5_goesOver 161 = .ok (.iload_n 2, 1) := by decide +kernel
theorem dX5_goesOver_162 : decode cX5_goesOver 162 = .ok (.iconst 1, 1) := by decide +kernel
theorem dX5_goesOver_163 : decode cX5_goesOver 163 = .ok (.aload_n 3, 1) := by decide +kernel
theorem dX5_goesOver_164 : decode cX5_goesOver 164 = .ok (.getfield 117, 3) := by decide +kernel
theorem dX5_goesOver_167 : decode cX5_goesOver 167 = .ok (.ishl, 1) := by decide +kernel
theorem dX5_goesOver_168 : decode cX5_goesOver 168 = .ok (.ior, 1) := by decide +kernel
theorem dX5_goesOver_169 : decode cX5_goesOver 169 = .ok (.istore_n 2, 1) := by decide +kernel
theorem dX5_goesOver_170 : decode cX5_goesOver 170 = .ok (.aload_n 3, 1) := by decide +kernel
theorem dX5_goesOver_171 : decode cX5_goesOver 171 = .ok (.getfield 117, 3) := by decide +kernel
theorem dX5_goesOver_174 : decode cX5_goesOver 174 = .ok (.aload_n 1, 1) := by decide +kernel
theorem dX5_goesOver_175 : decode cX5_goesOver 175 = .ok (.getfield 107, 3) := by decide +kernel
theorem dX5_goesOver_178 : decode cX5_goesOver 178 = .ok (.getfield 117, 3) := by decide +kernel
theorem dX5_goesOver_181 : decode cX5_goesOver 181 = .ok (.if_icmp .ne 5, 3) := by decide +kernel
theorem dX5_goesOver_184 : decode cX5_goesOver 184 = .ok (.iconst 1, 1) := by decide +kernel
theorem dX5_goesOver_185 : decode cX5_goesOver 185 = .ok (.ireturn, 1) := by decide +kernel
theorem dX5_goesOver_186 : decode cX5_goesOver 186 = .ok (.aload_n 3, 1) := by decide +kernel
theorem dX5_goesOver_187 : decode cX5_goesOver 187 = .ok (.getfield 77, 3) := by decide +kernel
theorem dX5_goesOver_190 : decode cX5_goesOver 190 = .ok (.astore_n 3, 1) := by decide +kernel
theorem dX5_goesOver_191 : decode cX5_goesOver 191 = .ok (.goto (-100), 3) := by decide +kernel
theorem dX5_goesOver_194 : decode cX5_goesOver 194 = .ok (.iconst 0, 1) := by decide +kernel
theorem dX5_goesOver_195 : decode cX5_goesOver 195 = .ok (.ireturn, 1) := by decide +kernel
set_option maxRecDepth 20000 in
theorem ggX5_overrides_X5_met : GoodIn wsX5_overrides wsX5_met := goodIn_r _ [5, 6, 7, 8, 9, 10, 11, 12, 13, 14, 15, 16, 17, 18, 19, 20, 21, 22, 23, 24, 25, 26, 27, 28, 29, 30, 53, 54, 55, 56, 57, 58] (by decide +kernel) (by decide +kernel)
set_option maxRecDepth 20000 in
theorem gX5_overrides_X5_met : GoodIn wsX5_overrides (wsV RX5 120 RX5 yX5_met wsX5_met) := goodIn_app (goodIn_of _ (by decide +kernel)) ggX5_overrides_X5_met
set_option maxRecDepth 20000 in
theorem ggX5_overrides_X5_goesOver : GoodIn wsX5_overrides wsX5_goesOver := goodIn_r _ [33, 34, 35, 36, 37, 38, 39, 40, 4, 41, 42, 43, 44, 45, 46, 47, 48, 49, 50, 51, 9, 10, 11, 12, 13, 52, 15, 16, 17, 18, 19, 20, 21, 22, 23, 24, 25, 26, 27, 28, 29, 30, 59, 60, 61, 62, 63, 64, 65, 66, 67, 68, 69, 70, 71, 72, 73, 74, 56, 57, 58] (by decide +kernel) (by decide +kernel)
set_option maxRecDepth 20000 in
theorem gX5_overrides_X5_goesOver : GoodIn wsX5_overrides (va_wsS RX5 123 yX5_goesOver wsX5_goesOver) := goodIn_app (goodIn_of _ (by decide +kernel)) ggX5_overrides_X5_goesOver
theorem dX5_overrides_0 : decode cX5_overrides 0 = .ok (.aload_n 0, 1) := by decide +kernel
theorem dX5_overrides_1 : decode cX5_overrides 1 = .ok (.iload_n 1, 1) := by decide +kernel
theorem dX5_overrides_2 : decode cX5_overrides 2 = .ok (.invokevirtual 120, 3) := by decide +kernel
theorem dX5_overrides_5 : decode cX5_overrides 5 = .ok (.ifnull 31, 3) := by decide +kernel
theorem dX5_overrides_8 : decode cX5_overrides 8 = .ok (.aload_n 0, 1) := by decide +kernel
theorem dX5_overrides_9 : decode cX5_overrides 9 = .ok (.iload_n 2, 1) := by decide +kernel
theorem dX5_overrides_10 : decode cX5_overrides 10 = .ok (.invokevirtual 120, 3) := by decide +kernel
theorem dX5_overrides_13 : decode cX5_overrides 13 = .ok (.ifnull 23, 3) := by decide +kernel
theorem dX5_overrides_16 : decode cX5_overrides 16 = .ok (.aload_n 0, 1) := by decide +kernel
theorem dX5_overrides_17 : decode cX5_overrides 17 = .ok (.iload_n 1, 1) := by decide +kernel
theorem dX5_overrides_18 : decode cX5_overrides 18 = .ok (.invokevirtual 120, 3) := by decide +kernel
theorem dX5_overrides_21 : decode cX5_overrides 21 = .ok (.aload_n 0, 1) := by decide +kernel
theorem dX5_overrides_22 : decode cX5_overrides 22 = .ok (.iload_n 2, 1) := by decide +kernel
theorem dX5_overrides_23 : decode cX5_overrides 23 = .ok (.invokevirtual 120, 3) := by decide +kernel
theorem dX5_overrides_26 : decode cX5_overrides 26 = .ok (.invokestatic 123, 3) := by decide +kernel
theorem dX5_overrides_29 : decode cX5_overrides 29 = .ok (.ifCond .eq 7, 3) := by decide +kernel
theorem dX5_overrides_32 : decode cX5_overrides 32 = .ok (.iconst 1, 1) := by decide +kernel
theorem dX5_overrides_33 : decode cX5_overrides 33 = .ok (.goto 4, 3) := by decide +kernel
theorem dX5_overrides_36 : decode cX5_overrides 36 = .ok (.iconst 0, 1) := by decide +kernel
theorem dX5_overrides_37 : decode cX5_overrides 37 = .ok (.ireturn, 1) := by decide +kernel
set_option maxRecDepth 20000 in
theorem ggX5_broken_X5_at : GoodIn wsX5_broken wsX5_at := goodIn_r _ [11, 12, 13, 14, 15, 16, 17, 18, 19, 20, 21, 22, 23, 24, 25, 26, 27, 28, 29, 30, 31, 32, 33, 34, 35, 36, 73, 74, 75, 76, 77, 78] (by decide +kernel) (by decide +kernel)
set_option maxRecDepth 20000 in
theorem gX5_broken_X5_at : GoodIn wsX5_broken (wsV RX5 38 RX5 yX5_at wsX5_at) := goodIn_app (goodIn_of _ (by decide +kernel)) ggX5_broken_X5_at
set_option maxRecDepth 20000 in
theorem ggX5_broken_Jx4a65c_size_8abf5 : GoodIn wsX5_broken wsJx4a65c_size_8abf5 := goodIn_r _ [18, 19, 76, 77, 78] (by decide +kernel) (by decide +kernel)
set_option maxRecDepth 20000 in
theorem gX5_broken_Jx4a65c_size_8abf5 : GoodIn wsX5_broken (wsV RX5 28 RJx4a65c yJx4a65c_size_8abf5 wsJx4a65c_size_8abf5) := goodIn_app (goodIn_of _ (by decide +kernel)) ggX5_broken_Jx4a65c_size_8abf5
set_option maxRecDepth 20000 in
theorem ggX5_broken_Jx4a65c_get_915e3 : GoodIn wsX5_broken wsJx4a65c_get_915e3 := goodIn_r _ [23, 19, 24, 25, 26, 27, 28, 29, 30, 31, 32, 33, 34, 17, 35, 36, 76, 77, 78] (by decide +kernel) (by decide +kernel)
set_option maxRecDepth 20000 in
theorem gX5_broken_Jx4a65c_get_915e3 : GoodIn wsX5_broken (wsV RX5 32 RJx4a65c yJx4a65c_get_915e3 wsJx4a65c_get_915e3) := goodIn_app (goodIn_of _ (by decide +kernel)) ggX5_broken_Jx4a65c_get_915e3
set_option maxRecDepth 20000 in
theorem ggX5_broken_X3_named : GoodIn wsX5_broken wsX3_named := goodIn_r _ [41, 42, 43, 44, 45, 15, 16, 17, 18, 19, 46, 21, 22, 23, 24, 25, 26, 27, 28, 29, 30, 31, 32, 33, 34, 35, 36, 57, 58, 59, 60, 61, 62, 63, 64, 65, 66, 67, 68, 69, 70, 71, 72, 76, 77, 78] (by decide +kernel) (by decide +kernel)
set_option maxRecDepth 20000 in
theorem gX5_broken_X3_named : GoodIn wsX5_broken (wsV RX5 58 RX3 yX3_named wsX3_named) := goodIn_app (goodIn_of _ (by decide +kernel)) ggX5_broken_X3_named
set_option maxRecDepth 20000 in
theorem ggX5_broken_X5_goesOver : GoodIn wsX5_broken wsX5_goesOver := goodIn_r _ [49, 50, 4, 51, 52, 3, 53, 54, 10, 55, 56, 37, 38, 39, 40, 41, 42, 43, 44, 45, 15, 16, 17, 18, 19, 46, 21, 22, 23, 24, 25, 26, 27, 28, 29, 30, 31, 32, 33, 34, 35, 36, 66, 67, 68, 69, 70, 71, 72, 57, 58, 59, 60, 61, 62, 63, 64, 65, 76, 77, 78] (by decide +kernel) (by decide +kernel)
set_option maxRecDepth 20000 in
theorem gX5_broken_X5_goesOver : GoodIn wsX5_broken (va_wsS RX5 123 yX5_goesOver wsX5_goesOver) := goodIn_app (goodIn_of _ (by decide +kernel)) ggX5_broken_X5_goesOver
theorem dX5_broken_0 : decode cX5_broken 0 = .ok (.aload_n 0, 1) := by decide +kernel
theorem dX5_broken_1 : decode cX5_broken 1 = .ok (.iload_n 1, 1) := by decide +kernel
theorem dX5_broken_2 : decode cX5_broken 2 = .ok (.invokevirtual 38, 3) := by decide +kernel
theorem dX5_broken_5 : decode cX5_broken 5 = .ok (.ifnonnull 5, 3) := by decide +kernel
theorem dX5_broken_8 : decode cX5_broken 8 = .ok (.iconst (-1), 1) := by decide +kernel
theorem dX5_broken_9 : decode cX5_broken 9 = .ok (.ireturn, 1) := by decide +kernel
theorem dX5_broken_10 : decode cX5_broken 10 = .ok (.aload_n 0, 1) := by decide +kernel
theorem dX5_broken_11 : decode cX5_broken 11 = .ok (.iload_n 1, 1) := by decide +kernel
theorem dX5_broken_12 : decode cX5_broken 12 = .ok (.invokevirtual 38, 3) := by decide +kernel
theorem dX5_broken_15 : decode cX5_broken 15 = .ok (.astore_n 2, 1) := by decide +kernel
theorem dX5_broken_16 : decode cX5_broken 16 = .ok (.iconst 0, 1) := by decide +kernel
theorem dX5_broken_17 : decode cX5_broken 17 = .ok (.istore_n 3, 1) := by decide +kernel
theorem dX5_broken_18 : decode cX5_broken 18 = .ok (.iload_n 3, 1) := by decide +kernel
theorem dX5_broken_19 : decode cX5_broken 19 = .ok (.aload_n 2, 1) := by decide +kernel
theorem dX5_broken_20 : decode cX5_broken 20 = .ok (.getfield 46, 3) := by decide +kernel
theorem dX5_broken_23 : decode cX5_broken 23 = .ok (.invokevirtual 28, 3) := by decide +kernel
theorem dX5_broken_26 : decode cX5_broken 26 = .ok (.if_icmp .ge 84, 3) := by decide +kernel
theorem dX5_broken_29 : decode cX5_broken 29 = .ok (.aload_n 2, 1) := by decide +kernel
theorem dX5_broken_30 : decode cX5_broken 30 = .ok (.getfield 46, 3) := by decide +kernel
theorem dX5_broken_33 : decode cX5_broken 33 = .ok (.iload_n 3, 1) := by decide +kernel
theorem dX5_broken_34 : decode cX5_broken 34 = .ok (.invokevirtual 32, 3) := by decide +kernel
theorem dX5_broken_37 : decode cX5_broken 37 = .ok (.checkcast 36, 3) := by decide +kernel
theorem dX5_broken_40 : decode cX5_broken 40 = .ok (.astore 4, 2) := by decide +kernel
theorem dX5_broken_42 : decode cX5_broken 42 = .ok (.aload_n 2, 1) := by decide +kernel
theorem dX5_broken_43 : decode cX5_broken 43 = .ok (.getfield 77, 3) := by decide +kernel
theorem dX5_broken_46 : decode cX5_broken 46 = .ok (.astore 5, 2) := by decide +kernel
theorem dX5_broken_48 : decode cX5_broken 48 = .ok (.aload 5, 2) := by decide +kernel
theorem dX5_broken_50 : decode cX5_broken 50 = .ok (.ifnull 54, 3) := by decide +kernel
theorem dX5_broken_53 : decode cX5_broken 53 = .ok (.aload 5, 2) := by decide +kernel
theorem dX5_broken_55 : decode cX5_broken 55 = .ok (.aload 4, 2) := by decide +kernel
theorem dX5_broken_57 : decode cX5_broken 57 = .ok (.getfield 110, 3) := by decide +kernel
theorem dX5_broken_60 : decode cX5_broken 60 = .ok (.invokevirtual 58, 3) := by decide +kernel
theorem dX5_broken_63 : decode cX5_broken 63 = .ok (.astore 6, 2) := by decide +kernel
theorem dX5_broken_65 : decode cX5_broken 65 = .ok (.aload 6, 2) := by decide +kernel
theorem dX5_broken_67 : decode cX5_broken 67 = .ok (.ifnull 27, 3) := by decide +kernel
theorem dX5_broken_70 : decode cX5_broken 70 = .ok (.aload 6, 2) := by decide +kernel
theorem dX5_broken_72 : decode cX5_broken 72 = .ok (.getfield 127, 3) := by decide +kernel
theorem dX5_broken_75 : decode cX5_broken 75 = .ok (.ifCond .eq 19, 3) := by decide +kernel
theorem dX5_broken_78 : decode cX5_broken 78 = .ok (.aload 4, 2) := by decide +kernel
theorem dX5_broken_80 : decode cX5_broken 80 = .ok (.aload 6, 2) := by decide +kernel
theorem dX5_broken_82 : decode cX5_broken 82 = .ok (.invokestatic 123, 3) := by decide +kernel
theorem dX5_broken_85 : decode cX5_broken 85 = .ok (.ifCond .eq 9, 3) := by decide +kernel
theorem dX5_broken_88 : decode cX5_broken 88 = .ok (.aload 4, 2) := by decide +kernel
theorem dX5_broken_90 : decode cX5_broken 90 = .ok (.getfield 65, 3) := by decide +kernel
theorem dX5_broken_93 : decode cX5_broken 93 = .ok (.ireturn, 1) := by decide +kernel
theorem dX5_broken_94 : decode cX5_broken 94 = .ok (.aload 5, 2) := by decide +kernel
theorem dX5_broken_96 : decode cX5_broken 96 = .ok (.getfield 77, 3) := by decide +kernel
theorem dX5_broken_99 : decode cX5_broken 99 = .ok (.astore 5, 2) := by decide +kernel
theorem dX5_broken_101 : decode cX5_broken 101 = .ok (.goto (-53), 3) := by decide +kernel
theorem dX5_broken_104 : decode cX5_broken 104 = .ok (.iinc 3 1, 3) := by decide +kernel
theorem dX5_broken_107 : decode cX5_broken 107 = .ok (.goto (-89), 3) := by decide +kernel
theorem dX5_broken_110 : decode cX5_broken 110 = .ok (.iconst (-1), 1) := by decide +kernel
theorem dX5_broken_111 : decode cX5_broken 111 = .ok (.ireturn, 1) := by decide +kernel
set_option maxRecDepth 20000 in
theorem ggX5_isNearest_Jx4a65c_get_915e3 : GoodIn wsX5_isNearest wsJx4a65c_get_915e3 := goodIn_r _ [6, 7, 8, 9, 10, 11, 12, 13, 14, 15, 16, 17, 18, 5, 19, 20, 49, 50, 51] (by decide +kernel) (by decide +kernel)
set_option maxRecDepth 20000 in
theorem gX5_isNearest_Jx4a65c_get_915e3 : GoodIn wsX5_isNearest (wsV RX5 32 RJx4a65c yJx4a65c_get_915e3 wsJx4a65c_get_915e3) := goodIn_app (goodIn_of _ (by decide +kernel)) ggX5_isNearest_Jx4a65c_get_915e3
set_option maxRecDepth 20000 in
theorem ggX5_isNearest_X3_named : GoodIn wsX5_isNearest wsX3_named := goodIn_r _ [25, 26, 27, 28, 29, 30, 31, 5, 32, 7, 33, 3, 4, 6, 8, 9, 10, 11, 12, 13, 14, 15, 16, 17, 18, 19, 20, 52, 53, 54, 55, 56, 57, 58, 59, 60, 61, 62, 63, 64, 65, 66, 67, 49, 50, 51] (by decide +kernel) (by decide +kernel)
set_option maxRecDepth 20000 in
theorem gX5_isNearest_X3_named : GoodIn wsX5_isNearest (wsV RX5 58 RX3 yX3_named wsX3_named) := goodIn_app (goodIn_of _ (by decide +kernel)) ggX5_isNearest_X3_named
set_option maxRecDepth 20000 in
theorem ggX5_isNearest_Jx4a65c_size_8abf5 : GoodIn wsX5_isNearest wsJx4a65c_size_8abf5 := goodIn_r _ [32, 7, 49, 50, 51] (by decide +kernel) (by decide +kernel)
set_option maxRecDepth 20000 in
theorem gX5_isNearest_Jx4a65c_size_8abf5 : GoodIn wsX5_isNearest (wsV RX5 28 RJx4a65c yJx4a65c_size_8abf5 wsJx4a65c_size_8abf5) := goodIn_app (goodIn_of _ (by decide +kernel)) ggX5_isNearest_Jx4a65c_size_8abf5
set_option maxRecDepth 20000 in
theorem ggX5_isNearest_X5_lies : GoodIn wsX5_isNearest wsX5_lies := goodIn_r _ [39, 40, 41, 42, 43, 38, 44, 45, 46, 47, 48, 1, 34, 30, 31, 5, 32, 7, 2, 3, 4, 6, 8, 9, 10, 11, 12, 13, 14, 15, 16, 17, 18, 19, 20, 68, 69, 70, 52, 53, 54, 55, 56, 57, 58, 59, 60, 49, 50, 51] (by decide +kernel) (by decide +kernel)
set_option maxRecDepth 20000 in
theorem gX5_isNearest_X5_lies : GoodIn wsX5_isNearest (wsV RX5 81 RX5 yX5_lies wsX5_lies) := goodIn_app (goodIn_of _ (by decide +kernel)) ggX5_isNearest_X5_lies
theorem dX5_isNearest_0 : decode cX5_isNearest 0 = .ok (.aload_n 1, 1) := by decide +kernel
theorem dX5_isNearest_1 : decode cX5_isNearest 1 = .ok (.iload_n 2, 1) := by decide +kernel
theorem dX5_isNearest_2 : decode cX5_isNearest 2 = .ok (.invokevirtual 32, 3) := by decide +kernel
theorem dX5_isNearest_5 : decode cX5_isNearest 5 = .ok (.checkcast 19, 3) := by decide +kernel
theorem dX5_isNearest_8 : decode cX5_isNearest 8 = .ok (.iload_n 3, 1) := by decide +kernel
theorem dX5_isNearest_9 : decode cX5_isNearest 9 = .ok (.invokevirtual 58, 3) := by decide +kernel
theorem dX5_isNearest_12 : decode cX5_isNearest 12 = .ok (.ifnonnull 5, 3) := by decide +kernel
theorem dX5_isNearest_15 : decode cX5_isNearest 15 = .ok (.iconst 0, 1) := by decide +kernel
theorem dX5_isNearest_16 : decode cX5_isNearest 16 = .ok (.ireturn, 1) := by decide +kernel
theorem dX5_isNearest_17 : decode cX5_isNearest 17 = .ok (.iconst 0, 1) := by decide +kernel
theorem dX5_isNearest_18 : decode cX5_isNearest 18 = .ok (.istore 4, 2) := by decide +kernel
theorem dX5_isNearest_20 : decode cX5_isNearest 20 = .ok (.iload 4, 2) := by decide +kernel
theorem dX5_isNearest_22 : decode cX5_isNearest 22 = .ok (.aload_n 1, 1) := by decide +kernel
theorem dX5_isNearest_23 : decode cX5_isNearest 23 = .ok (.invokevirtual 28, 3) := by decide +kernel
theorem dX5_isNearest_26 : decode cX5_isNearest 26 = .ok (.if_icmp .ge 57, 3) := by decide +kernel
theorem dX5_isNearest_29 : decode cX5_isNearest 29 = .ok (.iload 4, 2) := by decide +kernel
theorem dX5_isNearest_31 : decode cX5_isNearest 31 = .ok (.iload_n 2, 1) := by decide +kernel
theorem dX5_isNearest_32 : decode cX5_isNearest 32 = .ok (.if_icmp .eq 45, 3) := by decide +kernel
theorem dX5_isNearest_35 : decode cX5_isNearest 35 = .ok (.aload_n 1, 1) := by decide +kernel
theorem dX5_isNearest_36 : decode cX5_isNearest 36 = .ok (.iload 4, 2) := by decide +kernel
theorem dX5_isNearest_38 : decode cX5_isNearest 38 = .ok (.invokevirtual 32, 3) := by decide +kernel
theorem dX5_isNearest_41 : decode cX5_isNearest 41 = .ok (.checkcast 19, 3) := by decide +kernel
theorem dX5_isNearest_44 : decode cX5_isNearest 44 = .ok (.iload_n 3, 1) := by decide +kernel
theorem dX5_isNearest_45 : decode cX5_isNearest 45 = .ok (.invokevirtual 58, 3) := by decide +kernel
theorem dX5_isNearest_48 : decode cX5_isNearest 48 = .ok (.ifnull 29, 3) := by decide +kernel
theorem dX5_isNearest_51 : decode cX5_isNearest 51 = .ok (.aload_n 0, 1) := by decide +kernel
theorem dX5_isNearest_52 : decode cX5_isNearest 52 = .ok (.aload_n 1, 1) := by decide +kernel
theorem dX5_isNearest_53 : decode cX5_isNearest 53 = .ok (.iload 4, 2) := by decide +kernel
theorem dX5_isNearest_55 : decode cX5_isNearest 55 = .ok (.invokevirtual 32, 3) := by decide +kernel
theorem dX5_isNearest_58 : decode cX5_isNearest 58 = .ok (.checkcast 19, 3) := by decide +kernel
theorem dX5_isNearest_61 : decode cX5_isNearest 61 = .ok (.aload_n 1, 1) := by decide +kernel
theorem dX5_isNearest_62 : decode cX5_isNearest 62 = .ok (.iload_n 2, 1) := by decide +kernel
theorem dX5_isNearest_63 : decode cX5_isNearest 63 = .ok (.invokevirtual 32, 3) := by decide +kernel
theorem dX5_isNearest_66 : decode cX5_isNearest 66 = .ok (.checkcast 19, 3) := by decide +kernel
theorem dX5_isNearest_69 : decode cX5_isNearest 69 = .ok (.invokevirtual 81, 3) := by decide +kernel
theorem dX5_isNearest_72 : decode cX5_isNearest 72 = .ok (.ifCond .eq 5, 3) := by decide +kernel
theorem dX5_isNearest_75 : decode cX5_isNearest 75 = .ok (.iconst 0, 1) := by decide +kernel
theorem dX5_isNearest_76 : decode cX5_isNearest 76 = .ok (.ireturn, 1) := by decide +kernel
theorem dX5_isNearest_77 : decode cX5_isNearest 77 = .ok (.iinc 4 1, 3) := by decide +kernel
theorem dX5_isNearest_80 : decode cX5_isNearest 80 = .ok (.goto (-60), 3) := by decide +kernel
theorem dX5_isNearest_83 : decode cX5_isNearest 83 = .ok (.iconst 1, 1) := by decide +kernel
theorem dX5_isNearest_84 : decode cX5_isNearest 84 = .ok (.ireturn, 1) := by decide +kernel
set_option maxRecDepth 20000 in
theorem ggX5_nearest_X5_at : GoodIn wsX5_nearest wsX5_at := goodIn_r _ [7, 8, 1, 9, 10, 11, 12, 13, 14, 15, 16, 17, 18, 19, 20, 21, 22, 23, 24, 25, 26, 27, 28, 29, 30, 31, 136, 137, 138, 139, 140, 141] (by decide +kernel) (by decide +kernel)
set_option maxRecDepth 20000 in
theorem gX5_nearest_X5_at : GoodIn wsX5_nearest (wsV RX5 38 RX5 yX5_at wsX5_at) := goodIn_app (goodIn_of _ (by decide +kernel)) ggX5_nearest_X5_at
set_option maxRecDepth 20000 in
theorem ggX5_nearest_X5_isName : GoodIn wsX5_nearest wsX5_isName := goodIn_r _ [34] (by decide +kernel) (by decide +kernel)
set_option maxRecDepth 20000 in
theorem gX5_nearest_X5_isName : GoodIn wsX5_nearest (va_wsS RX5 54 yX5_isName wsX5_isName) := goodIn_app (goodIn_of _ (by decide +kernel)) ggX5_nearest_X5_isName
set_option maxRecDepth 20000 in
theorem ggX5_nearest_X5_facesOf : GoodIn wsX5_nearest wsX5_facesOf := goodIn_r _ [38, 39, 40, 41, 42, 9, 10, 11, 12, 13, 14, 43, 44, 45, 46, 47, 48, 31, 49, 50, 51, 6, 52, 1, 53, 54, 15, 16, 17, 18, 19, 20, 21, 22, 23, 24, 25, 26, 27, 28, 29, 30, 55, 56, 57, 58, 59, 60, 61, 62, 63, 64, 65, 66, 67, 68, 69, 70, 71, 72, 73, 74, 75, 76, 77, 78, 79, 80, 81, 82, 83, 84, 85, 86, 87, 88, 89, 90, 91, 92, 93, 94, 95, 96, 97, 98, 99, 100, 101, 102, 103, 104, 105, 142, 143, 144, 145, 146, 147, 148, 149, 150, 136, 137, 138, 139, 140, 141] (by decide +kernel) (by decide +kernel)
set_option maxRecDepth 20000 in
theorem gX5_nearest_X5_facesOf : GoodIn wsX5_nearest (wsV RX5 97 RX5 yX5_facesOf wsX5_facesOf) := goodIn_app (goodIn_of _ (by decide +kernel)) ggX5_nearest_X5_facesOf
set_option maxRecDepth 20000 in
theorem ggX5_nearest_Jx4a65c_size_8abf5 : GoodIn wsX5_nearest wsJx4a65c_size_8abf5 := goodIn_r _ [13, 14, 139, 140, 141] (by decide +kernel) (by decide +kernel)
set_option maxRecDepth 20000 in
theorem gX5_nearest_Jx4a65c_size_8abf5 : GoodIn wsX5_nearest (wsV RX5 28 RJx4a65c yJx4a65c_size_8abf5 wsJx4a65c_size_8abf5) := goodIn_app (goodIn_of _ (by decide +kernel)) ggX5_nearest_Jx4a65c_size_8abf5
set_option maxRecDepth 20000 in
theorem ggX5_nearest_X5_isNearest : GoodIn wsX5_nearest wsX5_isNearest := goodIn_r _ [109, 1, 15, 16, 17, 12, 18, 14, 19, 20, 21, 22, 23, 24, 25, 26, 27, 28, 29, 30, 31, 110, 111, 112, 113, 114, 115, 116, 117, 118, 10, 11, 13, 119, 9, 120, 121, 122, 6, 123, 42, 124, 125, 126, 127, 53, 128, 54, 40, 139, 140, 141, 142, 143, 144, 145, 146, 147, 148, 149, 150, 129, 130, 131, 132, 133, 134, 135, 136, 137, 138] (by decide +kernel) (by decide +kernel)
set_option maxRecDepth 20000 in
theorem gX5_nearest_X5_isNearest : GoodIn wsX5_nearest (wsV RX5 130 RX5 yX5_isNearest wsX5_isNearest) := goodIn_app (goodIn_of _ (by decide +kernel)) ggX5_nearest_X5_isNearest
set_option maxRecDepth 20000 in
theorem ggX5_nearest_Jx4a65c_get_915e3 : GoodIn wsX5_nearest wsJx4a65c_get_915e3 := goodIn_r _ [18, 14, 19, 20, 21, 22, 23, 24, 25, 26, 27, 28, 29, 12, 30, 31, 139, 140, 141] (by decide +kernel) (by decide +kernel)
set_option maxRecDepth 20000 in
theorem gX5_nearest_Jx4a65c_get_915e3 : GoodIn wsX5_nearest (wsV RX5 32 RJx4a65c yJx4a65c_get_915e3 wsJx4a65c_get_915e3) := goodIn_app (goodIn_of _ (by decide +kernel)) ggX5_nearest_Jx4a65c_get_915e3
set_option maxRecDepth 20000 in
theorem ggX5_nearest_X3_named : GoodIn wsX5_nearest wsX3_named := goodIn_r _ [114, 115, 116, 117, 118, 10, 11, 12, 13, 14, 119, 16, 17, 18, 19, 20, 21, 22, 23, 24, 25, 26, 27, 28, 29, 30, 31, 142, 143, 144, 145, 146, 147, 148, 149, 150, 129, 130, 131, 132, 133, 134, 135, 139, 140, 141] (by decide +kernel) (by decide +kernel)
set_option maxRecDepth 20000 in
theorem gX5_nearest_X3_named : GoodIn wsX5_nearest (wsV RX5 58 RX3 yX3_named wsX3_named) := goodIn_app (goodIn_of _ (by decide +kernel)) ggX5_nearest_X3_named
theorem dX5_nearest_0 : decode cX5_nearest 0 = .ok (.aload_n 0, 1) := by decide +kernel
theorem dX5_nearest_1 : decode cX5_nearest 1 = .ok (.iload_n 1, 1) := by decide +kernel
theorem dX5_nearest_2 : decode cX5_nearest 2 = .ok (.invokevirtual 38, 3) := by decide +kernel
theorem dX5_nearest_5 : decode cX5_nearest 5 = .ok (.ifnull 14, 3) := by decide +kernel
theorem dX5_nearest_8 : decode cX5_nearest 8 = .ok (.iload_n 2, 1) := by decide +kernel
theorem dX5_nearest_9 : decode cX5_nearest 9 = .ok (.invokestatic 54, 3) := by decide +kernel
theorem dX5_nearest_12 : decode cX5_nearest 12 = .ok (.ifCond .eq 7, 3) := by decide +kernel
theorem dX5_nearest_15 : decode cX5_nearest 15 = .ok (.iload_n 3, 1) := by decide +kernel
theorem dX5_nearest_16 : decode cX5_nearest 16 = .ok (.ifCond .ge 5, 3) := by decide +kernel
theorem dX5_nearest_19 : decode cX5_nearest 19 = .ok (.iconst (-1), 1) := by decide +kernel
theorem dX5_nearest_20 : decode cX5_nearest 20 = .ok (.ireturn, 1) := by decide +kernel
theorem dX5_nearest_21 : decode cX5_nearest 21 = .ok (.aload_n 0, 1) := by decide +kernel
theorem dX5_nearest_22 : decode cX5_nearest 22 = .ok (.aload_n 0, 1) := by decide +kernel
theorem dX5_nearest_23 : decode cX5_nearest 23 = .ok (.iload_n 1, 1) := by decide +kernel
theorem dX5_nearest_24 : decode cX5_nearest 24 = .ok (.invokevirtual 38, 3) := by decide +kernel
theorem dX5_nearest_27 : decode cX5_nearest 27 = .ok (.invokevirtual 97, 3) := by decide +kernel
theorem dX5_nearest_30 : decode cX5_nearest 30 = .ok (.astore 4, 2) := by decide +kernel
theorem dX5_nearest_32 : decode cX5_nearest 32 = .ok (.iconst 0, 1) := by decide +kernel
theorem dX5_nearest_33 : decode cX5_nearest 33 = .ok (.istore 5, 2) := by decide +kernel
theorem dX5_nearest_35 : decode cX5_nearest 35 = .ok (.iconst 0, 1) := by decide +kernel
theorem dX5_nearest_36 : decode cX5_nearest 36 = .ok (.istore 6, 2) := by decide +kernel
theorem dX5_nearest_38 : decode cX5_nearest 38 = .ok (.iload 6, 2) := by decide +kernel
theorem dX5_nearest_40 : decode cX5_nearest 40 = .ok (.aload 4, 2) := by decide +kernel
theorem dX5_nearest_42 : decode cX5_nearest 42 = .ok (.invokevirtual 28, 3) := by decide +kernel
theorem dX5_nearest_45 : decode cX5_nearest 45 = .ok (.if_icmp .ge 51, 3) := by decide +kernel
theorem dX5_nearest_48 : decode cX5_nearest 48 = .ok (.aload_n 0, 1) := by decide +kernel
theorem dX5_nearest_49 : decode cX5_nearest 49 = .ok (.aload 4, 2) := by decide +kernel
theorem dX5_nearest_51 : decode cX5_nearest 51 = .ok (.iload 6, 2) := by decide +kernel
theorem dX5_nearest_53 : decode cX5_nearest 53 = .ok (.iload_n 2, 1) := by decide +kernel
theorem dX5_nearest_54 : decode cX5_nearest 54 = .ok (.invokevirtual 130, 3) := by decide +kernel
theorem dX5_nearest_57 : decode cX5_nearest 57 = .ok (.ifCond .ne 6, 3) := by decide +kernel
theorem dX5_nearest_60 : decode cX5_nearest 60 = .ok (.goto 30, 3) := by decide +kernel
theorem dX5_nearest_63 : decode cX5_nearest 63 = .ok (.iload 5, 2) := by decide +kernel
theorem dX5_nearest_65 : decode cX5_nearest 65 = .ok (.iload_n 3, 1) := by decide +kernel
theorem dX5_nearest_66 : decode cX5_nearest 66 = .ok (.if_icmp .ne 21, 3) := by decide +kernel
theorem dX5_nearest_69 : decode cX5_nearest 69 = .ok (.aload 4, 2) := by decide +kernel
theorem dX5_nearest_71 : decode cX5_nearest 71 = .ok (.iload 6, 2) := by decide +kernel
theorem dX5_nearest_73 : decode cX5_nearest 73 = .ok (.invokevirtual 32, 3) := by decide +kernel
theorem dX5_nearest_76 : decode cX5_nearest 76 = .ok (.checkcast 19, 3) := by decide +kernel
theorem dX5_nearest_79 : decode cX5_nearest 79 = .ok (.iload_n 2, 1) := by decide +kernel
theorem dX5_nearest_80 : decode cX5_nearest 80 = .ok (.invokevirtual 58, 3) := by decide +kernel
theorem dX5_nearest_83 : decode cX5_nearest 83 = .ok (.getfield 65, 3) := by decide +kernel
theorem dX5_nearest_86 : decode cX5_nearest 86 = .ok (.ireturn, 1) := by decide +kernel
theorem dX5_nearest_87 : decode cX5_nearest 87 = .ok (.iinc 5 1, 3) := by decide +kernel
theorem dX5_nearest_90 : decode cX5_nearest 90 = .ok (.iinc 6 1, 3) := by decide +kernel
theorem dX5_nearest_93 : decode cX5_nearest 93 = .ok (.goto (-55), 3) := by decide +kernel
theorem dX5_nearest_96 : decode cX5_nearest 96 = .ok (.iconst (-1), 1) := by decide +kernel
theorem dX5_nearest_97 : decode cX5_nearest 97 = .ok (.ireturn, 1) := by decide +kernel
set_option maxRecDepth 20000 in
theorem ggX5_single_X5_facesOf : GoodIn wsX5_single wsX5_facesOf := goodIn_r _ [8, 9, 10, 11, 12, 13, 14, 15, 16, 17, 18, 19, 20, 21, 22, 23, 24, 25, 26, 27, 28, 7, 29, 1, 30, 31, 32, 33, 34, 35, 36, 37, 38, 39, 40, 41, 42, 43, 44, 45, 46, 47, 48, 49, 50, 51, 52, 53, 54, 55, 56, 57, 58, 59, 60, 61, 62, 63, 64, 65, 66, 67, 68, 69, 70, 71, 72, 73, 74, 75, 76, 77, 78, 79, 80, 81, 82, 83, 84, 85, 86, 87, 88, 89, 90, 91, 92, 93, 94, 95, 96, 97, 98, 129, 130, 131, 132, 133, 134, 135, 136, 137, 138, 139, 140, 141, 142, 143] (by decide +kernel) (by decide +kernel)
set_option maxRecDepth 20000 in
theorem gX5_single_X5_facesOf : GoodIn wsX5_single (wsV RX5 97 RX5 yX5_facesOf wsX5_facesOf) := goodIn_app (goodIn_of _ (by decide +kernel)) ggX5_single_X5_facesOf
set_option maxRecDepth 20000 in
theorem ggX5_single_Jx4a65c_size_8abf5 : GoodIn wsX5_single wsJx4a65c_size_8abf5 := goodIn_r _ [17, 18, 141, 142, 143] (by decide +kernel) (by decide +kernel)
set_option maxRecDepth 20000 in
theorem gX5_single_Jx4a65c_size_8abf5 : GoodIn wsX5_single (wsV RX5 28 RJx4a65c yJx4a65c_size_8abf5 wsJx4a65c_size_8abf5) := goodIn_app (goodIn_of _ (by decide +kernel)) ggX5_single_Jx4a65c_size_8abf5
set_option maxRecDepth 20000 in
theorem ggX5_single_X5_isNearest : GoodIn wsX5_single wsX5_isNearest := goodIn_r _ [102, 1, 32, 33, 34, 16, 35, 18, 36, 37, 38, 39, 40, 41, 42, 43, 44, 45, 46, 47, 25, 103, 104, 105, 106, 107, 108, 109, 110, 111, 14, 15, 17, 112, 13, 113, 114, 115, 7, 116, 12, 117, 118, 119, 120, 30, 121, 31, 10, 141, 142, 143, 129, 130, 131, 132, 133, 134, 135, 136, 137, 122, 123, 124, 125, 126, 127, 128, 138, 139, 140] (by decide +kernel) (by decide +kernel)
set_option maxRecDepth 20000 in
theorem gX5_single_X5_isNearest : GoodIn wsX5_single (wsV RX5 130 RX5 yX5_isNearest wsX5_isNearest) := goodIn_app (goodIn_of _ (by decide +kernel)) ggX5_single_X5_isNearest
set_option maxRecDepth 20000 in
theorem ggX5_single_Jx4a65c_get_915e3 : GoodIn wsX5_single wsJx4a65c_get_915e3 := goodIn_r _ [35, 18, 36, 37, 38, 39, 40, 41, 42, 43, 44, 45, 46, 16, 47, 25, 141, 142, 143] (by decide +kernel) (by decide +kernel)
set_option maxRecDepth 20000 in
theorem gX5_single_Jx4a65c_get_915e3 : GoodIn wsX5_single (wsV RX5 32 RJx4a65c yJx4a65c_get_915e3 wsJx4a65c_get_915e3) := goodIn_app (goodIn_of _ (by decide +kernel)) ggX5_single_Jx4a65c_get_915e3
set_option maxRecDepth 20000 in
theorem ggX5_single_X3_named : GoodIn wsX5_single wsX3_named := goodIn_r _ [107, 108, 109, 110, 111, 14, 15, 16, 17, 18, 112, 33, 34, 35, 36, 37, 38, 39, 40, 41, 42, 43, 44, 45, 46, 47, 25, 129, 130, 131, 132, 133, 134, 135, 136, 137, 122, 123, 124, 125, 126, 127, 128, 141, 142, 143] (by decide +kernel) (by decide +kernel)
set_option maxRecDepth 20000 in
theorem gX5_single_X3_named : GoodIn wsX5_single (wsV RX5 58 RX3 yX3_named wsX3_named) := goodIn_app (goodIn_of _ (by decide +kernel)) ggX5_single_X3_named
theorem dX5_single_0 : decode cX5_single 0 = .ok (.aload_n 0, 1) := by decide +kernel
theorem dX5_single_1 : decode cX5_single 1 = .ok (.aload_n 1, 1) := by decide +kernel
theorem dX5_single_2 : decode cX5_single 2 = .ok (.invokevirtual 97, 3) := by decide +kernel
theorem dX5_single_5 : decode cX5_single 5 = .ok (.astore_n 3, 1) := by decide +kernel
theorem dX5_single_6 : decode cX5_single 6 = .ok (.bipush (-25), 2) := by decide +kernel
theorem dX5_single_8 : decode cX5_single 8 = .ok (.istore 4, 2) := by decide +kernel
theorem dX5_single_10 : decode cX5_single 10 = .ok (.iconst 0, 1) := by decide +kernel
theorem dX5_single_11 : decode cX5_single 11 = .ok (.istore 5, 2) := by decide +kernel
theorem dX5_single_13 : decode cX5_single 13 = .ok (.iload 5, 2) := by decide +kernel
theorem dX5_single_15 : decode cX5_single 15 = .ok (.aload_n 3, 1) := by decide +kernel
theorem dX5_single_16 : decode cX5_single 16 = .ok (.invokevirtual 28, 3) := by decide +kernel
theorem dX5_single_19 : decode cX5_single 19 = .ok (.if_icmp .ge 69, 3) := by decide +kernel
theorem dX5_single_22 : decode cX5_single 22 = .ok (.aload_n 0, 1) := by decide +kernel
theorem dX5_single_23 : decode cX5_single 23 = .ok (.aload_n 3, 1) := by decide +kernel
theorem dX5_single_24 : decode cX5_single 24 = .ok (.iload 5, 2) := by decide +kernel
theorem dX5_single_26 : decode cX5_single 26 = .ok (.iload_n 2, 1) := by decide +kernel
theorem dX5_single_27 : decode cX5_single 27 = .ok (.invokevirtual 130, 3) := by decide +kernel
theorem dX5_single_30 : decode cX5_single 30 = .ok (.ifCond .eq 52, 3) := by decide +kernel
theorem dX5_single_33 : decode cX5_single 33 = .ok (.aload_n 3, 1) := by decide +kernel
theorem dX5_single_34 : decode cX5_single 34 = .ok (.iload 5, 2) := by decide +kernel
theorem dX5_single_36 : decode cX5_single 36 = .ok (.invokevirtual 32, 3) := by decide +kernel
theorem dX5_single_39 : decode cX5_single 39 = .ok (.checkcast 19, 3) := by decide +kernel
theorem dX5_single_42 : decode cX5_single 42 = .ok (.iload_n 2, 1) := by decide +kernel
theorem dX5_single_43 : decode cX5_single 43 = .ok (.invokevirtual 58, 3) := by decide +kernel
theorem dX5_single_46 : decode cX5_single 46 = .ok (.getfield 134, 3) := by decide +kernel
theorem dX5_single_49 : decode cX5_single 49 = .ok (.ifCond .ne 33, 3) := by decide +kernel
theorem dX5_single_52 : decode cX5_single 52 = .ok (.iload 4, 2) := by decide +kernel
theorem dX5_single_54 : decode cX5_single 54 = .ok (.bipush (-25), 2) := by decide +kernel
theorem dX5_single_56 : decode cX5_single 56 = .ok (.if_icmp .ne 22, 3) := by decide +kernel
theorem dX5_single_59 : decode cX5_single 59 = .ok (.aload_n 3, 1) := by decide +kernel
theorem dX5_single_60 : decode cX5_single 60 = .ok (.iload 5, 2) := by decide +kernel
theorem dX5_single_62 : decode cX5_single 62 = .ok (.invokevirtual 32, 3) := by decide +kernel
theorem dX5_single_65 : decode cX5_single 65 = .ok (.checkcast 19, 3) := by decide +kernel
theorem dX5_single_68 : decode cX5_single 68 = .ok (.iload_n 2, 1) := by decide +kernel
theorem dX5_single_69 : decode cX5_single 69 = .ok (.invokevirtual 58, 3) := by decide +kernel
theorem dX5_single_72 : decode cX5_single 72 = .ok (.getfield 65, 3) := by decide +kernel
theorem dX5_single_75 : decode cX5_single 75 = .ok (.goto 5, 3) := by decide +kernel
theorem dX5_single_78 : decode cX5_single 78 = .ok (.bipush (-26), 2) := by decide +kernel
theorem dX5_single_80 : decode cX5_single 80 = .ok (.istore 4, 2) := by decide +kernel
theorem dX5_single_82 : decode cX5_single 82 = .ok (.iinc 5 1, 3) := by decide +kernel
theorem dX5_single_85 : decode cX5_single 85 = .ok (.goto (-72), 3) := by decide +kernel
theorem dX5_single_88 : decode cX5_single 88 = .ok (.iload 4, 2) := by decide +kernel
theorem dX5_single_90 : decode cX5_single 90 = .ok (.ireturn, 1) := by decide +kernel
set_option maxRecDepth 20000 in
theorem ggX5_find_X5_at : GoodIn wsX5_find wsX5_at := goodIn_r _ [9, 10, 4, 11, 12, 13, 14, 15, 16, 17, 18, 19, 20, 21, 22, 23, 24, 25, 26, 27, 28, 29, 30, 31, 32, 33, 151, 152, 153, 154, 155, 156] (by decide +kernel) (by decide +kernel)
set_option maxRecDepth 20000 in
theorem gX5_find_X5_at : GoodIn wsX5_find (wsV RX5 38 RX5 yX5_at wsX5_at) := goodIn_app (goodIn_of _ (by decide +kernel)) ggX5_find_X5_at
set_option maxRecDepth 20000 in
theorem ggX5_find_X5_isName : GoodIn wsX5_find wsX5_isName := goodIn_r _ [36] (by decide +kernel) (by decide +kernel)
set_option maxRecDepth 20000 in
theorem gX5_find_X5_isName : GoodIn wsX5_find (va_wsS RX5 54 yX5_isName wsX5_isName) := goodIn_app (goodIn_of _ (by decide +kernel)) ggX5_find_X5_isName
set_option maxRecDepth 20000 in
theorem ggX5_find_X3_named : GoodIn wsX5_find wsX3_named := goodIn_r _ [41, 42, 43, 44, 45, 12, 13, 14, 15, 16, 46, 18, 19, 20, 21, 22, 23, 24, 25, 26, 27, 28, 29, 30, 31, 32, 33, 142, 143, 144, 145, 146, 147, 148, 149, 150, 135, 136, 137, 138, 139, 140, 141, 154, 155, 156] (by decide +kernel) (by decide +kernel)
set_option maxRecDepth 20000 in
theorem gX5_find_X3_named : GoodIn wsX5_find (wsV RX5 58 RX3 yX3_named wsX3_named) := goodIn_app (goodIn_of _ (by decide +kernel)) ggX5_find_X3_named
set_option maxRecDepth 20000 in
theorem ggX5_find_X5_single : GoodIn wsX5_find wsX5_single := goodIn_r _ [50, 4, 51, 1, 52, 53, 54, 8, 55, 56, 57, 58, 59, 11, 12, 13, 14, 15, 16, 60, 61, 62, 63, 64, 65, 33, 66, 67, 68, 69, 70, 3, 17, 18, 19, 20, 21, 22, 23, 24, 25, 26, 27, 28, 29, 30, 31, 32, 71, 72, 73, 74, 75, 76, 77, 78, 79, 80, 81, 82, 83, 84, 85, 86, 87, 88, 89, 90, 91, 92, 93, 94, 95, 96, 97, 98, 99, 100, 101, 102, 103, 104, 105, 106, 107, 108, 109, 110, 111, 112, 113, 114, 115, 116, 117, 118, 119, 120, 121, 122, 123, 124, 125, 37, 38, 39, 40, 41, 42, 43, 44, 45, 46, 126, 127, 128, 129, 130, 131, 132, 133, 134, 135, 136, 137, 138, 139, 140, 141, 142, 143, 144, 145, 146, 147, 148, 149, 150, 151, 152, 153, 154, 155, 156] (by decide +kernel) (by decide +kernel)
set_option maxRecDepth 20000 in
theorem gX5_find_X5_single : GoodIn wsX5_find (wsV RX5 137 RX5 yX5_single wsX5_single) := goodIn_app (goodIn_of _ (by decide +kernel)) ggX5_find_X5_single
set_option maxRecDepth 20000 in
theorem ggX5_find_X5_facesOf : GoodIn wsX5_find wsX5_facesOf := goodIn_r _ [55, 56, 57, 58, 59, 11, 12, 13, 14, 15, 16, 60, 61, 62, 63, 64, 65, 33, 66, 67, 68, 8, 69, 4, 70, 3, 17, 18, 19, 20, 21, 22, 23, 24, 25, 26, 27, 28, 29, 30, 31, 32, 71, 72, 73, 74, 75, 76, 77, 78, 79, 80, 81, 82, 83, 84, 85, 86, 87, 88, 89, 90, 91, 92, 93, 94, 95, 96, 97, 98, 99, 100, 101, 102, 103, 104, 105, 106, 107, 108, 109, 110, 111, 112, 113, 114, 115, 116, 117, 118, 119, 120, 121, 142, 143, 144, 145, 146, 147, 148, 149, 150, 151, 152, 153, 154, 155, 156] (by decide +kernel) (by decide +kernel)
set_option maxRecDepth 20000 in
theorem gX5_find_X5_facesOf : GoodIn wsX5_find (wsV RX5 97 RX5 yX5_facesOf wsX5_facesOf) := goodIn_app (goodIn_of _ (by decide +kernel)) ggX5_find_X5_facesOf
set_option maxRecDepth 20000 in
theorem ggX5_find_Jx4a65c_size_8abf5 : GoodIn wsX5_find wsJx4a65c_size_8abf5 := goodIn_r _ [15, 16, 154, 155, 156] (by decide +kernel) (by decide +kernel)
set_option maxRecDepth 20000 in
theorem gX5_find_Jx4a65c_size_8abf5 : GoodIn wsX5_find (wsV RX5 28 RJx4a65c yJx4a65c_size_8abf5 wsJx4a65c_size_8abf5) := goodIn_app (goodIn_of _ (by decide +kernel)) ggX5_find_Jx4a65c_size_8abf5
set_option maxRecDepth 20000 in
theorem ggX5_find_Jx4a65c_get_915e3 : GoodIn wsX5_find wsJx4a65c_get_915e3 := goodIn_r _ [20, 16, 21, 22, 23, 24, 25, 26, 27, 28, 29, 30, 31, 14, 32, 33, 154, 155, 156] (by decide +kernel) (by decide +kernel)
set_option maxRecDepth 20000 in
theorem gX5_find_Jx4a65c_get_915e3 : GoodIn wsX5_find (wsV RX5 32 RJx4a65c yJx4a65c_get_915e3 wsJx4a65c_get_915e3) := goodIn_app (goodIn_of _ (by decide +kernel)) ggX5_find_Jx4a65c_get_915e3
theorem dX5_find_0 : decode cX5_find 0 = .ok (.aload_n 0, 1) := by decide +kernel
theorem dX5_find_1 : decode cX5_find 1 = .ok (.iload_n 1, 1) := by decide +kernel
theorem dX5_find_2 : decode cX5_find 2 = .ok (.invokevirtual 38, 3) := by decide +kernel
theorem dX5_find_5 : decode cX5_find 5 = .ok (.ifnull 10, 3) := by decide +kernel
theorem dX5_find_8 : decode cX5_find 8 = .ok (.iload_n 2, 1) := by decide +kernel
theorem dX5_find_9 : decode cX5_find 9 = .ok (.invokestatic 54, 3) := by decide +kernel
theorem dX5_find_12 : decode cX5_find 12 = .ok (.ifCond .ne 6, 3) := by decide +kernel
theorem dX5_find_15 : decode cX5_find 15 = .ok (.bipush (-14), 2) := by decide +kernel
theorem dX5_find_17 : decode cX5_find 17 = .ok (.ireturn, 1) := by decide +kernel
theorem dX5_find_18 : decode cX5_find 18 = .ok (.aload_n 0, 1) := by decide +kernel
theorem dX5_find_19 : decode cX5_find 19 = .ok (.iload_n 1, 1) := by decide +kernel
theorem dX5_find_20 : decode cX5_find 20 = .ok (.invokevirtual 38, 3) := by decide +kernel
theorem dX5_find_23 : decode cX5_find 23 = .ok (.astore_n 3, 1) := by decide +kernel
theorem dX5_find_24 : decode cX5_find 24 = .ok (.aload_n 3, 1) := by decide +kernel
theorem dX5_find_25 : decode cX5_find 25 = .ok (.astore 4, 2) := by decide +kernel
theorem dX5_find_27 : decode cX5_find 27 = .ok (.aload 4, 2) := by decide +kernel
theorem dX5_find_29 : decode cX5_find 29 = .ok (.ifnull 43, 3) := by decide +kernel
theorem dX5_find_32 : decode cX5_find 32 = .ok (.aload 4, 2) := by decide +kernel
theorem dX5_find_34 : decode cX5_find 34 = .ok (.iload_n 2, 1) := by decide +kernel
theorem dX5_find_35 : decode cX5_find 35 = .ok (.invokevirtual 58, 3) := by decide +kernel
theorem dX5_find_38 : decode cX5_find 38 = .ok (.ifnull 13, 3) := by decide +kernel
theorem dX5_find_41 : decode cX5_find 41 = .ok (.aload 4, 2) := by decide +kernel
theorem dX5_find_43 : decode cX5_find 43 = .ok (.iload_n 2, 1) := by decide +kernel
theorem dX5_find_44 : decode cX5_find 44 = .ok (.invokevirtual 58, 3) := by decide +kernel
theorem dX5_find_47 : decode cX5_find 47 = .ok (.getfield 65, 3) := by decide +kernel
theorem dX5_find_50 : decode cX5_find 50 = .ok (.ireturn, 1) := by decide +kernel
theorem dX5_find_51 : decode cX5_find 51 = .ok (.aload_n 3, 1) := by decide +kernel
theorem dX5_find_52 : decode cX5_find 52 = .ok (.getfield 42, 3) := by decide +kernel
theorem dX5_find_55 : decode cX5_find 55 = .ok (.ifCond .eq 7, 3) := by decide +kernel
theorem dX5_find_58 : decode cX5_find 58 = .ok (.aconst_null, 1) := by decide +kernel
theorem dX5_find_59 : decode cX5_find 59 = .ok (.goto 8, 3) := by decide +kernel
theorem dX5_find_62 : decode cX5_find 62 = .ok (.aload 4, 2) := by decide +kernel
theorem dX5_find_64 : decode cX5_find 64 = .ok (.getfield 77, 3) := by decide +kernel
theorem dX5_find_67 : decode cX5_find 67 = .ok (.astore 4, 2) := by decide +kernel
theorem dX5_find_69 : decode cX5_find 69 = .ok (.goto (-42), 3) := by decide +kernel
theorem dX5_find_72 : decode cX5_find 72 = .ok (.aload_n 0, 1) := by decide +kernel
theorem dX5_find_73 : decode cX5_find 73 = .ok (.aload_n 3, 1) := by decide +kernel
theorem dX5_find_74 : decode cX5_find 74 = .ok (.iload_n 2, 1) := by decide +kernel
theorem dX5_find_75 : decode cX5_find 75 = .ok (.invokevirtual 137, 3) := by decide +kernel
theorem dX5_find_78 : decode cX5_find 78 = .ok (.istore 4, 2) := by decide +kernel
theorem dX5_find_80 : decode cX5_find 80 = .ok (.iload 4, 2) := by decide +kernel
theorem dX5_find_82 : decode cX5_find 82 = .ok (.ifCond .lt 6, 3) := by decide +kernel
theorem dX5_find_85 : decode cX5_find 85 = .ok (.iload 4, 2) := by decide +kernel
theorem dX5_find_87 : decode cX5_find 87 = .ok (.ireturn, 1) := by decide +kernel
theorem dX5_find_88 : decode cX5_find 88 = .ok (.aload_n 0, 1) := by decide +kernel
theorem dX5_find_89 : decode cX5_find 89 = .ok (.aload_n 3, 1) := by decide +kernel
theorem dX5_find_90 : decode cX5_find 90 = .ok (.invokevirtual 97, 3) := by decide +kernel
theorem dX5_find_93 : decode cX5_find 93 = .ok (.astore 5, 2) := by decide +kernel
theorem dX5_find_95 : decode cX5_find 95 = .ok (.iconst 0, 1) := by decide +kernel
theorem dX5_find_96 : decode cX5_find 96 = .ok (.istore 6, 2) := by decide +kernel
theorem dX5_find_98 : decode cX5_find 98 = .ok (.iload 6, 2) := by decide +kernel
theorem dX5_find_100 : decode cX5_find 100 = .ok (.aload 5, 2) := by decide +kernel
theorem dX5_find_102 : decode cX5_find 102 = .ok (.invokevirtual 28, 3) := by decide +kernel
theorem dX5_find_105 : decode cX5_find 105 = .ok (.if_icmp .ge 44, 3) := by decide +kernel
theorem dX5_find_108 : decode cX5_find 108 = .ok (.aload 5, 2) := by decide +kernel
theorem dX5_find_110 : decode cX5_find 110 = .ok (.iload 6, 2) := by decide +kernel
theorem dX5_find_112 : decode cX5_find 112 = .ok (.invokevirtual 32, 3) := by decide +kernel
theorem dX5_find_115 : decode cX5_find 115 = .ok (.checkcast 19, 3) := by decide +kernel
theorem dX5_find_118 : decode cX5_find 118 = .ok (.iload_n 2, 1) := by decide +kernel
theorem dX5_find_119 : decode cX5_find 119 = .ok (.invokevirtual 58, 3) := by decide +kernel
theorem dX5_find_122 : decode cX5_find 122 = .ok (.ifnull 21, 3) := by decide +kernel
theorem dX5_find_125 : decode cX5_find 125 = .ok (.aload 5, 2) := by decide +kernel
theorem dX5_find_127 : decode cX5_find 127 = .ok (.iload 6, 2) := by decide +kernel
theorem dX5_find_129 : decode cX5_find 129 = .ok (.invokevirtual 32, 3) := by decide +kernel
theorem dX5_find_132 : decode cX5_find 132 = .ok (.checkcast 19, 3) := by decide +kernel
theorem dX5_find_135 : decode cX5_find 135 = .ok (.iload_n 2, 1) := by decide +kernel
theorem dX5_find_136 : decode cX5_find 136 = .ok (.invokevirtual 58, 3) := by decide +kernel
theorem dX5_find_139 : decode cX5_find 139 = .ok (.getfield 65, 3) := by decide +kernel
theorem dX5_find_142 : decode cX5_find 142 = .ok (.ireturn, 1) := by decide +kernel
theorem dX5_find_143 : decode cX5_find 143 = .ok (.iinc 6 1, 3) := by decide +kernel
theorem dX5_find_146 : decode cX5_find 146 = .ok (.goto (-48), 3) := by decide +kernel
theorem dX5_find_149 : decode cX5_find 149 = .ok (.iconst (-1), 1) := by decide +kernel
theorem dX5_find_150 : decode cX5_find 150 = .ok (.ireturn, 1) := by decide +kernel
set_option maxRecDepth 20000 in
theorem ggX5_choose_X5_at : GoodIn wsX5_choose wsX5_at := goodIn_r _ [13, 14, 15, 16, 17, 18, 19, 20, 21, 22, 23, 24, 25, 26, 27, 28, 29, 30, 31, 32, 33, 34, 35, 36, 37, 38, 165, 166, 167, 168, 169, 170] (by decide +kernel) (by decide +kernel)
set_option maxRecDepth 20000 in
theorem gX5_choose_X5_at : GoodIn wsX5_choose (wsV RX5 38 RX5 yX5_at wsX5_at) := goodIn_app (goodIn_of _ (by decide +kernel)) ggX5_choose_X5_at
set_option maxRecDepth 20000 in
theorem ggX5_choose_X5_met : GoodIn wsX5_choose wsX5_met := goodIn_r _ [42, 43, 44, 16, 17, 18, 19, 20, 21, 22, 23, 24, 25, 26, 27, 28, 29, 30, 31, 32, 33, 34, 35, 36, 37, 38, 165, 166, 167, 168, 169, 170] (by decide +kernel) (by decide +kernel)
set_option maxRecDepth 20000 in
theorem gX5_choose_X5_met : GoodIn wsX5_choose (wsV RX5 120 RX5 yX5_met wsX5_met) := goodIn_app (goodIn_of _ (by decide +kernel)) ggX5_choose_X5_met
set_option maxRecDepth 20000 in
theorem ggX5_choose_X5_lies : GoodIn wsX5_choose wsX5_lies := goodIn_r _ [48, 49, 50, 51, 52, 12, 53, 54, 55, 8, 56, 15, 16, 17, 18, 19, 20, 21, 22, 23, 24, 25, 26, 27, 28, 29, 30, 31, 32, 33, 34, 35, 36, 37, 38, 165, 166, 167, 149, 150, 151, 152, 153, 154, 155, 156, 157, 168, 169, 170] (by decide +kernel) (by decide +kernel)
set_option maxRecDepth 20000 in
theorem gX5_choose_X5_lies : GoodIn wsX5_choose (wsV RX5 81 RX5 yX5_lies wsX5_lies) := goodIn_app (goodIn_of _ (by decide +kernel)) ggX5_choose_X5_lies
set_option maxRecDepth 20000 in
theorem ggX5_choose_X3_named : GoodIn wsX5_choose wsX3_named := goodIn_r _ [61, 62, 63, 64, 65, 17, 18, 19, 20, 21, 66, 23, 24, 25, 26, 27, 28, 29, 30, 31, 32, 33, 34, 35, 36, 37, 38, 149, 150, 151, 152, 153, 154, 155, 156, 157, 158, 159, 160, 161, 162, 163, 164, 168, 169, 170] (by decide +kernel) (by decide +kernel)
set_option maxRecDepth 20000 in
theorem gX5_choose_X3_named : GoodIn wsX5_choose (wsV RX5 58 RX3 yX3_named wsX3_named) := goodIn_app (goodIn_of _ (by decide +kernel)) ggX5_choose_X3_named
set_option maxRecDepth 20000 in
theorem ggX5_choose_X5_goesOver : GoodIn wsX5_choose wsX5_goesOver := goodIn_r _ [69, 3, 5, 4, 70, 8, 71, 72, 12, 73, 2, 57, 58, 59, 60, 61, 62, 63, 64, 65, 17, 18, 19, 20, 21, 66, 23, 24, 25, 26, 27, 28, 29, 30, 31, 32, 33, 34, 35, 36, 37, 38, 158, 159, 160, 161, 162, 163, 164, 149, 150, 151, 152, 153, 154, 155, 156, 157, 168, 169, 170] (by decide +kernel) (by decide +kernel)
set_option maxRecDepth 20000 in
theorem gX5_choose_X5_goesOver : GoodIn wsX5_choose (va_wsS RX5 123 yX5_goesOver wsX5_goesOver) := goodIn_app (goodIn_of _ (by decide +kernel)) ggX5_choose_X5_goesOver
set_option maxRecDepth 20000 in
theorem ggX5_choose_X5_single : GoodIn wsX5_choose wsX5_single := goodIn_r _ [77, 15, 6, 7, 78, 79, 80, 12, 81, 82, 56, 83, 49, 16, 17, 18, 19, 20, 21, 84, 85, 86, 87, 88, 89, 38, 90, 91, 92, 93, 54, 8, 22, 23, 24, 25, 26, 27, 28, 29, 30, 31, 32, 33, 34, 35, 36, 37, 94, 95, 96, 97, 98, 99, 100, 101, 102, 103, 104, 105, 106, 107, 108, 109, 110, 111, 112, 113, 114, 115, 116, 117, 118, 119, 120, 121, 122, 123, 124, 125, 126, 127, 128, 129, 130, 131, 132, 133, 134, 135, 136, 137, 138, 139, 140, 141, 142, 143, 144, 145, 146, 147, 148, 57, 58, 59, 60, 61, 62, 63, 64, 65, 66, 45, 46, 47, 48, 50, 51, 52, 53, 55, 158, 159, 160, 161, 162, 163, 164, 149, 150, 151, 152, 153, 154, 155, 156, 157, 165, 166, 167, 168, 169, 170] (by decide +kernel) (by decide +kernel)
set_option maxRecDepth 20000 in
theorem gX5_choose_X5_single : GoodIn wsX5_choose (wsV RX5 137 RX5 yX5_single wsX5_single) := goodIn_app (goodIn_of _ (by decide +kernel)) ggX5_choose_X5_single
theorem dX5_choose_0 : decode cX5_choose 0 = .ok (.aload_n 0, 1) := by decide +kernel
theorem dX5_choose_1 : decode cX5_choose 1 = .ok (.iload_n 1, 1) := by decide +kernel
theorem dX5_choose_2 : decode cX5_choose 2 = .ok (.invokevirtual 38, 3) := by decide +kernel
theorem dX5_choose_5 : decode cX5_choose 5 = .ok (.astore_n 3, 1) := by decide +kernel
theorem dX5_choose_6 : decode cX5_choose 6 = .ok (.aload_n 0, 1) := by decide +kernel
theorem dX5_choose_7 : decode cX5_choose 7 = .ok (.iload_n 2, 1) := by decide +kernel
theorem dX5_choose_8 : decode cX5_choose 8 = .ok (.invokevirtual 120, 3) := by decide +kernel
theorem dX5_choose_11 : decode cX5_choose 11 = .ok (.astore 4, 2) := by decide +kernel
theorem dX5_choose_13 : decode cX5_choose 13 = .ok (.aload_n 3, 1) := by decide +kernel
theorem dX5_choose_14 : decode cX5_choose 14 = .ok (.ifnull 36, 3) := by decide +kernel
theorem dX5_choose_17 : decode cX5_choose 17 = .ok (.aload_n 3, 1) := by decide +kernel
theorem dX5_choose_18 : decode cX5_choose 18 = .ok (.getfield 42, 3) := by decide +kernel
theorem dX5_choose_21 : decode cX5_choose 21 = .ok (.ifCond .ne 29, 3) := by decide +kernel
theorem dX5_choose_24 : decode cX5_choose 24 = .ok (.aload 4, 2) := by decide +kernel
theorem dX5_choose_26 : decode cX5_choose 26 = .ok (.ifnull 24, 3) := by decide +kernel
theorem dX5_choose_29 : decode cX5_choose 29 = .ok (.aload 4, 2) := by decide +kernel
theorem dX5_choose_31 : decode cX5_choose 31 = .ok (.getfield 101, 3) := by decide +kernel
theorem dX5_choose_34 : decode cX5_choose 34 = .ok (.ifCond .ne 16, 3) := by decide +kernel
theorem dX5_choose_37 : decode cX5_choose 37 = .ok (.aload_n 0, 1) := by decide +kernel
theorem dX5_choose_38 : decode cX5_choose 38 = .ok (.aload_n 3, 1) := by decide +kernel
theorem dX5_choose_39 : decode cX5_choose 39 = .ok (.aload 4, 2) := by decide +kernel
theorem dX5_choose_41 : decode cX5_choose 41 = .ok (.getfield 107, 3) := by decide +kernel
theorem dX5_choose_44 : decode cX5_choose 44 = .ok (.invokevirtual 81, 3) := by decide +kernel
theorem dX5_choose_47 : decode cX5_choose 47 = .ok (.ifCond .ne 6, 3) := by decide +kernel
theorem dX5_choose_50 : decode cX5_choose 50 = .ok (.bipush (-14), 2) := by decide +kernel
theorem dX5_choose_52 : decode cX5_choose 52 = .ok (.ireturn, 1) := by decide +kernel
theorem dX5_choose_53 : decode cX5_choose 53 = .ok (.aload 4, 2) := by decide +kernel
theorem dX5_choose_55 : decode cX5_choose 55 = .ok (.getfield 104, 3) := by decide +kernel
theorem dX5_choose_58 : decode cX5_choose 58 = .ok (.iconst 3, 1) := by decide +kernel
theorem dX5_choose_59 : decode cX5_choose 59 = .ok (.if_icmp .ne 5, 3) := by decide +kernel
theorem dX5_choose_62 : decode cX5_choose 62 = .ok (.iload_n 2, 1) := by decide +kernel
theorem dX5_choose_63 : decode cX5_choose 63 = .ok (.ireturn, 1) := by decide +kernel
theorem dX5_choose_64 : decode cX5_choose 64 = .ok (.aload_n 3, 1) := by decide +kernel
theorem dX5_choose_65 : decode cX5_choose 65 = .ok (.astore 5, 2) := by decide +kernel
theorem dX5_choose_67 : decode cX5_choose 67 = .ok (.aload 5, 2) := by decide +kernel
theorem dX5_choose_69 : decode cX5_choose 69 = .ok (.ifnull 66, 3) := by decide +kernel
theorem dX5_choose_72 : decode cX5_choose 72 = .ok (.aload 5, 2) := by decide +kernel
theorem dX5_choose_74 : decode cX5_choose 74 = .ok (.aload 4, 2) := by decide +kernel
theorem dX5_choose_76 : decode cX5_choose 76 = .ok (.getfield 110, 3) := by decide +kernel
theorem dX5_choose_79 : decode cX5_choose 79 = .ok (.invokevirtual 58, 3) := by decide +kernel
theorem dX5_choose_82 : decode cX5_choose 82 = .ok (.astore 6, 2) := by decide +kernel
theorem dX5_choose_84 : decode cX5_choose 84 = .ok (.aload 6, 2) := by decide +kernel
theorem dX5_choose_86 : decode cX5_choose 86 = .ok (.ifnull 39, 3) := by decide +kernel
theorem dX5_choose_89 : decode cX5_choose 89 = .ok (.aload 6, 2) := by decide +kernel
theorem dX5_choose_91 : decode cX5_choose 91 = .ok (.aload 4, 2) := by decide +kernel
theorem dX5_choose_93 : decode cX5_choose 93 = .ok (.if_acmp .eq 13, 3) := by decide +kernel
theorem dX5_choose_96 : decode cX5_choose 96 = .ok (.aload 6, 2) := by decide +kernel
theorem dX5_choose_98 : decode cX5_choose 98 = .ok (.aload 4, 2) := by decide +kernel
theorem dX5_choose_100 : decode cX5_choose 100 = .ok (.invokestatic 123, 3) := by decide +kernel
theorem dX5_choose_103 : decode cX5_choose 103 = .ok (.ifCond .eq 22, 3) := by decide +kernel
theorem dX5_choose_106 : decode cX5_choose 106 = .ok (.aload 6, 2) := by decide +kernel
theorem dX5_choose_108 : decode cX5_choose 108 = .ok (.getfield 134, 3) := by decide +kernel
theorem dX5_choose_111 : decode cX5_choose 111 = .ok (.ifCond .eq 8, 3) := by decide +kernel
theorem dX5_choose_114 : decode cX5_choose 114 = .ok (.bipush (-25), 2) := by decide +kernel
theorem dX5_choose_116 : decode cX5_choose 116 = .ok (.goto 8, 3) := by decide +kernel
theorem dX5_choose_119 : decode cX5_choose 119 = .ok (.aload 6, 2) := by decide +kernel
theorem dX5_choose_121 : decode cX5_choose 121 = .ok (.getfield 65, 3) := by decide +kernel
theorem dX5_choose_124 : decode cX5_choose 124 = .ok (.ireturn, 1) := by decide +kernel
theorem dX5_choose_125 : decode cX5_choose 125 = .ok (.aload 5, 2) := by decide +kernel
theorem dX5_choose_127 : decode cX5_choose 127 = .ok (.getfield 77, 3) := by decide +kernel
theorem dX5_choose_130 : decode cX5_choose 130 = .ok (.astore 5, 2) := by decide +kernel
theorem dX5_choose_132 : decode cX5_choose 132 = .ok (.goto (-65), 3) := by decide +kernel
theorem dX5_choose_135 : decode cX5_choose 135 = .ok (.aload_n 0, 1) := by decide +kernel
theorem dX5_choose_136 : decode cX5_choose 136 = .ok (.aload_n 3, 1) := by decide +kernel
theorem dX5_choose_137 : decode cX5_choose 137 = .ok (.aload 4, 2) := by decide +kernel
theorem dX5_choose_139 : decode cX5_choose 139 = .ok (.getfield 110, 3) := by decide +kernel
theorem dX5_choose_142 : decode cX5_choose 142 = .ok (.invokevirtual 137, 3) := by decide +kernel
theorem dX5_choose_145 : decode cX5_choose 145 = .ok (.ireturn, 1) := by decide +kernel
set_option maxRecDepth 20000 in
theorem ggX5_special_X5_at : GoodIn wsX5_special wsX5_at := goodIn_r _ [11, 12, 13, 14, 15, 16, 17, 18, 19, 20, 21, 22, 23, 24, 25, 26, 27, 28, 29, 30, 31, 32, 33, 34, 35, 36, 163, 164, 165, 166, 167, 168] (by decide +kernel) (by decide +kernel)
set_option maxRecDepth 20000 in
theorem gX5_special_X5_at : GoodIn wsX5_special (wsV RX5 38 RX5 yX5_at wsX5_at) := goodIn_app (goodIn_of _ (by decide +kernel)) ggX5_special_X5_at
set_option maxRecDepth 20000 in
theorem ggX5_special_X5_isName : GoodIn wsX5_special wsX5_isName := goodIn_r _ [39] (by decide +kernel) (by decide +kernel)
set_option maxRecDepth 20000 in
theorem gX5_special_X5_isName : GoodIn wsX5_special (va_wsS RX5 54 yX5_isName wsX5_isName) := goodIn_app (goodIn_of _ (by decide +kernel)) ggX5_special_X5_isName
set_option maxRecDepth 20000 in
theorem ggX5_special_X5_find : GoodIn wsX5_special wsX5_find := goodIn_r _ [43, 6, 1, 4, 13, 7, 8, 9, 10, 11, 12, 14, 15, 16, 17, 18, 19, 20, 21, 22, 23, 24, 25, 26, 27, 28, 29, 30, 31, 32, 33, 34, 35, 36, 37, 38, 39, 44, 45, 46, 47, 48, 49, 50, 51, 52, 53, 54, 55, 56, 57, 5, 58, 59, 60, 61, 62, 63, 64, 65, 66, 67, 68, 69, 70, 71, 72, 73, 74, 75, 76, 77, 78, 79, 80, 81, 82, 83, 84, 85, 86, 87, 88, 89, 90, 91, 92, 93, 94, 95, 96, 97, 98, 99, 100, 101, 102, 103, 104, 105, 106, 107, 108, 109, 110, 111, 112, 113, 114, 115, 116, 117, 118, 119, 120, 121, 122, 123, 124, 125, 126, 127, 128, 129, 130, 131, 132, 133, 134, 135, 136, 137, 138, 139, 140, 156, 157, 158, 159, 160, 161, 162, 147, 148, 149, 150, 151, 152, 153, 154, 155, 163, 164, 165, 166, 167, 168] (by decide +kernel) (by decide +kernel)
set_option maxRecDepth 20000 in
theorem gX5_special_X5_find : GoodIn wsX5_special (wsV RX5 141 RX5 yX5_find wsX5_find) := goodIn_app (goodIn_of _ (by decide +kernel)) ggX5_special_X5_find
set_option maxRecDepth 20000 in
theorem ggX5_special_X5_met : GoodIn wsX5_special wsX5_met := goodIn_r _ [144, 145, 146, 14, 15, 16, 17, 18, 19, 20, 21, 22, 23, 24, 25, 26, 27, 28, 29, 30, 31, 32, 33, 34, 35, 36, 163, 164, 165, 166, 167, 168] (by decide +kernel) (by decide +kernel)
set_option maxRecDepth 20000 in
theorem gX5_special_X5_met : GoodIn wsX5_special (wsV RX5 120 RX5 yX5_met wsX5_met) := goodIn_app (goodIn_of _ (by decide +kernel)) ggX5_special_X5_met
set_option maxRecDepth 20000 in
theorem ggX5_special_X5_lies : GoodIn wsX5_special wsX5_lies := goodIn_r _ [135, 65, 136, 137, 138, 10, 139, 76, 140, 4, 63, 13, 14, 15, 16, 17, 18, 19, 20, 21, 22, 23, 24, 25, 26, 27, 28, 29, 30, 31, 32, 33, 34, 35, 36, 163, 164, 165, 147, 148, 149, 150, 151, 152, 153, 154, 155, 166, 167, 168] (by decide +kernel) (by decide +kernel)
set_option maxRecDepth 20000 in
theorem gX5_special_X5_lies : GoodIn wsX5_special (wsV RX5 81 RX5 yX5_lies wsX5_lies) := goodIn_app (goodIn_of _ (by decide +kernel)) ggX5_special_X5_lies
set_option maxRecDepth 20000 in
theorem ggX5_special_X3_named : GoodIn wsX5_special wsX3_named := goodIn_r _ [48, 49, 50, 51, 52, 15, 16, 17, 18, 19, 53, 21, 22, 23, 24, 25, 26, 27, 28, 29, 30, 31, 32, 33, 34, 35, 36, 147, 148, 149, 150, 151, 152, 153, 154, 155, 156, 157, 158, 159, 160, 161, 162, 166, 167, 168] (by decide +kernel) (by decide +kernel)
set_option maxRecDepth 20000 in
theorem gX5_special_X3_named : GoodIn wsX5_special (wsV RX5 58 RX3 yX3_named wsX3_named) := goodIn_app (goodIn_of _ (by decide +kernel)) ggX5_special_X3_named
set_option maxRecDepth 20000 in
theorem ggX5_special_X5_single : GoodIn wsX5_special wsX5_single := goodIn_r _ [57, 13, 5, 6, 58, 59, 60, 10, 61, 62, 63, 64, 65, 14, 15, 16, 17, 18, 19, 66, 67, 68, 69, 70, 71, 36, 72, 73, 74, 75, 76, 4, 20, 21, 22, 23, 24, 25, 26, 27, 28, 29, 30, 31, 32, 33, 34, 35, 77, 78, 79, 80, 81, 82, 83, 84, 85, 86, 87, 88, 89, 90, 91, 92, 93, 94, 95, 96, 97, 98, 99, 100, 101, 102, 103, 104, 105, 106, 107, 108, 109, 110, 111, 112, 113, 114, 115, 116, 117, 118, 119, 120, 121, 122, 123, 124, 125, 126, 127, 128, 129, 130, 131, 44, 45, 46, 47, 48, 49, 50, 51, 52, 53, 132, 133, 134, 135, 136, 137, 138, 139, 140, 156, 157, 158, 159, 160, 161, 162, 147, 148, 149, 150, 151, 152, 153, 154, 155, 163, 164, 165, 166, 167, 168] (by decide +kernel) (by decide +kernel)
set_option maxRecDepth 20000 in
theorem gX5_special_X5_single : GoodIn wsX5_special (wsV RX5 137 RX5 yX5_single wsX5_single) := goodIn_app (goodIn_of _ (by decide +kernel)) ggX5_special_X5_single
theorem dX5_special_0 : decode cX5_special 0 = .ok (.aload_n 0, 1) := by decide +kernel
theorem dX5_special_1 : decode cX5_special 1 = .ok (.iload_n 1, 1) := by decide +kernel
theorem dX5_special_2 : decode cX5_special 2 = .ok (.invokevirtual 38, 3) := by decide +kernel
theorem dX5_special_5 : decode cX5_special 5 = .ok (.astore 4, 2) := by decide +kernel
theorem dX5_special_7 : decode cX5_special 7 = .ok (.aload_n 0, 1) := by decide +kernel
theorem dX5_special_8 : decode cX5_special 8 = .ok (.iload_n 2, 1) := by decide +kernel
theorem dX5_special_9 : decode cX5_special 9 = .ok (.invokevirtual 38, 3) := by decide +kernel
theorem dX5_special_12 : decode cX5_special 12 = .ok (.astore 5, 2) := by decide +kernel
theorem dX5_special_14 : decode cX5_special 14 = .ok (.aload 4, 2) := by decide +kernel
theorem dX5_special_16 : decode cX5_special 16 = .ok (.ifnull 31, 3) := by decide +kernel
theorem dX5_special_19 : decode cX5_special 19 = .ok (.aload 5, 2) := by decide +kernel
theorem dX5_special_21 : decode cX5_special 21 = .ok (.ifnull 26, 3) := by decide +kernel
theorem dX5_special_24 : decode cX5_special 24 = .ok (.aload 4, 2) := by decide +kernel
theorem dX5_special_26 : decode cX5_special 26 = .ok (.getfield 42, 3) := by decide +kernel
theorem dX5_special_29 : decode cX5_special 29 = .ok (.ifCond .ne 18, 3) := by decide +kernel
theorem dX5_special_32 : decode cX5_special 32 = .ok (.aload 5, 2) := by decide +kernel
theorem dX5_special_34 : decode cX5_special 34 = .ok (.getfield 42, 3) := by decide +kernel
theorem dX5_special_37 : decode cX5_special 37 = .ok (.ifCond .ne 10, 3) := by decide +kernel
theorem dX5_special_40 : decode cX5_special 40 = .ok (.iload_n 3, 1) := by decide +kernel
theorem dX5_special_41 : decode cX5_special 41 = .ok (.invokestatic 54, 3) := by decide +kernel
theorem dX5_special_44 : decode cX5_special 44 = .ok (.ifCond .ne 6, 3) := by decide +kernel
theorem dX5_special_47 : decode cX5_special 47 = .ok (.bipush (-14), 2) := by decide +kernel
theorem dX5_special_49 : decode cX5_special 49 = .ok (.ireturn, 1) := by decide +kernel
theorem dX5_special_50 : decode cX5_special 50 = .ok (.aload_n 0, 1) := by decide +kernel
theorem dX5_special_51 : decode cX5_special 51 = .ok (.iload_n 2, 1) := by decide +kernel
theorem dX5_special_52 : decode cX5_special 52 = .ok (.iload_n 3, 1) := by decide +kernel
theorem dX5_special_53 : decode cX5_special 53 = .ok (.invokevirtual 141, 3) := by decide +kernel
theorem dX5_special_56 : decode cX5_special 56 = .ok (.istore 6, 2) := by decide +kernel
theorem dX5_special_58 : decode cX5_special 58 = .ok (.iload 6, 2) := by decide +kernel
theorem dX5_special_60 : decode cX5_special 60 = .ok (.ifCond .ge 6, 3) := by decide +kernel
theorem dX5_special_63 : decode cX5_special 63 = .ok (.bipush (-12), 2) := by decide +kernel
theorem dX5_special_65 : decode cX5_special 65 = .ok (.ireturn, 1) := by decide +kernel
theorem dX5_special_66 : decode cX5_special 66 = .ok (.aload_n 0, 1) := by decide +kernel
theorem dX5_special_67 : decode cX5_special 67 = .ok (.iload 6, 2) := by decide +kernel
theorem dX5_special_69 : decode cX5_special 69 = .ok (.invokevirtual 120, 3) := by decide +kernel
theorem dX5_special_72 : decode cX5_special 72 = .ok (.getfield 101, 3) := by decide +kernel
theorem dX5_special_75 : decode cX5_special 75 = .ok (.ifCond .eq 6, 3) := by decide +kernel
theorem dX5_special_78 : decode cX5_special 78 = .ok (.bipush (-21), 2) := by decide +kernel
theorem dX5_special_80 : decode cX5_special 80 = .ok (.ireturn, 1) := by decide +kernel
theorem dX5_special_81 : decode cX5_special 81 = .ok (.aload_n 0, 1) := by decide +kernel
theorem dX5_special_82 : decode cX5_special 82 = .ok (.iload 6, 2) := by decide +kernel
theorem dX5_special_84 : decode cX5_special 84 = .ok (.invokevirtual 120, 3) := by decide +kernel
theorem dX5_special_87 : decode cX5_special 87 = .ok (.getfield 104, 3) := by decide +kernel
theorem dX5_special_90 : decode cX5_special 90 = .ok (.iconst 3, 1) := by decide +kernel
theorem dX5_special_91 : decode cX5_special 91 = .ok (.if_icmp .eq 21, 3) := by decide +kernel
theorem dX5_special_94 : decode cX5_special 94 = .ok (.aload 4, 2) := by decide +kernel
theorem dX5_special_96 : decode cX5_special 96 = .ok (.aload 5, 2) := by decide +kernel
theorem dX5_special_98 : decode cX5_special 98 = .ok (.if_acmp .eq 14, 3) := by decide +kernel
theorem dX5_special_101 : decode cX5_special 101 = .ok (.aload_n 0, 1) := by decide +kernel
theorem dX5_special_102 : decode cX5_special 102 = .ok (.aload 4, 2) := by decide +kernel
theorem dX5_special_104 : decode cX5_special 104 = .ok (.aload 5, 2) := by decide +kernel
theorem dX5_special_106 : decode cX5_special 106 = .ok (.invokevirtual 81, 3) := by decide +kernel
theorem dX5_special_109 : decode cX5_special 109 = .ok (.ifCond .ne 8, 3) := by decide +kernel
theorem dX5_special_112 : decode cX5_special 112 = .ok (.aload 5, 2) := by decide +kernel
theorem dX5_special_114 : decode cX5_special 114 = .ok (.goto 8, 3) := by decide +kernel
theorem dX5_special_117 : decode cX5_special 117 = .ok (.aload 4, 2) := by decide +kernel
theorem dX5_special_119 : decode cX5_special 119 = .ok (.getfield 77, 3) := by decide +kernel
theorem dX5_special_122 : decode cX5_special 122 = .ok (.astore 7, 2) := by decide +kernel
theorem dX5_special_124 : decode cX5_special 124 = .ok (.aload 7, 2) := by decide +kernel
theorem dX5_special_126 : decode cX5_special 126 = .ok (.astore 8, 2) := by decide +kernel
theorem dX5_special_128 : decode cX5_special 128 = .ok (.aload 8, 2) := by decide +kernel
theorem dX5_special_130 : decode cX5_special 130 = .ok (.ifnull 53, 3) := by decide +kernel
theorem dX5_special_133 : decode cX5_special 133 = .ok (.aload 8, 2) := by decide +kernel
theorem dX5_special_135 : decode cX5_special 135 = .ok (.iload_n 3, 1) := by decide +kernel
theorem dX5_special_136 : decode cX5_special 136 = .ok (.invokevirtual 58, 3) := by decide +kernel
theorem dX5_special_139 : decode cX5_special 139 = .ok (.astore 9, 2) := by decide +kernel
theorem dX5_special_141 : decode cX5_special 141 = .ok (.aload 9, 2) := by decide +kernel
theorem dX5_special_143 : decode cX5_special 143 = .ok (.ifnull 30, 3) := by decide +kernel
theorem dX5_special_146 : decode cX5_special 146 = .ok (.aload 9, 2) := by decide +kernel
theorem dX5_special_148 : decode cX5_special 148 = .ok (.getfield 101, 3) := by decide +kernel
theorem dX5_special_151 : decode cX5_special 151 = .ok (.ifCond .ne 22, 3) := by decide +kernel
theorem dX5_special_154 : decode cX5_special 154 = .ok (.aload 9, 2) := by decide +kernel
theorem dX5_special_156 : decode cX5_special 156 = .ok (.getfield 134, 3) := by decide +kernel
theorem dX5_special_159 : decode cX5_special 159 = .ok (.ifCond .eq 8, 3) := by decide +kernel
theorem dX5_special_162 : decode cX5_special 162 = .ok (.bipush (-25), 2) := by decide +kernel
theorem dX5_special_164 : decode cX5_special 164 = .ok (.goto 8, 3) := by decide +kernel
theorem dX5_special_167 : decode cX5_special 167 = .ok (.aload 9, 2) := by decide +kernel
theorem dX5_special_169 : decode cX5_special 169 = .ok (.getfield 65, 3) := by decide +kernel
theorem dX5_special_172 : decode cX5_special 172 = .ok (.ireturn, 1) := by decide +kernel
theorem dX5_special_173 : decode cX5_special 173 = .ok (.aload 8, 2) := by decide +kernel
theorem dX5_special_175 : decode cX5_special 175 = .ok (.getfield 77, 3) := by decide +kernel
theorem dX5_special_178 : decode cX5_special 178 = .ok (.astore 8, 2) := by decide +kernel
theorem dX5_special_180 : decode cX5_special 180 = .ok (.goto (-52), 3) := by decide +kernel
theorem dX5_special_183 : decode cX5_special 183 = .ok (.aload_n 0, 1) := by decide +kernel
theorem dX5_special_184 : decode cX5_special 184 = .ok (.aload 7, 2) := by decide +kernel
theorem dX5_special_186 : decode cX5_special 186 = .ok (.iload_n 3, 1) := by decide +kernel
theorem dX5_special_187 : decode cX5_special 187 = .ok (.invokevirtual 137, 3) := by decide +kernel
theorem dX5_special_190 : decode cX5_special 190 = .ok (.istore 8, 2) := by decide +kernel
theorem dX5_special_192 : decode cX5_special 192 = .ok (.iload 8, 2) := by decide +kernel
theorem dX5_special_194 : decode cX5_special 194 = .ok (.ifCond .ge 8, 3) := by decide +kernel
theorem dX5_special_197 : decode cX5_special 197 = .ok (.bipush (-25), 2) := by decide +kernel
theorem dX5_special_199 : decode cX5_special 199 = .ok (.goto 5, 3) := by decide +kernel
theorem dX5_special_202 : decode cX5_special 202 = .ok (.iload 8, 2) := by decide +kernel
theorem dX5_special_204 : decode cX5_special 204 = .ok (.ireturn, 1) := by decide +kernel
set_option maxRecDepth 20000 in
theorem ggX5_kin_X5_met : GoodIn wsX5_kin wsX5_met := goodIn_r _ [9, 1, 2, 10, 11, 12, 13, 14, 15, 16, 17, 18, 19, 20, 21, 22, 23, 24, 25, 26, 27, 28, 29, 30, 31, 32, 66, 67, 68, 76, 77, 78] (by decide +kernel) (by decide +kernel)
set_option maxRecDepth 20000 in
theorem gX5_kin_X5_met : GoodIn wsX5_kin (wsV RX5 120 RX5 yX5_met wsX5_met) := goodIn_app (goodIn_of _ (by decide +kernel)) ggX5_kin_X5_met
set_option maxRecDepth 20000 in
theorem ggX5_kin_Jx4a65c_size_8abf5 : GoodIn wsX5_kin wsJx4a65c_size_8abf5 := goodIn_r _ [14, 15, 76, 77, 78] (by decide +kernel) (by decide +kernel)
set_option maxRecDepth 20000 in
theorem gX5_kin_Jx4a65c_size_8abf5 : GoodIn wsX5_kin (wsV RX5 28 RJx4a65c yJx4a65c_size_8abf5 wsJx4a65c_size_8abf5) := goodIn_app (goodIn_of _ (by decide +kernel)) ggX5_kin_Jx4a65c_size_8abf5
set_option maxRecDepth 20000 in
theorem ggX5_kin_Jx4a65c_get_915e3 : GoodIn wsX5_kin wsJx4a65c_get_915e3 := goodIn_r _ [19, 15, 20, 21, 22, 23, 24, 25, 26, 27, 28, 29, 30, 13, 31, 32, 76, 77, 78] (by decide +kernel) (by decide +kernel)
set_option maxRecDepth 20000 in
theorem gX5_kin_Jx4a65c_get_915e3 : GoodIn wsX5_kin (wsV RX5 32 RJx4a65c yJx4a65c_get_915e3 wsJx4a65c_get_915e3) := goodIn_app (goodIn_of _ (by decide +kernel)) ggX5_kin_Jx4a65c_get_915e3
set_option maxRecDepth 20000 in
theorem ggX5_kin_X5_lies : GoodIn wsX5_kin wsX5_lies := goodIn_r _ [36, 37, 38, 39, 40, 8, 41, 42, 43, 44, 45, 46, 10, 11, 12, 13, 14, 15, 16, 17, 18, 19, 20, 21, 22, 23, 24, 25, 26, 27, 28, 29, 30, 31, 32, 66, 67, 68, 79, 80, 81, 82, 83, 84, 85, 86, 87, 76, 77, 78] (by decide +kernel) (by decide +kernel)
set_option maxRecDepth 20000 in
theorem gX5_kin_X5_lies : GoodIn wsX5_kin (wsV RX5 81 RX5 yX5_lies wsX5_lies) := goodIn_app (goodIn_of _ (by decide +kernel)) ggX5_kin_X5_lies
set_option maxRecDepth 20000 in
theorem ggX5_kin_X5_goesOver : GoodIn wsX5_kin wsX5_goesOver := goodIn_r _ [49, 4, 3, 50, 51, 44, 52, 53, 8, 54, 55, 56, 57, 58, 59, 60, 61, 62, 63, 64, 11, 12, 13, 14, 15, 65, 17, 18, 19, 20, 21, 22, 23, 24, 25, 26, 27, 28, 29, 30, 31, 32, 69, 70, 71, 72, 73, 74, 75, 79, 80, 81, 82, 83, 84, 85, 86, 87, 76, 77, 78] (by decide +kernel) (by decide +kernel)
set_option maxRecDepth 20000 in
theorem gX5_kin_X5_goesOver : GoodIn wsX5_kin (va_wsS RX5 123 yX5_goesOver wsX5_goesOver) := goodIn_app (goodIn_of _ (by decide +kernel)) ggX5_kin_X5_goesOver
theorem dX5_kin_0 : decode cX5_kin 0 = .ok (.aload_n 0, 1) := by decide +kernel
theorem dX5_kin_1 : decode cX5_kin 1 = .ok (.iload_n 1, 1) := by decide +kernel
theorem dX5_kin_2 : decode cX5_kin 2 = .ok (.invokevirtual 120, 3) := by decide +kernel
theorem dX5_kin_5 : decode cX5_kin 5 = .ok (.astore_n 2, 1) := by decide +kernel
theorem dX5_kin_6 : decode cX5_kin 6 = .ok (.aload_n 2, 1) := by decide +kernel
theorem dX5_kin_7 : decode cX5_kin 7 = .ok (.ifnonnull 5, 3) := by decide +kernel
theorem dX5_kin_10 : decode cX5_kin 10 = .ok (.iconst (-1), 1) := by decide +kernel
theorem dX5_kin_11 : decode cX5_kin 11 = .ok (.ireturn, 1) := by decide +kernel
theorem dX5_kin_12 : decode cX5_kin 12 = .ok (.iconst 0, 1) := by decide +kernel
theorem dX5_kin_13 : decode cX5_kin 13 = .ok (.istore_n 3, 1) := by decide +kernel
theorem dX5_kin_14 : decode cX5_kin 14 = .ok (.iconst 0, 1) := by decide +kernel
theorem dX5_kin_15 : decode cX5_kin 15 = .ok (.istore 4, 2) := by decide +kernel
theorem dX5_kin_17 : decode cX5_kin 17 = .ok (.iload 4, 2) := by decide +kernel
theorem dX5_kin_19 : decode cX5_kin 19 = .ok (.aload_n 0, 1) := by decide +kernel
theorem dX5_kin_20 : decode cX5_kin 20 = .ok (.getfield 16, 3) := by decide +kernel
theorem dX5_kin_23 : decode cX5_kin 23 = .ok (.invokevirtual 28, 3) := by decide +kernel
theorem dX5_kin_26 : decode cX5_kin 26 = .ok (.if_icmp .ge 100, 3) := by decide +kernel
theorem dX5_kin_29 : decode cX5_kin 29 = .ok (.aload_n 0, 1) := by decide +kernel
theorem dX5_kin_30 : decode cX5_kin 30 = .ok (.getfield 16, 3) := by decide +kernel
theorem dX5_kin_33 : decode cX5_kin 33 = .ok (.iload 4, 2) := by decide +kernel
theorem dX5_kin_35 : decode cX5_kin 35 = .ok (.invokevirtual 32, 3) := by decide +kernel
theorem dX5_kin_38 : decode cX5_kin 38 = .ok (.checkcast 36, 3) := by decide +kernel
theorem dX5_kin_41 : decode cX5_kin 41 = .ok (.astore 5, 2) := by decide +kernel
theorem dX5_kin_43 : decode cX5_kin 43 = .ok (.aload 5, 2) := by decide +kernel
theorem dX5_kin_45 : decode cX5_kin 45 = .ok (.aload_n 2, 1) := by decide +kernel
theorem dX5_kin_46 : decode cX5_kin 46 = .ok (.if_acmp .eq 74, 3) := by decide +kernel
theorem dX5_kin_49 : decode cX5_kin 49 = .ok (.aload 5, 2) := by decide +kernel
theorem dX5_kin_51 : decode cX5_kin 51 = .ok (.getfield 110, 3) := by decide +kernel
theorem dX5_kin_54 : decode cX5_kin 54 = .ok (.aload_n 2, 1) := by decide +kernel
theorem dX5_kin_55 : decode cX5_kin 55 = .ok (.getfield 110, 3) := by decide +kernel
theorem dX5_kin_58 : decode cX5_kin 58 = .ok (.if_icmp .eq 6, 3) := by decide +kernel
theorem dX5_kin_61 : decode cX5_kin 61 = .ok (.goto 59, 3) := by decide +kernel
theorem dX5_kin_64 : decode cX5_kin 64 = .ok (.aload_n 0, 1) := by decide +kernel
theorem dX5_kin_65 : decode cX5_kin 65 = .ok (.aload 5, 2) := by decide +kernel
theorem dX5_kin_67 : decode cX5_kin 67 = .ok (.getfield 107, 3) := by decide +kernel
theorem dX5_kin_70 : decode cX5_kin 70 = .ok (.aload_n 2, 1) := by decide +kernel
theorem dX5_kin_71 : decode cX5_kin 71 = .ok (.getfield 107, 3) := by decide +kernel
theorem dX5_kin_74 : decode cX5_kin 74 = .ok (.invokevirtual 81, 3) := by decide +kernel
theorem dX5_kin_77 : decode cX5_kin 77 = .ok (.ifCond .eq 15, 3) := by decide +kernel
theorem dX5_kin_80 : decode cX5_kin 80 = .ok (.aload 5, 2) := by decide +kernel
theorem dX5_kin_82 : decode cX5_kin 82 = .ok (.aload_n 2, 1) := by decide +kernel
theorem dX5_kin_83 : decode cX5_kin 83 = .ok (.invokestatic 123, 3) := by decide +kernel
theorem dX5_kin_86 : decode cX5_kin 86 = .ok (.ifCond .eq 6, 3) := by decide +kernel
theorem dX5_kin_89 : decode cX5_kin 89 = .ok (.iinc 3 1, 3) := by decide +kernel
theorem dX5_kin_92 : decode cX5_kin 92 = .ok (.aload_n 0, 1) := by decide +kernel
theorem dX5_kin_93 : decode cX5_kin 93 = .ok (.aload_n 2, 1) := by decide +kernel
theorem dX5_kin_94 : decode cX5_kin 94 = .ok (.getfield 107, 3) := by decide +kernel
theorem dX5_kin_97 : decode cX5_kin 97 = .ok (.aload 5, 2) := by decide +kernel
theorem dX5_kin_99 : decode cX5_kin 99 = .ok (.getfield 107, 3) := by decide +kernel
theorem dX5_kin_102 : decode cX5_kin 102 = .ok (.invokevirtual 81, 3) := by decide +kernel
theorem dX5_kin_105 : decode cX5_kin 105 = .ok (.ifCond .eq 15, 3) := by decide +kernel
theorem dX5_kin_108 : decode cX5_kin 108 = .ok (.aload_n 2, 1) := by decide +kernel
theorem dX5_kin_109 : decode cX5_kin 109 = .ok (.aload 5, 2) := by decide +kernel
theorem dX5_kin_111 : decode cX5_kin 111 = .ok (.invokestatic 123, 3) := by decide +kernel
theorem dX5_kin_114 : decode cX5_kin 114 = .ok (.ifCond .eq 6, 3) := by decide +kernel
theorem dX5_kin_117 : decode cX5_kin 117 = .ok (.iinc 3 1, 3) := by decide +kernel
theorem dX5_kin_120 : decode cX5_kin 120 = .ok (.iinc 4 1, 3) := by decide +kernel
theorem dX5_kin_123 : decode cX5_kin 123 = .ok (.goto (-106), 3) := by decide +kernel
theorem dX5_kin_126 : decode cX5_kin 126 = .ok (.iload_n 3, 1) := by decide +kernel
theorem dX5_kin_127 : decode cX5_kin 127 = .ok (.ireturn, 1) := by decide +kernel
