theorem dJ9_max_7cf53_0 : decode cJ9_max_7cf53 0 = .ok (.iload_n 0, 1) := by decide +kernel
theorem dJ9_max_7cf53_1 : decode cJ9_max_7cf53 1 = .ok (.iload_n 1, 1) := by decide +kernel
theorem dJ9_max_7cf53_2 : decode cJ9_max_7cf53 2 = .ok (.if_icmp .lt 7, 3) := by decide +kernel
theorem dJ9_max_7cf53_5 : decode cJ9_max_7cf53 5 = .ok (.iload_n 0, 1) := by decide +kernel
theorem dJ9_max_7cf53_6 : decode cJ9_max_7cf53 6 = .ok (.goto 4, 3) := by decide +kernel
theorem dJ9_max_7cf53_9 : decode cJ9_max_7cf53 9 = .ok (.iload_n 1, 1) := by decide +kernel
theorem dJ9_max_7cf53_10 : decode cJ9_max_7cf53 10 = .ok (.ireturn, 1) := by decide +kernel
theorem dJ9_min_7cf53_0 : decode cJ9_min_7cf53 0 = .ok (.iload_n 0, 1) := by decide +kernel
theorem dJ9_min_7cf53_1 : decode cJ9_min_7cf53 1 = .ok (.iload_n 1, 1) := by decide +kernel
theorem dJ9_min_7cf53_2 : decode cJ9_min_7cf53 2 = .ok (.if_icmp .gt 7, 3) := by decide +kernel
theorem dJ9_min_7cf53_5 : decode cJ9_min_7cf53 5 = .ok (.iload_n 0, 1) := by decide +kernel
theorem dJ9_min_7cf53_6 : decode cJ9_min_7cf53 6 = .ok (.goto 4, 3) := by decide +kernel
theorem dJ9_min_7cf53_9 : decode cJ9_min_7cf53 9 = .ok (.iload_n 1, 1) := by decide +kernel
theorem dJ9_min_7cf53_10 : decode cJ9_min_7cf53 10 = .ok (.ireturn, 1) := by decide +kernel
theorem dJxa1e45_init_da8c8_0 : decode cJxa1e45_init_da8c8 0 = .ok (.aload_n 0, 1) := by decide +kernel
theorem dJxa1e45_init_da8c8_1 : decode cJxa1e45_init_da8c8 1 = .ok (.invokespecial 1, 3) := by decide +kernel
theorem dJxa1e45_init_da8c8_4 : decode cJxa1e45_init_da8c8 4 = .ok (.return_, 1) := by decide +kernel
set_option maxRecDepth 20000 in
theorem ggJxc12de_init_da8c8_Jxa1e45_init_da8c8 : GoodIn wsJxc12de_init_da8c8 wsJxa1e45_init_da8c8 := goodIn_r _ [5, 6, 7, 8] (by decide +kernel) (by decide +kernel)
set_option maxRecDepth 20000 in
theorem gJxc12de_init_da8c8_Jxa1e45_init_da8c8 : GoodIn wsJxc12de_init_da8c8 (wsJxa1e45_init_da8c8) := ggJxc12de_init_da8c8_Jxa1e45_init_da8c8
theorem dJxc12de_init_da8c8_0 : decode cJxc12de_init_da8c8 0 = .ok (.aload_n 0, 1) := by decide +kernel
theorem dJxc12de_init_da8c8_1 : decode cJxc12de_init_da8c8 1 = .ok (.invokespecial 1, 3) := by decide +kernel
theorem dJxc12de_init_da8c8_4 : decode cJxc12de_init_da8c8 4 = .ok (.aload_n 0, 1) := by decide +kernel
theorem dJxc12de_init_da8c8_5 : decode cJxc12de_init_da8c8 5 = .ok (.iconst 0, 1) := by decide +kernel
theorem dJxc12de_init_da8c8_6 : decode cJxc12de_init_da8c8 6 = .ok (.putfield 7, 3) := by decide +kernel
theorem dJxc12de_init_da8c8_9 : decode cJxc12de_init_da8c8 9 = .ok (.return_, 1) := by decide +kernel
set_option maxRecDepth 20000 in
theorem ggJx4a65c_init_da8c8_Jxc12de_init_da8c8 : GoodIn wsJx4a65c_init_da8c8 wsJxc12de_init_da8c8 := goodIn_r _ [6, 7, 8, 9, 10, 11, 12, 13, 14, 15, 16, 17] (by decide +kernel) (by decide +kernel)
set_option maxRecDepth 20000 in
theorem gJx4a65c_init_da8c8_Jxc12de_init_da8c8 : GoodIn wsJx4a65c_init_da8c8 (wsJxc12de_init_da8c8) := ggJx4a65c_init_da8c8_Jxc12de_init_da8c8
theorem dJx4a65c_init_da8c8_0 : decode cJx4a65c_init_da8c8 0 = .ok (.aload_n 0, 1) := by decide +kernel
theorem dJx4a65c_init_da8c8_1 : decode cJx4a65c_init_da8c8 1 = .ok (.invokespecial 1, 3) := by decide +kernel
theorem dJx4a65c_init_da8c8_4 : decode cJx4a65c_init_da8c8 4 = .ok (.aload_n 0, 1) := by decide +kernel
theorem dJx4a65c_init_da8c8_5 : decode cJx4a65c_init_da8c8 5 = .ok (.getstatic 39, 3) := by decide +kernel
theorem dJx4a65c_init_da8c8_8 : decode cJx4a65c_init_da8c8 8 = .ok (.putfield 9, 3) := by decide +kernel
theorem dJx4a65c_init_da8c8_11 : decode cJx4a65c_init_da8c8 11 = .ok (.return_, 1) := by decide +kernel
set_option maxRecDepth 20000 in
theorem ggJx4a65c_grow_92f84_J8_newLength_cabcc : GoodIn wsJx4a65c_grow_92f84 wsJ8_newLength_cabcc := goodIn_r _ [11, 12, 4, 5, 6, 13, 14, 15, 10, 16] (by decide +kernel) (by decide +kernel)
set_option maxRecDepth 20000 in
theorem gJx4a65c_grow_92f84_J8_newLength_cabcc : GoodIn wsJx4a65c_grow_92f84 (va_wsS RJx4a65c 73 yJ8_newLength_cabcc wsJ8_newLength_cabcc) := goodIn_app (goodIn_of _ (by decide +kernel)) ggJx4a65c_grow_92f84_J8_newLength_cabcc
set_option maxRecDepth 20000 in
theorem ggJx4a65c_grow_92f84_J7_copyOf_1904c : GoodIn wsJx4a65c_grow_92f84 wsJ7_copyOf_1904c := goodIn_r _ [20, 21, 22, 23, 24, 25, 26, 19, 27, 28, 29, 30, 31, 5, 32, 33, 34, 35, 36] (by decide +kernel) (by decide +kernel)
set_option maxRecDepth 20000 in
theorem gJx4a65c_grow_92f84_J7_copyOf_1904c : GoodIn wsJx4a65c_grow_92f84 (va_wsS RJx4a65c 66 yJ7_copyOf_1904c wsJ7_copyOf_1904c) := goodIn_app (goodIn_of _ (by decide +kernel)) ggJx4a65c_grow_92f84_J7_copyOf_1904c
theorem dJx4a65c_grow_92f84_0 : decode cJx4a65c_grow_92f84 0 = .ok (.aload_n 0, 1) := by decide +kernel
theorem dJx4a65c_grow_92f84_1 : decode cJx4a65c_grow_92f84 1 = .ok (.getfield 9, 3) := by decide +kernel
theorem dJx4a65c_grow_92f84_4 : decode cJx4a65c_grow_92f84 4 = .ok (.arraylength, 1) := by decide +kernel
theorem dJx4a65c_grow_92f84_5 : decode cJx4a65c_grow_92f84 5 = .ok (.istore_n 2, 1) := by decide +kernel
theorem dJx4a65c_grow_92f84_6 : decode cJx4a65c_grow_92f84 6 = .ok (.iload_n 2, 1) := by decide +kernel
theorem dJx4a65c_grow_92f84_7 : decode cJx4a65c_grow_92f84 7 = .ok (.ifCond .gt 13, 3) := by decide +kernel
theorem dJx4a65c_grow_92f84_10 : decode cJx4a65c_grow_92f84 10 = .ok (.aload_n 0, 1) := by decide +kernel
theorem dJx4a65c_grow_92f84_11 : decode cJx4a65c_grow_92f84 11 = .ok (.getfield 9, 3) := by decide +kernel
theorem dJx4a65c_grow_92f84_14 : decode cJx4a65c_grow_92f84 14 = .ok (.getstatic 39, 3) := by decide +kernel
theorem dJx4a65c_grow_92f84_17 : decode cJx4a65c_grow_92f84 17 = .ok (.if_acmp .eq 28, 3) := by decide +kernel
theorem dJx4a65c_grow_92f84_20 : decode cJx4a65c_grow_92f84 20 = .ok (.iload_n 2, 1) := by decide +kernel
theorem dJx4a65c_grow_92f84_21 : decode cJx4a65c_grow_92f84 21 = .ok (.iload_n 1, 1) := by decide +kernel
theorem dJx4a65c_grow_92f84_22 : decode cJx4a65c_grow_92f84 22 = .ok (.iload_n 2, 1) := by decide +kernel
theorem dJx4a65c_grow_92f84_23 : decode cJx4a65c_grow_92f84 23 = .ok (.isub, 1) := by decide +kernel
theorem dJx4a65c_grow_92f84_24 : decode cJx4a65c_grow_92f84 24 = .ok (.iload_n 2, 1) := by decide +kernel
theorem dJx4a65c_grow_92f84_25 : decode cJx4a65c_grow_92f84 25 = .ok (.iconst 1, 1) := by decide +kernel
theorem dJx4a65c_grow_92f84_26 : decode cJx4a65c_grow_92f84 26 = .ok (.ishr, 1) := by decide +kernel
theorem dJx4a65c_grow_92f84_27 : decode cJx4a65c_grow_92f84 27 = .ok (.invokestatic 73, 3) := by decide +kernel
theorem dJx4a65c_grow_92f84_30 : decode cJx4a65c_grow_92f84 30 = .ok (.istore_n 3, 1) := by decide +kernel
theorem dJx4a65c_grow_92f84_31 : decode cJx4a65c_grow_92f84 31 = .ok (.aload_n 0, 1) := by decide +kernel
theorem dJx4a65c_grow_92f84_32 : decode cJx4a65c_grow_92f84 32 = .ok (.aload_n 0, 1) := by decide +kernel
theorem dJx4a65c_grow_92f84_33 : decode cJx4a65c_grow_92f84 33 = .ok (.getfield 9, 3) := by decide +kernel
theorem dJx4a65c_grow_92f84_36 : decode cJx4a65c_grow_92f84 36 = .ok (.iload_n 3, 1) := by decide +kernel
theorem dJx4a65c_grow_92f84_37 : decode cJx4a65c_grow_92f84 37 = .ok (.invokestatic 66, 3) := by decide +kernel
theorem dJx4a65c_grow_92f84_40 : decode cJx4a65c_grow_92f84 40 = .ok (.dup_x1, 1) := by decide +kernel
theorem dJx4a65c_grow_92f84_41 : decode cJx4a65c_grow_92f84 41 = .ok (.putfield 9, 3) := by decide +kernel
theorem dJx4a65c_grow_92f84_44 : decode cJx4a65c_grow_92f84 44 = .ok (.areturn, 1) := by decide +kernel
theorem dJx4a65c_grow_92f84_45 : decode cJx4a65c_grow_92f84 45 = .ok (.aload_n 0, 1) := by decide +kernel
theorem dJx4a65c_grow_92f84_46 : decode cJx4a65c_grow_92f84 46 = .ok (.bipush 10, 2) := by decide +kernel
theorem dJx4a65c_grow_92f84_48 : decode cJx4a65c_grow_92f84 48 = .ok (.iload_n 1, 1) := by decide +kernel
theorem dJx4a65c_grow_92f84_49 : decode cJx4a65c_grow_92f84 49 = .ok (.invokestatic 79, 3) := by decide +kernel
theorem dJx4a65c_grow_92f84_52 : decode cJx4a65c_grow_92f84 52 = .ok (.anewarray 7, 3) := by decide +kernel
theorem dJx4a65c_grow_92f84_55 : decode cJx4a65c_grow_92f84 55 = .ok (.dup_x1, 1) := by decide +kernel
theorem dJx4a65c_grow_92f84_56 : decode cJx4a65c_grow_92f84 56 = .ok (.putfield 9, 3) := by decide +kernel
theorem dJx4a65c_grow_92f84_59 : decode cJx4a65c_grow_92f84 59 = .ok (.areturn, 1) := by decide +kernel
set_option maxRecDepth 20000 in
theorem ggJx4a65c_grow_d5877_Jx4a65c_grow_92f84 : GoodIn wsJx4a65c_grow_d5877 wsJx4a65c_grow_92f84 := goodIn_r _ [6, 7, 8, 9, 10, 11, 12, 13, 14, 15, 16, 17, 18, 19, 20, 21, 22, 23, 24, 25, 26, 27, 28, 29, 30, 31, 32, 33, 34, 35, 36, 37, 38, 39, 40, 41, 42, 43, 44, 45] (by decide +kernel) (by decide +kernel)
set_option maxRecDepth 20000 in
theorem gJx4a65c_grow_d5877_Jx4a65c_grow_92f84 : GoodIn wsJx4a65c_grow_d5877 (wsV RJx4a65c 69 RJx4a65c yJx4a65c_grow_92f84 wsJx4a65c_grow_92f84) := goodIn_app (goodIn_of _ (by decide +kernel)) ggJx4a65c_grow_d5877_Jx4a65c_grow_92f84
theorem dJx4a65c_grow_d5877_0 : decode cJx4a65c_grow_d5877 0 = .ok (.aload_n 0, 1) := by decide +kernel
theorem dJx4a65c_grow_d5877_1 : decode cJx4a65c_grow_d5877 1 = .ok (.aload_n 0, 1) := by decide +kernel
theorem dJx4a65c_grow_d5877_2 : decode cJx4a65c_grow_d5877 2 = .ok (.getfield 48, 3) := by decide +kernel
theorem dJx4a65c_grow_d5877_5 : decode cJx4a65c_grow_d5877 5 = .ok (.iconst 1, 1) := by decide +kernel
theorem dJx4a65c_grow_d5877_6 : decode cJx4a65c_grow_d5877 6 = .ok (.iadd, 1) := by decide +kernel
theorem dJx4a65c_grow_d5877_7 : decode cJx4a65c_grow_d5877 7 = .ok (.invokevirtual 69, 3) := by decide +kernel
theorem dJx4a65c_grow_d5877_10 : decode cJx4a65c_grow_d5877 10 = .ok (.areturn, 1) := by decide +kernel
theorem dJx4a65c_size_8abf5_0 : decode cJx4a65c_size_8abf5 0 = .ok (.aload_n 0, 1) := by decide +kernel
theorem dJx4a65c_size_8abf5_1 : decode cJx4a65c_size_8abf5 1 = .ok (.getfield 48, 3) := by decide +kernel
theorem dJx4a65c_size_8abf5_4 : decode cJx4a65c_size_8abf5 4 = .ok (.ireturn, 1) := by decide +kernel
theorem dJx4a65c_elementData_915e3_0 : decode cJx4a65c_elementData_915e3 0 = .ok (.aload_n 0, 1) := by decide +kernel
theorem dJx4a65c_elementData_915e3_1 : decode cJx4a65c_elementData_915e3 1 = .ok (.getfield 9, 3) := by decide +kernel
theorem dJx4a65c_elementData_915e3_4 : decode cJx4a65c_elementData_915e3 4 = .ok (.iload_n 1, 1) := by decide +kernel
theorem dJx4a65c_elementData_915e3_5 : decode cJx4a65c_elementData_915e3 5 = .ok (.aaload, 1) := by decide +kernel
theorem dJx4a65c_elementData_915e3_6 : decode cJx4a65c_elementData_915e3 6 = .ok (.areturn, 1) := by decide +kernel
set_option maxRecDepth 20000 in
theorem ggJx4a65c_get_915e3_J15_checkIndex_7cf53 : GoodIn wsJx4a65c_get_915e3 wsJ15_checkIndex_7cf53 := goodIn_r _ [5, 6, 7, 8, 9] (by decide +kernel) (by decide +kernel)
set_option maxRecDepth 20000 in
theorem gJx4a65c_get_915e3_J15_checkIndex_7cf53 : GoodIn wsJx4a65c_get_915e3 (va_wsS RJx4a65c 118 yJ15_checkIndex_7cf53 wsJ15_checkIndex_7cf53) := goodIn_app (goodIn_of _ (by decide +kernel)) ggJx4a65c_get_915e3_J15_checkIndex_7cf53
set_option maxRecDepth 20000 in
theorem ggJx4a65c_get_915e3_Jx4a65c_elementData_915e3 : GoodIn wsJx4a65c_get_915e3 wsJx4a65c_elementData_915e3 := goodIn_r _ [14, 15, 16, 17, 18] (by decide +kernel) (by decide +kernel)
set_option maxRecDepth 20000 in
theorem gJx4a65c_get_915e3_Jx4a65c_elementData_915e3 : GoodIn wsJx4a65c_get_915e3 (wsV RJx4a65c 123 RJx4a65c yJx4a65c_elementData_915e3 wsJx4a65c_elementData_915e3) := goodIn_app (goodIn_of _ (by decide +kernel)) ggJx4a65c_get_915e3_Jx4a65c_elementData_915e3
theorem dJx4a65c_get_915e3_0 : decode cJx4a65c_get_915e3 0 = .ok (.iload_n 1, 1) := by decide +kernel
theorem dJx4a65c_get_915e3_1 : decode cJx4a65c_get_915e3 1 = .ok (.aload_n 0, 1) := by decide +kernel
theorem dJx4a65c_get_915e3_2 : decode cJx4a65c_get_915e3 2 = .ok (.getfield 48, 3) := by decide +kernel
theorem dJx4a65c_get_915e3_5 : decode cJx4a65c_get_915e3 5 = .ok (.invokestatic 118, 3) := by decide +kernel
theorem dJx4a65c_get_915e3_8 : decode cJx4a65c_get_915e3 8 = .ok (.pop, 1) := by decide +kernel
theorem dJx4a65c_get_915e3_9 : decode cJx4a65c_get_915e3 9 = .ok (.aload_n 0, 1) := by decide +kernel
theorem dJx4a65c_get_915e3_10 : decode cJx4a65c_get_915e3 10 = .ok (.iload_n 1, 1) := by decide +kernel
theorem dJx4a65c_get_915e3_11 : decode cJx4a65c_get_915e3 11 = .ok (.invokevirtual 123, 3) := by decide +kernel
theorem dJx4a65c_get_915e3_14 : decode cJx4a65c_get_915e3 14 = .ok (.areturn, 1) := by decide +kernel
set_option maxRecDepth 20000 in
theorem ggJx4a65c_add_72be8_Jx4a65c_grow_d5877 : GoodIn wsJx4a65c_add_72be8 wsJx4a65c_grow_d5877 := goodIn_r _ [6, 1, 7, 8, 9, 5, 10, 11, 12, 13, 14, 15, 16, 17, 18, 19, 20, 21, 22, 23, 24, 25, 26, 27, 28, 29, 30, 31, 32, 33, 34, 35, 36, 37, 38, 39, 40, 41, 42, 43, 44, 45, 46, 47, 48, 49] (by decide +kernel) (by decide +kernel)
set_option maxRecDepth 20000 in
theorem gJx4a65c_add_72be8_Jx4a65c_grow_d5877 : GoodIn wsJx4a65c_add_72be8 (wsV RJx4a65c 129 RJx4a65c yJx4a65c_grow_d5877 wsJx4a65c_grow_d5877) := goodIn_app (goodIn_of _ (by decide +kernel)) ggJx4a65c_add_72be8_Jx4a65c_grow_d5877
theorem dJx4a65c_add_72be8_0 : decode cJx4a65c_add_72be8 0 = .ok (.iload_n 3, 1) := by decide +kernel
theorem dJx4a65c_add_72be8_1 : decode cJx4a65c_add_72be8 1 = .ok (.aload_n 2, 1) := by decide +kernel
theorem dJx4a65c_add_72be8_2 : decode cJx4a65c_add_72be8 2 = .ok (.arraylength, 1) := by decide +kernel
theorem dJx4a65c_add_72be8_3 : decode cJx4a65c_add_72be8 3 = .ok (.if_icmp .ne 8, 3) := by decide +kernel
theorem dJx4a65c_add_72be8_6 : decode cJx4a65c_add_72be8 6 = .ok (.aload_n 0, 1) := by decide +kernel
theorem dJx4a65c_add_72be8_7 : decode cJx4a65c_add_72be8 7 = .ok (.invokevirtual 129, 3) := by decide +kernel
theorem dJx4a65c_add_72be8_10 : decode cJx4a65c_add_72be8 10 = .ok (.astore_n 2, 1) := by decide +kernel
theorem dJx4a65c_add_72be8_11 : decode cJx4a65c_add_72be8 11 = .ok (.aload_n 2, 1) := by decide +kernel
theorem dJx4a65c_add_72be8_12 : decode cJx4a65c_add_72be8 12 = .ok (.iload_n 3, 1) := by decide +kernel
theorem dJx4a65c_add_72be8_13 : decode cJx4a65c_add_72be8 13 = .ok (.aload_n 1, 1) := by decide +kernel
theorem dJx4a65c_add_72be8_14 : decode cJx4a65c_add_72be8 14 = .ok (.aastore, 1) := by decide +kernel
theorem dJx4a65c_add_72be8_15 : decode cJx4a65c_add_72be8 15 = .ok (.aload_n 0, 1) := by decide +kernel
theorem dJx4a65c_add_72be8_16 : decode cJx4a65c_add_72be8 16 = .ok (.iload_n 3, 1) := by decide +kernel
theorem dJx4a65c_add_72be8_17 : decode cJx4a65c_add_72be8 17 = .ok (.iconst 1, 1) := by decide +kernel
theorem dJx4a65c_add_72be8_18 : decode cJx4a65c_add_72be8 18 = .ok (.iadd, 1) := by decide +kernel
theorem dJx4a65c_add_72be8_19 : decode cJx4a65c_add_72be8 19 = .ok (.putfield 48, 3) := by decide +kernel
theorem dJx4a65c_add_72be8_22 : decode cJx4a65c_add_72be8 22 = .ok (.return_, 1) := by decide +kernel
set_option maxRecDepth 20000 in
theorem ggJx4a65c_add_9ea2d_Jx4a65c_add_72be8 : GoodIn wsJx4a65c_add_9ea2d wsJx4a65c_add_72be8 := goodIn_r _ [9, 4, 10, 11, 12, 8, 13, 14, 15, 16, 17, 3, 18, 19, 20, 21, 22, 23, 24, 25, 26, 27, 28, 29, 30, 31, 32, 33, 34, 35, 36, 37, 38, 39, 40, 41, 42, 43, 44, 45, 46, 47, 48, 49, 50, 51, 52, 53, 54, 55] (by decide +kernel) (by decide +kernel)
set_option maxRecDepth 20000 in
theorem gJx4a65c_add_9ea2d_Jx4a65c_add_72be8 : GoodIn wsJx4a65c_add_9ea2d (wsV RJx4a65c 131 RJx4a65c yJx4a65c_add_72be8 wsJx4a65c_add_72be8) := goodIn_app (goodIn_of _ (by decide +kernel)) ggJx4a65c_add_9ea2d_Jx4a65c_add_72be8
theorem dJx4a65c_add_9ea2d_0 : decode cJx4a65c_add_9ea2d 0 = .ok (.aload_n 0, 1) := by decide +kernel
theorem dJx4a65c_add_9ea2d_1 : decode cJx4a65c_add_9ea2d 1 = .ok (.dup, 1) := by decide +kernel
theorem dJx4a65c_add_9ea2d_2 : decode cJx4a65c_add_9ea2d 2 = .ok (.getfield 63, 3) := by decide +kernel
theorem dJx4a65c_add_9ea2d_5 : decode cJx4a65c_add_9ea2d 5 = .ok (.iconst 1, 1) := by decide +kernel
theorem dJx4a65c_add_9ea2d_6 : decode cJx4a65c_add_9ea2d 6 = .ok (.iadd, 1) := by decide +kernel
theorem dJx4a65c_add_9ea2d_7 : decode cJx4a65c_add_9ea2d 7 = .ok (.putfield 63, 3) := by decide +kernel
theorem dJx4a65c_add_9ea2d_10 : decode cJx4a65c_add_9ea2d 10 = .ok (.aload_n 0, 1) := by decide +kernel
theorem dJx4a65c_add_9ea2d_11 : decode cJx4a65c_add_9ea2d 11 = .ok (.aload_n 1, 1) := by decide +kernel
theorem dJx4a65c_add_9ea2d_12 : decode cJx4a65c_add_9ea2d 12 = .ok (.aload_n 0, 1) := by decide +kernel
theorem dJx4a65c_add_9ea2d_13 : decode cJx4a65c_add_9ea2d 13 = .ok (.getfield 9, 3) := by decide +kernel
theorem dJx4a65c_add_9ea2d_16 : decode cJx4a65c_add_9ea2d 16 = .ok (.aload_n 0, 1) := by decide +kernel
theorem dJx4a65c_add_9ea2d_17 : decode cJx4a65c_add_9ea2d 17 = .ok (.getfield 48, 3) := by decide +kernel
theorem dJx4a65c_add_9ea2d_20 : decode cJx4a65c_add_9ea2d 20 = .ok (.invokevirtual 131, 3) := by decide +kernel
theorem dJx4a65c_add_9ea2d_23 : decode cJx4a65c_add_9ea2d 23 = .ok (.iconst 1, 1) := by decide +kernel
theorem dJx4a65c_add_9ea2d_24 : decode cJx4a65c_add_9ea2d 24 = .ok (.ireturn, 1) := by decide +kernel
set_option maxRecDepth 20000 in
theorem ggJ7_copyOf_1904c_J7_copyOf_6403c : GoodIn wsJ7_copyOf_1904c wsJ7_copyOf_6403c := goodIn_r _ [8, 9, 10, 11, 12, 13, 14, 15, 16, 17, 18] (by decide +kernel) (by decide +kernel)
set_option maxRecDepth 20000 in
theorem gJ7_copyOf_1904c_J7_copyOf_6403c : GoodIn wsJ7_copyOf_1904c (va_wsS RJ7 300 yJ7_copyOf_6403c wsJ7_copyOf_6403c) := goodIn_app (goodIn_of _ (by decide +kernel)) ggJ7_copyOf_1904c_J7_copyOf_6403c
theorem dJ7_copyOf_1904c_0 : decode cJ7_copyOf_1904c 0 = .ok (.aload_n 0, 1) := by decide +kernel
theorem dJ7_copyOf_1904c_1 : decode cJ7_copyOf_1904c 1 = .ok (.iload_n 1, 1) := by decide +kernel
theorem dJ7_copyOf_1904c_2 : decode cJ7_copyOf_1904c 2 = .ok (.aload_n 0, 1) := by decide +kernel
theorem dJ7_copyOf_1904c_3 : decode cJ7_copyOf_1904c 3 = .ok (.invokevirtual 86, 3) := by decide +kernel
theorem dJ7_copyOf_1904c_6 : decode cJ7_copyOf_1904c 6 = .ok (.invokestatic 300, 3) := by decide +kernel
theorem dJ7_copyOf_1904c_9 : decode cJ7_copyOf_1904c 9 = .ok (.areturn, 1) := by decide +kernel
theorem dJ7_copyOf_6403c_0 : decode cJ7_copyOf_6403c 0 = .ok (.aload_n 2, 1) := by decide +kernel
theorem dJ7_copyOf_6403c_1 : decode cJ7_copyOf_6403c 1 = .ok (.ldc 110, 2) := by decide +kernel
theorem dJ7_copyOf_6403c_3 : decode cJ7_copyOf_6403c 3 = .ok (.if_acmp .ne 10, 3) := by decide +kernel
theorem dJ7_copyOf_6403c_6 : decode cJ7_copyOf_6403c 6 = .ok (.iload_n 1, 1) := by decide +kernel
theorem dJ7_copyOf_6403c_7 : decode cJ7_copyOf_6403c 7 = .ok (.anewarray 2, 3) := by decide +kernel
theorem dJ7_copyOf_6403c_10 : decode cJ7_copyOf_6403c 10 = .ok (.goto 14, 3) := by decide +kernel
theorem dJ7_copyOf_6403c_13 : decode cJ7_copyOf_6403c 13 = .ok (.aload_n 2, 1) := by decide +kernel
theorem dJ7_copyOf_6403c_14 : decode cJ7_copyOf_6403c 14 = .ok (.invokevirtual 90, 3) := by decide +kernel
theorem dJ7_copyOf_6403c_17 : decode cJ7_copyOf_6403c 17 = .ok (.iload_n 1, 1) := by decide +kernel
theorem dJ7_copyOf_6403c_18 : decode cJ7_copyOf_6403c 18 = .ok (.invokestatic 95, 3) := by decide +kernel
theorem dJ7_copyOf_6403c_21 : decode cJ7_copyOf_6403c 21 = .ok (.checkcast 110, 3) := by decide +kernel
theorem dJ7_copyOf_6403c_24 : decode cJ7_copyOf_6403c 24 = .ok (.astore_n 3, 1) := by decide +kernel
theorem dJ7_copyOf_6403c_25 : decode cJ7_copyOf_6403c 25 = .ok (.aload_n 0, 1) := by decide +kernel
theorem dJ7_copyOf_6403c_26 : decode cJ7_copyOf_6403c 26 = .ok (.iconst 0, 1) := by decide +kernel
theorem dJ7_copyOf_6403c_27 : decode cJ7_copyOf_6403c 27 = .ok (.aload_n 3, 1) := by decide +kernel
theorem dJ7_copyOf_6403c_28 : decode cJ7_copyOf_6403c 28 = .ok (.iconst 0, 1) := by decide +kernel
theorem dJ7_copyOf_6403c_29 : decode cJ7_copyOf_6403c 29 = .ok (.aload_n 0, 1) := by decide +kernel
theorem dJ7_copyOf_6403c_30 : decode cJ7_copyOf_6403c 30 = .ok (.arraylength, 1) := by decide +kernel
theorem dJ7_copyOf_6403c_31 : decode cJ7_copyOf_6403c 31 = .ok (.iload_n 1, 1) := by decide +kernel
theorem dJ7_copyOf_6403c_32 : decode cJ7_copyOf_6403c 32 = .ok (.invokestatic 304, 3) := by decide +kernel
theorem dJ7_copyOf_6403c_35 : decode cJ7_copyOf_6403c 35 = .ok (.invokestatic 150, 3) := by decide +kernel
theorem dJ7_copyOf_6403c_38 : decode cJ7_copyOf_6403c 38 = .ok (.aload_n 3, 1) := by decide +kernel
theorem dJ7_copyOf_6403c_39 : decode cJ7_copyOf_6403c 39 = .ok (.areturn, 1) := by decide +kernel
set_option maxRecDepth 20000 in
theorem ggJ15_checkIndex_7cf53_J3_checkIndex_8e157 : GoodIn wsJ15_checkIndex_7cf53 wsJ3_checkIndex_8e157 := goodIn_r _ [4] (by decide +kernel) (by decide +kernel)
set_option maxRecDepth 20000 in
theorem gJ15_checkIndex_7cf53_J3_checkIndex_8e157 : GoodIn wsJ15_checkIndex_7cf53 (va_wsS RJ15 105 yJ3_checkIndex_8e157 wsJ3_checkIndex_8e157) := goodIn_app (goodIn_of _ (by decide +kernel)) ggJ15_checkIndex_7cf53_J3_checkIndex_8e157
theorem dJ15_checkIndex_7cf53_0 : decode cJ15_checkIndex_7cf53 0 = .ok (.iload_n 0, 1) := by decide +kernel
theorem dJ15_checkIndex_7cf53_1 : decode cJ15_checkIndex_7cf53 1 = .ok (.iload_n 1, 1) := by decide +kernel
theorem dJ15_checkIndex_7cf53_2 : decode cJ15_checkIndex_7cf53 2 = .ok (.aconst_null, 1) := by decide +kernel
theorem dJ15_checkIndex_7cf53_3 : decode cJ15_checkIndex_7cf53 3 = .ok (.invokestatic 105, 3) := by decide +kernel
theorem dJ15_checkIndex_7cf53_6 : decode cJ15_checkIndex_7cf53 6 = .ok (.ireturn, 1) := by decide +kernel
set_option maxRecDepth 20000 in
theorem ggJ8_newLength_cabcc_J8_hugeLength_7cf53 : GoodIn wsJ8_newLength_cabcc wsJ8_hugeLength_7cf53 := goodIn_r _ [9, 5] (by decide +kernel) (by decide +kernel)
set_option maxRecDepth 20000 in
theorem gJ8_newLength_cabcc_J8_hugeLength_7cf53 : GoodIn wsJ8_newLength_cabcc (va_wsS RJ8 201 yJ8_hugeLength_7cf53 wsJ8_hugeLength_7cf53) := goodIn_app (goodIn_of _ (by decide +kernel)) ggJ8_newLength_cabcc_J8_hugeLength_7cf53
theorem dJ8_newLength_cabcc_0 : decode cJ8_newLength_cabcc 0 = .ok (.iload_n 0, 1) := by decide +kernel
theorem dJ8_newLength_cabcc_1 : decode cJ8_newLength_cabcc 1 = .ok (.iload_n 1, 1) := by decide +kernel
theorem dJ8_newLength_cabcc_2 : decode cJ8_newLength_cabcc 2 = .ok (.iload_n 2, 1) := by decide +kernel
theorem dJ8_newLength_cabcc_3 : decode cJ8_newLength_cabcc 3 = .ok (.invokestatic 194, 3) := by decide +kernel
theorem dJ8_newLength_cabcc_6 : decode cJ8_newLength_cabcc 6 = .ok (.iadd, 1) := by decide +kernel
theorem dJ8_newLength_cabcc_7 : decode cJ8_newLength_cabcc 7 = .ok (.istore_n 3, 1) := by decide +kernel
theorem dJ8_newLength_cabcc_8 : decode cJ8_newLength_cabcc 8 = .ok (.iconst 0, 1) := by decide +kernel
theorem dJ8_newLength_cabcc_9 : decode cJ8_newLength_cabcc 9 = .ok (.iload_n 3, 1) := by decide +kernel
theorem dJ8_newLength_cabcc_10 : decode cJ8_newLength_cabcc 10 = .ok (.if_icmp .ge 11, 3) := by decide +kernel
theorem dJ8_newLength_cabcc_13 : decode cJ8_newLength_cabcc 13 = .ok (.iload_n 3, 1) := by decide +kernel
theorem dJ8_newLength_cabcc_14 : decode cJ8_newLength_cabcc 14 = .ok (.ldc 200, 2) := by decide +kernel
theorem dJ8_newLength_cabcc_16 : decode cJ8_newLength_cabcc 16 = .ok (.if_icmp .gt 5, 3) := by decide +kernel
theorem dJ8_newLength_cabcc_19 : decode cJ8_newLength_cabcc 19 = .ok (.iload_n 3, 1) := by decide +kernel
theorem dJ8_newLength_cabcc_20 : decode cJ8_newLength_cabcc 20 = .ok (.ireturn, 1) := by decide +kernel
theorem dJ8_newLength_cabcc_21 : decode cJ8_newLength_cabcc 21 = .ok (.iload_n 0, 1) := by decide +kernel
theorem dJ8_newLength_cabcc_22 : decode cJ8_newLength_cabcc 22 = .ok (.iload_n 1, 1) := by decide +kernel
theorem dJ8_newLength_cabcc_23 : decode cJ8_newLength_cabcc 23 = .ok (.invokestatic 201, 3) := by decide +kernel
theorem dJ8_newLength_cabcc_26 : decode cJ8_newLength_cabcc 26 = .ok (.ireturn, 1) := by decide +kernel
theorem dJ8_hugeLength_7cf53_0 : decode cJ8_hugeLength_7cf53 0 = .ok (.iload_n 0, 1) := by decide +kernel
theorem dJ8_hugeLength_7cf53_1 : decode cJ8_hugeLength_7cf53 1 = .ok (.iload_n 1, 1) := by decide +kernel
theorem dJ8_hugeLength_7cf53_2 : decode cJ8_hugeLength_7cf53 2 = .ok (.iadd, 1) := by decide +kernel
theorem dJ8_hugeLength_7cf53_3 : decode cJ8_hugeLength_7cf53 3 = .ok (.istore_n 2, 1) := by decide +kernel
theorem dJ8_hugeLength_7cf53_4 : decode cJ8_hugeLength_7cf53 4 = .ok (.iload_n 2, 1) := by decide +kernel
theorem dJ8_hugeLength_7cf53_5 : decode cJ8_hugeLength_7cf53 5 = .ok (.ifCond .ge 44, 3) := by decide +kernel
theorem dJ8_hugeLength_7cf53_8 : decode cJ8_hugeLength_7cf53 8 = .ok (.new 204, 3) := by decide +kernel
theorem dJ8_hugeLength_7cf53_11 : decode cJ8_hugeLength_7cf53 11 = .ok (.dup, 1) := by decide +kernel
theorem dJ8_hugeLength_7cf53_12 : decode cJ8_hugeLength_7cf53 12 = .ok (.new 89, 3) := by decide +kernel
theorem dJ8_hugeLength_7cf53_15 : decode cJ8_hugeLength_7cf53 15 = .ok (.dup, 1) := by decide +kernel
theorem dJ8_hugeLength_7cf53_16 : decode cJ8_hugeLength_7cf53 16 = .ok (.invokespecial 91, 3) := by decide +kernel
theorem dJ8_hugeLength_7cf53_19 : decode cJ8_hugeLength_7cf53 19 = .ok (.ldc 206, 2) := by decide +kernel
theorem dJ8_hugeLength_7cf53_21 : decode cJ8_hugeLength_7cf53 21 = .ok (.invokevirtual 94, 3) := by decide +kernel
theorem dJ8_hugeLength_7cf53_24 : decode cJ8_hugeLength_7cf53 24 = .ok (.iload_n 0, 1) := by decide +kernel
theorem dJ8_hugeLength_7cf53_25 : decode cJ8_hugeLength_7cf53 25 = .ok (.invokevirtual 98, 3) := by decide +kernel
theorem dJ8_hugeLength_7cf53_28 : decode cJ8_hugeLength_7cf53 28 = .ok (.ldc 208, 2) := by decide +kernel
theorem dJ8_hugeLength_7cf53_30 : decode cJ8_hugeLength_7cf53 30 = .ok (.invokevirtual 94, 3) := by decide +kernel
theorem dJ8_hugeLength_7cf53_33 : decode cJ8_hugeLength_7cf53 33 = .ok (.iload_n 1, 1) := by decide +kernel
theorem dJ8_hugeLength_7cf53_34 : decode cJ8_hugeLength_7cf53 34 = .ok (.invokevirtual 98, 3) := by decide +kernel
theorem dJ8_hugeLength_7cf53_37 : decode cJ8_hugeLength_7cf53 37 = .ok (.ldc 210, 2) := by decide +kernel
theorem dJ8_hugeLength_7cf53_39 : decode cJ8_hugeLength_7cf53 39 = .ok (.invokevirtual 94, 3) := by decide +kernel
theorem dJ8_hugeLength_7cf53_42 : decode cJ8_hugeLength_7cf53 42 = .ok (.invokevirtual 101, 3) := by decide +kernel
theorem dJ8_hugeLength_7cf53_45 : decode cJ8_hugeLength_7cf53 45 = .ok (.invokespecial 212, 3) := by decide +kernel
theorem dJ8_hugeLength_7cf53_48 : decode cJ8_hugeLength_7cf53 48 = .ok (.athrow, 1) := by decide +kernel
theorem dJ8_hugeLength_7cf53_49 : decode cJ8_hugeLength_7cf53 49 = .ok (.iload_n 2, 1) := by decide +kernel
theorem dJ8_hugeLength_7cf53_50 : decode cJ8_hugeLength_7cf53 50 = .ok (.ldc 200, 2) := by decide +kernel
theorem dJ8_hugeLength_7cf53_52 : decode cJ8_hugeLength_7cf53 52 = .ok (.if_icmp .gt 6, 3) := by decide +kernel
theorem dJ8_hugeLength_7cf53_55 : decode cJ8_hugeLength_7cf53 55 = .ok (.ldc 200, 2) := by decide +kernel
theorem dJ8_hugeLength_7cf53_57 : decode cJ8_hugeLength_7cf53 57 = .ok (.ireturn, 1) := by decide +kernel
theorem dJ8_hugeLength_7cf53_58 : decode cJ8_hugeLength_7cf53 58 = .ok (.iload_n 2, 1) := by decide +kernel
theorem dJ8_hugeLength_7cf53_59 : decode cJ8_hugeLength_7cf53 59 = .ok (.ireturn, 1) := by decide +kernel
theorem dJ3_checkIndex_8e157_0 : decode cJ3_checkIndex_8e157 0 = .ok (.iload_n 0, 1) := by decide +kernel
theorem dJ3_checkIndex_8e157_1 : decode cJ3_checkIndex_8e157 1 = .ok (.ifCond .lt 8, 3) := by decide +kernel
theorem dJ3_checkIndex_8e157_4 : decode cJ3_checkIndex_8e157 4 = .ok (.iload_n 0, 1) := by decide +kernel
theorem dJ3_checkIndex_8e157_5 : decode cJ3_checkIndex_8e157 5 = .ok (.iload_n 1, 1) := by decide +kernel
theorem dJ3_checkIndex_8e157_6 : decode cJ3_checkIndex_8e157 6 = .ok (.if_icmp .lt 10, 3) := by decide +kernel
theorem dJ3_checkIndex_8e157_9 : decode cJ3_checkIndex_8e157 9 = .ok (.aload_n 2, 1) := by decide +kernel
theorem dJ3_checkIndex_8e157_10 : decode cJ3_checkIndex_8e157 10 = .ok (.iload_n 0, 1) := by decide +kernel
theorem dJ3_checkIndex_8e157_11 : decode cJ3_checkIndex_8e157 11 = .ok (.iload_n 1, 1) := by decide +kernel
theorem dJ3_checkIndex_8e157_12 : decode cJ3_checkIndex_8e157 12 = .ok (.invokestatic 95, 3) := by decide +kernel
theorem dJ3_checkIndex_8e157_15 : decode cJ3_checkIndex_8e157 15 = .ok (.athrow, 1) := by decide +kernel
theorem dJ3_checkIndex_8e157_16 : decode cJ3_checkIndex_8e157 16 = .ok (.iload_n 0, 1) := by decide +kernel
theorem dJ3_checkIndex_8e157_17 : decode cJ3_checkIndex_8e157 17 = .ok (.ireturn, 1) := by decide +kernel
theorem dL_draw_0 : decode cL_draw 0 = .ok (.iload_n 1, 1) := by decide +kernel
theorem dL_draw_1 : decode cL_draw 1 = .ok (.aload_n 0, 1) := by decide +kernel
theorem dL_draw_2 : decode cL_draw 2 = .ok (.arraylength, 1) := by decide +kernel
theorem dL_draw_3 : decode cL_draw 3 = .ok (.if_icmp .ge 9, 3) := by decide +kernel
theorem dL_draw_6 : decode cL_draw 6 = .ok (.aload_n 0, 1) := by decide +kernel
theorem dL_draw_7 : decode cL_draw 7 = .ok (.iload_n 1, 1) := by decide +kernel
theorem dL_draw_8 : decode cL_draw 8 = .ok (.iaload, 1) := by decide +kernel
theorem dL_draw_9 : decode cL_draw 9 = .ok (.goto 14, 3) := by decide +kernel
theorem dL_draw_12 : decode cL_draw 12 = .ok (.ldc 7, 2) := by decide +kernel
theorem dL_draw_14 : decode cL_draw 14 = .ok (.iload_n 1, 1) := by decide +kernel
theorem dL_draw_15 : decode cL_draw 15 = .ok (.sipush 181, 3) := by decide +kernel
theorem dL_draw_18 : decode cL_draw 18 = .ok (.iadd, 1) := by decide +kernel
theorem dL_draw_19 : decode cL_draw 19 = .ok (.imul, 1) := by decide +kernel
theorem dL_draw_20 : decode cL_draw 20 = .ok (.ldc 8, 2) := by decide +kernel
theorem dL_draw_22 : decode cL_draw 22 = .ok (.iadd, 1) := by decide +kernel
theorem dL_draw_23 : decode cL_draw 23 = .ok (.istore_n 3, 1) := by decide +kernel
theorem dL_draw_24 : decode cL_draw 24 = .ok (.iload_n 3, 1) := by decide +kernel
theorem dL_draw_25 : decode cL_draw 25 = .ok (.ldc 9, 2) := by decide +kernel
theorem dL_draw_27 : decode cL_draw 27 = .ok (.iand, 1) := by decide +kernel
theorem dL_draw_28 : decode cL_draw 28 = .ok (.iload_n 2, 1) := by decide +kernel
theorem dL_draw_29 : decode cL_draw 29 = .ok (.irem, 1) := by decide +kernel
theorem dL_draw_30 : decode cL_draw 30 = .ok (.ireturn, 1) := by decide +kernel
theorem dL_part_0 : decode cL_part 0 = .ok (.lload_n 0, 1) := by decide +kernel
theorem dL_part_1 : decode cL_part 1 = .ok (.iload_n 2, 1) := by decide +kernel
theorem dL_part_2 : decode cL_part 2 = .ok (.lshr, 1) := by decide +kernel
theorem dL_part_3 : decode cL_part 3 = .ok (.lconst 1, 1) := by decide +kernel
theorem dL_part_4 : decode cL_part 4 = .ok (.iload_n 3, 1) := by decide +kernel
theorem dL_part_5 : decode cL_part 5 = .ok (.lshl, 1) := by decide +kernel
theorem dL_part_6 : decode cL_part 6 = .ok (.lconst 1, 1) := by decide +kernel
theorem dL_part_7 : decode cL_part 7 = .ok (.lsub, 1) := by decide +kernel
theorem dL_part_8 : decode cL_part 8 = .ok (.land, 1) := by decide +kernel
theorem dL_part_9 : decode cL_part 9 = .ok (.l2i, 1) := by decide +kernel
theorem dL_part_10 : decode cL_part 10 = .ok (.ireturn, 1) := by decide +kernel
theorem dL_with_0 : decode cL_with 0 = .ok (.lload_n 0, 1) := by decide +kernel
theorem dL_with_1 : decode cL_with 1 = .ok (.lconst 1, 1) := by decide +kernel
theorem dL_with_2 : decode cL_with 2 = .ok (.iload_n 3, 1) := by decide +kernel
theorem dL_with_3 : decode cL_with 3 = .ok (.lshl, 1) := by decide +kernel
theorem dL_with_4 : decode cL_with 4 = .ok (.lconst 1, 1) := by decide +kernel
theorem dL_with_5 : decode cL_with 5 = .ok (.lsub, 1) := by decide +kernel
theorem dL_with_6 : decode cL_with 6 = .ok (.iload_n 2, 1) := by decide +kernel
theorem dL_with_7 : decode cL_with 7 = .ok (.lshl, 1) := by decide +kernel
theorem dL_with_8 : decode cL_with 8 = .ok (.ldc2_w 10, 3) := by decide +kernel
theorem dL_with_11 : decode cL_with 11 = .ok (.lxor, 1) := by decide +kernel
theorem dL_with_12 : decode cL_with 12 = .ok (.land, 1) := by decide +kernel
theorem dL_with_13 : decode cL_with 13 = .ok (.iload 4, 2) := by decide +kernel
theorem dL_with_15 : decode cL_with 15 = .ok (.i2l, 1) := by decide +kernel
theorem dL_with_16 : decode cL_with 16 = .ok (.iload_n 2, 1) := by decide +kernel
theorem dL_with_17 : decode cL_with 17 = .ok (.lshl, 1) := by decide +kernel
theorem dL_with_18 : decode cL_with 18 = .ok (.lor, 1) := by decide +kernel
theorem dL_with_19 : decode cL_with 19 = .ok (.lreturn, 1) := by decide +kernel
set_option maxRecDepth 20000 in
theorem ggL_asks_X4_refund : GoodIn wsL_asks wsX4_refund := goodIn_ca (goodIn_ca (goodIn_r _ [6, 7, 8, 9, 5, 10, 11, 12, 13, 14, 15, 16, 17, 18, 19, 20, 21, 22, 23, 24, 25, 26, 27, 28, 29, 30, 31, 32, 33, 34, 35, 36, 37, 38, 39, 40, 41, 42, 43, 44, 45, 46, 47, 48, 49, 50, 51, 52, 53, 54, 55, 56, 57, 58, 59, 60, 61, 62, 63, 64, 65, 66, 67, 68, 69, 70, 71, 72, 73, 74, 75, 76, 77, 78, 79, 80, 81, 82, 83, 84, 85, 86, 87, 88, 89, 90, 91, 92, 93, 94, 95, 96, 97, 98, 99, 100, 101, 102, 103, 258, 259, 260, 261, 262, 263, 264, 265, 266, 267, 268, 269, 270, 271, 272, 273, 274, 275, 276, 277, 278, 279, 280, 281] (by decide +kernel) (by decide +kernel)) (goodIn_sub (fun _ h => List.mem_cons_of_mem _ (List.mem_append_left _ (List.mem_append_left _ (List.mem_append_right _ h)))) (by decide +kernel))) (goodIn_sub (fun _ h => List.mem_cons_of_mem _ (List.mem_append_left _ (List.mem_append_right _ h))) (by decide +kernel))
set_option maxRecDepth 20000 in
theorem gL_asks_X4_refund : GoodIn wsL_asks (wsV RL 12 RX4 yX4_refund wsX4_refund) := goodIn_app (goodIn_of _ (by decide +kernel)) ggL_asks_X4_refund
set_option maxRecDepth 20000 in
theorem ggL_asks_X4_claim : GoodIn wsL_asks wsX4_claim := goodIn_ca (goodIn_ca (goodIn_r _ [107, 11, 12, 13, 7, 8, 9, 5, 10, 14, 15, 16, 17, 18, 19, 20, 21, 22, 23, 24, 25, 26, 27, 28, 29, 30, 31, 32, 33, 34, 35, 36, 37, 38, 39, 40, 41, 42, 43, 44, 45, 46, 47, 48, 49, 50, 51, 52, 53, 54, 55, 56, 57, 58, 59, 60, 61, 108, 109, 110, 111, 66, 67, 68, 69, 70, 71, 75, 76, 77, 78, 79, 80, 81, 82, 83, 84, 85, 86, 87, 88, 89, 90, 91, 92, 93, 94, 95, 96, 97, 98, 99, 100, 101, 102, 103, 261, 262, 263, 264, 265, 266, 258, 259, 260, 267, 268, 269, 270, 271, 272, 273, 274, 275, 276, 277, 278, 279, 280, 281] (by decide +kernel) (by decide +kernel)) (goodIn_sub (fun _ h => List.mem_cons_of_mem _ (List.mem_append_left _ (List.mem_append_left _ (List.mem_append_right _ h)))) (by decide +kernel))) (goodIn_sub (fun _ h => List.mem_cons_of_mem _ (List.mem_append_left _ (List.mem_append_right _ h))) (by decide +kernel))
set_option maxRecDepth 20000 in
theorem gL_asks_X4_claim : GoodIn wsL_asks (wsV RL 18 RX4 yX4_claim wsX4_claim) := goodIn_app (goodIn_of _ (by decide +kernel)) ggL_asks_X4_claim
set_option maxRecDepth 20000 in
theorem ggL_asks_X4_setShares : GoodIn wsL_asks wsX4_setShares := goodIn_ca (goodIn_ca (goodIn_ca (goodIn_r _ [115, 116, 117, 11, 12, 118, 108, 109, 110, 5, 111, 18, 19, 56, 66, 52, 53, 54, 55, 26, 27, 28, 29, 30, 31, 32, 33, 34, 35, 36, 37, 38, 39, 40, 41, 42, 43, 44, 45, 46, 47, 48, 49, 50, 51, 119, 120, 121, 122, 270, 271, 272, 273, 274, 275, 261, 262, 263, 264, 265, 266, 267, 268, 269] (by decide +kernel) (by decide +kernel)) (goodIn_sub (fun _ h => List.mem_cons_of_mem _ (List.mem_append_right _ h)) (by decide +kernel))) (goodIn_sub (fun _ h => List.mem_cons_of_mem _ (List.mem_append_left _ (List.mem_append_left _ (List.mem_append_right _ h)))) (by decide +kernel))) (goodIn_sub (fun _ h => List.mem_cons_of_mem _ (List.mem_append_left _ (List.mem_append_right _ h))) (by decide +kernel))
set_option maxRecDepth 20000 in
theorem gL_asks_X4_setShares : GoodIn wsL_asks (wsV RL 21 RX4 yX4_setShares wsX4_setShares) := goodIn_app (goodIn_of _ (by decide +kernel)) ggL_asks_X4_setShares
set_option maxRecDepth 20000 in
theorem ggL_asks_X4_pay : GoodIn wsL_asks wsX4_pay := goodIn_ca (goodIn_ca (goodIn_r _ [126, 116, 117, 11, 12, 24, 127, 128, 58, 13, 56, 66, 32, 33, 5, 34, 26, 27, 28, 29, 30, 31, 119, 120, 121, 122, 35, 36, 37, 38, 39, 40, 41, 42, 43, 44, 45, 46, 47, 48, 49, 50, 51, 62, 63, 64, 65, 67, 68, 69, 70, 71, 72, 73, 74, 129, 130, 131, 132, 133, 134, 61, 135, 136, 137, 138, 139, 140, 141, 142, 76, 143, 144, 84, 145, 146, 147, 148, 149, 79, 99, 150, 151, 152, 153, 154, 155, 156, 157, 158, 159, 160, 161, 162, 163, 164, 165, 166, 167, 168, 169, 170, 171, 172, 173, 174, 175, 176, 89, 88, 87, 177, 178, 179, 180, 181, 182, 183, 184, 185, 186, 187, 188, 189, 190, 191, 192, 193, 194, 195, 196, 197, 198, 101, 102, 103, 199, 200, 201, 202, 203, 204, 205, 206, 207, 208, 209, 210, 211, 212, 213, 214, 215, 216, 217, 218, 219, 220, 221, 222, 223, 224, 225, 226, 227, 228, 229, 230, 231, 232, 233, 234, 235, 236, 237, 238, 239, 240, 241, 242, 243, 244, 245, 246, 247, 248, 249, 250, 251, 252, 253, 254, 255, 256, 75, 77, 78, 80, 81, 82, 83, 85, 86, 90, 257, 261, 262, 263, 264, 265, 266, 258, 259, 260, 270, 271, 272, 273, 274, 275, 267, 268, 269, 276, 277, 278, 279, 280, 281] (by decide +kernel) (by decide +kernel)) (goodIn_sub (fun _ h => List.mem_cons_of_mem _ (List.mem_append_right _ h)) (by decide +kernel))) (goodIn_sub (fun _ h => List.mem_cons_of_mem _ (List.mem_append_left _ (List.mem_append_left _ (List.mem_append_right _ h)))) (by decide +kernel))
set_option maxRecDepth 20000 in
theorem gL_asks_X4_pay : GoodIn wsL_asks (wsV RL 24 RX4 yX4_pay wsX4_pay) := goodIn_app (goodIn_of _ (by decide +kernel)) ggL_asks_X4_pay
theorem dL_asks_0 : decode cL_asks 0 = .ok (.iload_n 1, 1) := by decide +kernel
theorem dL_asks_1 : decode cL_asks 1 = .ok (.ifCond .ne 12, 3) := by decide +kernel
theorem dL_asks_4 : decode cL_asks 4 = .ok (.aload_n 0, 1) := by decide +kernel
theorem dL_asks_5 : decode cL_asks 5 = .ok (.iload_n 2, 1) := by decide +kernel
theorem dL_asks_6 : decode cL_asks 6 = .ok (.iload_n 3, 1) := by decide +kernel
theorem dL_asks_7 : decode cL_asks 7 = .ok (.invokevirtual 12, 3) := by decide +kernel
theorem dL_asks_10 : decode cL_asks 10 = .ok (.goto 36, 3) := by decide +kernel
theorem dL_asks_13 : decode cL_asks 13 = .ok (.iload_n 1, 1) := by decide +kernel
theorem dL_asks_14 : decode cL_asks 14 = .ok (.iconst 1, 1) := by decide +kernel
theorem dL_asks_15 : decode cL_asks 15 = .ok (.if_icmp .ne 12, 3) := by decide +kernel
theorem dL_asks_18 : decode cL_asks 18 = .ok (.aload_n 0, 1) := by decide +kernel
theorem dL_asks_19 : decode cL_asks 19 = .ok (.iload_n 2, 1) := by decide +kernel
theorem dL_asks_20 : decode cL_asks 20 = .ok (.iload_n 3, 1) := by decide +kernel
theorem dL_asks_21 : decode cL_asks 21 = .ok (.invokevirtual 18, 3) := by decide +kernel
theorem dL_asks_24 : decode cL_asks 24 = .ok (.goto 22, 3) := by decide +kernel
theorem dL_asks_27 : decode cL_asks 27 = .ok (.iload_n 1, 1) := by decide +kernel
theorem dL_asks_28 : decode cL_asks 28 = .ok (.iconst 2, 1) := by decide +kernel
theorem dL_asks_29 : decode cL_asks 29 = .ok (.if_icmp .ne 12, 3) := by decide +kernel
theorem dL_asks_32 : decode cL_asks 32 = .ok (.aload_n 0, 1) := by decide +kernel
theorem dL_asks_33 : decode cL_asks 33 = .ok (.iload_n 2, 1) := by decide +kernel
theorem dL_asks_34 : decode cL_asks 34 = .ok (.iload_n 3, 1) := by decide +kernel
theorem dL_asks_35 : decode cL_asks 35 = .ok (.invokevirtual 21, 3) := by decide +kernel
theorem dL_asks_38 : decode cL_asks 38 = .ok (.goto 8, 3) := by decide +kernel
theorem dL_asks_41 : decode cL_asks 41 = .ok (.aload_n 0, 1) := by decide +kernel
theorem dL_asks_42 : decode cL_asks 42 = .ok (.iload_n 2, 1) := by decide +kernel
theorem dL_asks_43 : decode cL_asks 43 = .ok (.invokevirtual 24, 3) := by decide +kernel
theorem dL_asks_46 : decode cL_asks 46 = .ok (.ireturn, 1) := by decide +kernel
theorem dL_asks_47 : decode cL_asks 47 = .ok (.astore 4, 2) := by decide +kernel
theorem dL_asks_49 : decode cL_asks 49 = .ok (.bipush (-8), 2) := by decide +kernel
theorem dL_asks_51 : decode cL_asks 51 = .ok (.ireturn, 1) := by decide +kernel
set_option maxRecDepth 20000 in
theorem ggL_isLarge_L_part : GoodIn wsL_isLarge wsL_part := goodIn_r _ [5] (by decide +kernel) (by decide +kernel)
set_option maxRecDepth 20000 in
theorem gL_isLarge_L_part : GoodIn wsL_isLarge (va_wsS RL 30 yL_part wsL_part) := goodIn_app (goodIn_of _ (by decide +kernel)) ggL_isLarge_L_part
theorem dL_isLarge_0 : decode cL_isLarge 0 = .ok (.aload_n 0, 1) := by decide +kernel
theorem dL_isLarge_1 : decode cL_isLarge 1 = .ok (.iload_n 2, 1) := by decide +kernel
theorem dL_isLarge_2 : decode cL_isLarge 2 = .ok (.laload, 1) := by decide +kernel
theorem dL_isLarge_3 : decode cL_isLarge 3 = .ok (.bipush 40, 2) := by decide +kernel
theorem dL_isLarge_5 : decode cL_isLarge 5 = .ok (.bipush 15, 2) := by decide +kernel
theorem dL_isLarge_7 : decode cL_isLarge 7 = .ok (.invokestatic 30, 3) := by decide +kernel
theorem dL_isLarge_10 : decode cL_isLarge 10 = .ok (.iconst 1, 1) := by decide +kernel
theorem dL_isLarge_11 : decode cL_isLarge 11 = .ok (.isub, 1) := by decide +kernel
theorem dL_isLarge_12 : decode cL_isLarge 12 = .ok (.istore_n 3, 1) := by decide +kernel
theorem dL_isLarge_13 : decode cL_isLarge 13 = .ok (.aload_n 0, 1) := by decide +kernel
theorem dL_isLarge_14 : decode cL_isLarge 14 = .ok (.iload_n 2, 1) := by decide +kernel
theorem dL_isLarge_15 : decode cL_isLarge 15 = .ok (.laload, 1) := by decide +kernel
theorem dL_isLarge_16 : decode cL_isLarge 16 = .ok (.iconst 0, 1) := by decide +kernel
theorem dL_isLarge_17 : decode cL_isLarge 17 = .ok (.iconst 2, 1) := by decide +kernel
theorem dL_isLarge_18 : decode cL_isLarge 18 = .ok (.invokestatic 30, 3) := by decide +kernel
theorem dL_isLarge_21 : decode cL_isLarge 21 = .ok (.iconst 1, 1) := by decide +kernel
theorem dL_isLarge_22 : decode cL_isLarge 22 = .ok (.if_icmp .ne 36, 3) := by decide +kernel
theorem dL_isLarge_25 : decode cL_isLarge 25 = .ok (.aload_n 0, 1) := by decide +kernel
theorem dL_isLarge_26 : decode cL_isLarge 26 = .ok (.iload_n 2, 1) := by decide +kernel
theorem dL_isLarge_27 : decode cL_isLarge 27 = .ok (.laload, 1) := by decide +kernel
theorem dL_isLarge_28 : decode cL_isLarge 28 = .ok (.iconst 5, 1) := by decide +kernel
theorem dL_isLarge_29 : decode cL_isLarge 29 = .ok (.bipush 20, 2) := by decide +kernel
theorem dL_isLarge_31 : decode cL_isLarge 31 = .ok (.invokestatic 30, 3) := by decide +kernel
theorem dL_isLarge_34 : decode cL_isLarge 34 = .ok (.ldc 36, 2) := by decide +kernel
theorem dL_isLarge_36 : decode cL_isLarge 36 = .ok (.if_icmp .lt 22, 3) := by decide +kernel
theorem dL_isLarge_39 : decode cL_isLarge 39 = .ok (.iload_n 3, 1) := by decide +kernel
theorem dL_isLarge_40 : decode cL_isLarge 40 = .ok (.ifCond .lt 18, 3) := by decide +kernel
theorem dL_isLarge_43 : decode cL_isLarge 43 = .ok (.iload_n 3, 1) := by decide +kernel
theorem dL_isLarge_44 : decode cL_isLarge 44 = .ok (.sipush 365, 3) := by decide +kernel
theorem dL_isLarge_47 : decode cL_isLarge 47 = .ok (.iadd, 1) := by decide +kernel
theorem dL_isLarge_48 : decode cL_isLarge 48 = .ok (.aload_n 1, 1) := by decide +kernel
theorem dL_isLarge_49 : decode cL_isLarge 49 = .ok (.iconst 0, 1) := by decide +kernel
theorem dL_isLarge_50 : decode cL_isLarge 50 = .ok (.iaload, 1) := by decide +kernel
theorem dL_isLarge_51 : decode cL_isLarge 51 = .ok (.if_icmp .gt 7, 3) := by decide +kernel
theorem dL_isLarge_54 : decode cL_isLarge 54 = .ok (.iconst 1, 1) := by decide +kernel
theorem dL_isLarge_55 : decode cL_isLarge 55 = .ok (.goto 4, 3) := by decide +kernel
theorem dL_isLarge_58 : decode cL_isLarge 58 = .ok (.iconst 0, 1) := by decide +kernel
theorem dL_isLarge_59 : decode cL_isLarge 59 = .ok (.ireturn, 1) := by decide +kernel
set_option maxRecDepth 20000 in
theorem ggL_rate_L_part : GoodIn wsL_rate wsL_part := goodIn_r _ [4] (by decide +kernel) (by decide +kernel)
set_option maxRecDepth 20000 in
theorem gL_rate_L_part : GoodIn wsL_rate (va_wsS RL 30 yL_part wsL_part) := goodIn_app (goodIn_of _ (by decide +kernel)) ggL_rate_L_part
set_option maxRecDepth 20000 in
theorem ggL_rate_L_isLarge : GoodIn wsL_rate wsL_isLarge := goodIn_r _ [7, 8, 1, 2, 3, 4] (by decide +kernel) (by decide +kernel)
set_option maxRecDepth 20000 in
theorem gL_rate_L_isLarge : GoodIn wsL_rate (va_wsS RL 37 yL_isLarge wsL_isLarge) := goodIn_app (goodIn_of _ (by decide +kernel)) ggL_rate_L_isLarge
theorem dL_rate_0 : decode cL_rate 0 = .ok (.aload_n 0, 1) := by decide +kernel
theorem dL_rate_1 : decode cL_rate 1 = .ok (.iload_n 3, 1) := by decide +kernel
theorem dL_rate_2 : decode cL_rate 2 = .ok (.laload, 1) := by decide +kernel
theorem dL_rate_3 : decode cL_rate 3 = .ok (.iconst 2, 1) := by decide +kernel
theorem dL_rate_4 : decode cL_rate 4 = .ok (.iconst 3, 1) := by decide +kernel
theorem dL_rate_5 : decode cL_rate 5 = .ok (.invokestatic 30, 3) := by decide +kernel
theorem dL_rate_8 : decode cL_rate 8 = .ok (.iconst 1, 1) := by decide +kernel
theorem dL_rate_9 : decode cL_rate 9 = .ok (.isub, 1) := by decide +kernel
theorem dL_rate_10 : decode cL_rate 10 = .ok (.istore 4, 2) := by decide +kernel
theorem dL_rate_12 : decode cL_rate 12 = .ok (.aload_n 0, 1) := by decide +kernel
theorem dL_rate_13 : decode cL_rate 13 = .ok (.aload_n 2, 1) := by decide +kernel
theorem dL_rate_14 : decode cL_rate 14 = .ok (.iload_n 3, 1) := by decide +kernel
theorem dL_rate_15 : decode cL_rate 15 = .ok (.invokestatic 37, 3) := by decide +kernel
theorem dL_rate_18 : decode cL_rate 18 = .ok (.ifCond .eq 31, 3) := by decide +kernel
theorem dL_rate_21 : decode cL_rate 21 = .ok (.aload_n 1, 1) := by decide +kernel
theorem dL_rate_22 : decode cL_rate 22 = .ok (.iconst 2, 1) := by decide +kernel
theorem dL_rate_23 : decode cL_rate 23 = .ok (.iload 4, 2) := by decide +kernel
theorem dL_rate_25 : decode cL_rate 25 = .ok (.imul, 1) := by decide +kernel
theorem dL_rate_26 : decode cL_rate 26 = .ok (.iconst 1, 1) := by decide +kernel
theorem dL_rate_27 : decode cL_rate 27 = .ok (.iadd, 1) := by decide +kernel
theorem dL_rate_28 : decode cL_rate 28 = .ok (.iaload, 1) := by decide +kernel
theorem dL_rate_29 : decode cL_rate 29 = .ok (.aload_n 1, 1) := by decide +kernel
theorem dL_rate_30 : decode cL_rate 30 = .ok (.iconst 2, 1) := by decide +kernel
theorem dL_rate_31 : decode cL_rate 31 = .ok (.iload 4, 2) := by decide +kernel
theorem dL_rate_33 : decode cL_rate 33 = .ok (.imul, 1) := by decide +kernel
theorem dL_rate_34 : decode cL_rate 34 = .ok (.iaload, 1) := by decide +kernel
theorem dL_rate_35 : decode cL_rate 35 = .ok (.if_icmp .ge 14, 3) := by decide +kernel
theorem dL_rate_38 : decode cL_rate 38 = .ok (.aload_n 1, 1) := by decide +kernel
theorem dL_rate_39 : decode cL_rate 39 = .ok (.iconst 2, 1) := by decide +kernel
theorem dL_rate_40 : decode cL_rate 40 = .ok (.iload 4, 2) := by decide +kernel
theorem dL_rate_42 : decode cL_rate 42 = .ok (.imul, 1) := by decide +kernel
theorem dL_rate_43 : decode cL_rate 43 = .ok (.iconst 1, 1) := by decide +kernel
theorem dL_rate_44 : decode cL_rate 44 = .ok (.iadd, 1) := by decide +kernel
theorem dL_rate_45 : decode cL_rate 45 = .ok (.iaload, 1) := by decide +kernel
theorem dL_rate_46 : decode cL_rate 46 = .ok (.goto 9, 3) := by decide +kernel
theorem dL_rate_49 : decode cL_rate 49 = .ok (.aload_n 1, 1) := by decide +kernel
theorem dL_rate_50 : decode cL_rate 50 = .ok (.iconst 2, 1) := by decide +kernel
theorem dL_rate_51 : decode cL_rate 51 = .ok (.iload 4, 2) := by decide +kernel
theorem dL_rate_53 : decode cL_rate 53 = .ok (.imul, 1) := by decide +kernel
theorem dL_rate_54 : decode cL_rate 54 = .ok (.iaload, 1) := by decide +kernel
theorem dL_rate_55 : decode cL_rate 55 = .ok (.ireturn, 1) := by decide +kernel
set_option maxRecDepth 20000 in
theorem ggL_isDesk_X4_day : GoodIn wsL_isDesk wsX4_day := goodIn_r _ [7, 8, 163, 164, 165, 166, 167, 168] (by decide +kernel) (by decide +kernel)
set_option maxRecDepth 20000 in
theorem gL_isDesk_X4_day : GoodIn wsL_isDesk (wsV RL 41 RX4 yX4_day wsX4_day) := goodIn_app (goodIn_of _ (by decide +kernel)) ggL_isDesk_X4_day
set_option maxRecDepth 20000 in
theorem ggL_isDesk_X4_dividends : GoodIn wsL_isDesk wsX4_dividends := goodIn_r _ [12, 13, 14, 15, 16, 17, 18, 19, 163, 164, 165, 166, 167, 168, 169, 170, 171] (by decide +kernel) (by decide +kernel)
set_option maxRecDepth 20000 in
theorem gL_isDesk_X4_dividends : GoodIn wsL_isDesk (wsV RL 45 RX4 yX4_dividends wsX4_dividends) := goodIn_app (goodIn_of _ (by decide +kernel)) ggL_isDesk_X4_dividends
set_option maxRecDepth 20000 in
theorem ggL_isDesk_X4_refunded : GoodIn wsL_isDesk wsX4_refunded := goodIn_r _ [23, 24, 163, 164, 165, 166, 167, 168] (by decide +kernel) (by decide +kernel)
set_option maxRecDepth 20000 in
theorem gL_isDesk_X4_refunded : GoodIn wsL_isDesk (wsV RL 48 RX4 yX4_refunded wsX4_refunded) := goodIn_app (goodIn_of _ (by decide +kernel)) ggL_isDesk_X4_refunded
set_option maxRecDepth 20000 in
theorem ggL_isDesk_X4_shares : GoodIn wsL_isDesk wsX4_shares := goodIn_ca (goodIn_r _ [28, 29, 30, 31, 6, 32, 33, 34, 35, 36, 37, 38, 39, 40, 14, 15, 16, 17, 18, 19, 41, 42, 43, 44, 45, 46, 47, 48, 49, 50, 51, 52, 53, 54, 55, 56, 57, 58, 59, 60, 172, 173, 174, 175, 176, 177, 163, 164, 165, 166, 167, 168, 169, 170, 171] (by decide +kernel) (by decide +kernel)) (goodIn_sub (fun _ h => List.mem_cons_of_mem _ (List.mem_append_left _ (List.mem_append_right _ h))) (by decide +kernel))
set_option maxRecDepth 20000 in
theorem gL_isDesk_X4_shares : GoodIn wsL_isDesk (wsV RL 52 RX4 yX4_shares wsX4_shares) := goodIn_app (goodIn_of _ (by decide +kernel)) ggL_isDesk_X4_shares
set_option maxRecDepth 20000 in
theorem ggL_isDesk_L_part : GoodIn wsL_isDesk wsL_part := goodIn_r _ [64] (by decide +kernel) (by decide +kernel)
set_option maxRecDepth 20000 in
theorem gL_isDesk_L_part : GoodIn wsL_isDesk (va_wsS RL 30 yL_part wsL_part) := goodIn_app (goodIn_of _ (by decide +kernel)) ggL_isDesk_L_part
set_option maxRecDepth 20000 in
theorem ggL_isDesk_X4_isValid : GoodIn wsL_isDesk wsX4_isValid := goodIn_ca (goodIn_r _ [68, 8, 29, 30, 31, 6, 32, 33, 34, 35, 36, 37, 38, 39, 40, 14, 15, 16, 17, 18, 19, 41, 42, 43, 44, 45, 46, 47, 48, 49, 50, 51, 52, 53, 54, 55, 56, 57, 58, 59, 60, 69, 70, 71, 72, 73, 163, 164, 165, 166, 167, 168, 169, 170, 171, 172, 173, 174, 175, 176, 177] (by decide +kernel) (by decide +kernel)) (goodIn_sub (fun _ h => List.mem_cons_of_mem _ (List.mem_append_left _ (List.mem_append_right _ h))) (by decide +kernel))
set_option maxRecDepth 20000 in
theorem gL_isDesk_X4_isValid : GoodIn wsL_isDesk (wsV RL 55 RX4 yX4_isValid wsX4_isValid) := goodIn_app (goodIn_of _ (by decide +kernel)) ggL_isDesk_X4_isValid
set_option maxRecDepth 20000 in
theorem ggL_isDesk_X4_isLarge : GoodIn wsL_isDesk wsX4_isLarge := goodIn_ca (goodIn_r _ [77, 8, 29, 30, 31, 6, 32, 33, 34, 35, 36, 37, 38, 39, 40, 14, 15, 16, 17, 18, 19, 41, 42, 43, 44, 45, 46, 47, 48, 49, 50, 51, 52, 53, 54, 55, 56, 57, 58, 59, 60, 78, 70, 79, 80, 81, 82, 83, 84, 163, 164, 165, 166, 167, 168, 169, 170, 171, 172, 173, 174, 175, 176, 177] (by decide +kernel) (by decide +kernel)) (goodIn_sub (fun _ h => List.mem_cons_of_mem _ (List.mem_append_left _ (List.mem_append_right _ h))) (by decide +kernel))
set_option maxRecDepth 20000 in
theorem gL_isDesk_X4_isLarge : GoodIn wsL_isDesk (wsV RL 59 RX4 yX4_isLarge wsX4_isLarge) := goodIn_app (goodIn_of _ (by decide +kernel)) ggL_isDesk_X4_isLarge
set_option maxRecDepth 20000 in
theorem ggL_isDesk_L_isLarge : GoodIn wsL_isDesk wsL_isLarge := goodIn_r _ [87, 88, 61, 62, 63, 64] (by decide +kernel) (by decide +kernel)
set_option maxRecDepth 20000 in
theorem gL_isDesk_L_isLarge : GoodIn wsL_isDesk (va_wsS RL 37 yL_isLarge wsL_isLarge) := goodIn_app (goodIn_of _ (by decide +kernel)) ggL_isDesk_L_isLarge
set_option maxRecDepth 20000 in
theorem ggL_isDesk_X4_treatyRate : GoodIn wsL_isDesk wsX4_treatyRate := goodIn_ca (goodIn_ca (goodIn_r _ [92, 93, 94, 29, 30, 31, 6, 32, 33, 34, 35, 36, 37, 38, 39, 40, 14, 15, 16, 17, 18, 19, 41, 42, 43, 44, 45, 46, 47, 48, 49, 50, 51, 52, 53, 54, 55, 56, 57, 58, 59, 60, 95, 96, 97, 98, 99, 8, 100, 101, 102, 103, 104, 105, 106, 107, 108, 109, 110, 78, 70, 79, 80, 81, 82, 83, 84, 172, 173, 174, 175, 176, 177, 163, 164, 165, 166, 167, 168, 169, 170, 171] (by decide +kernel) (by decide +kernel)) (goodIn_sub (fun _ h => List.mem_cons_of_mem _ (List.mem_append_right _ h)) (by decide +kernel))) (goodIn_sub (fun _ h => List.mem_cons_of_mem _ (List.mem_append_left _ (List.mem_append_right _ h))) (by decide +kernel))
set_option maxRecDepth 20000 in
theorem gL_isDesk_X4_treatyRate : GoodIn wsL_isDesk (wsV RL 61 RX4 yX4_treatyRate wsX4_treatyRate) := goodIn_app (goodIn_of _ (by decide +kernel)) ggL_isDesk_X4_treatyRate
set_option maxRecDepth 20000 in
theorem ggL_isDesk_L_rate : GoodIn wsL_isDesk wsL_rate := goodIn_r _ [113, 61, 62, 63, 64, 85, 86, 87, 88] (by decide +kernel) (by decide +kernel)
set_option maxRecDepth 20000 in
theorem gL_isDesk_L_rate : GoodIn wsL_isDesk (va_wsS RL 64 yL_rate wsL_rate) := goodIn_app (goodIn_of _ (by decide +kernel)) ggL_isDesk_L_rate
set_option maxRecDepth 20000 in
theorem ggL_isDesk_X4_held : GoodIn wsL_isDesk wsX4_held := goodIn_ca (goodIn_r _ [117, 118, 119, 120, 6, 121, 33, 34, 122, 123, 124, 125, 13, 126, 14, 15, 16, 17, 18, 19, 41, 42, 43, 44, 45, 46, 47, 48, 49, 50, 51, 52, 53, 54, 55, 56, 57, 58, 59, 60, 37, 38, 39, 40, 35, 127, 128, 129, 130, 131, 178, 179, 180, 163, 164, 165, 166, 167, 168, 169, 170, 171, 181, 182, 183] (by decide +kernel) (by decide +kernel)) (goodIn_sub (fun _ h => List.mem_cons_of_mem _ (List.mem_append_left _ (List.mem_append_right _ h))) (by decide +kernel))
set_option maxRecDepth 20000 in
theorem gL_isDesk_X4_held : GoodIn wsL_isDesk (wsV RL 68 RX4 yX4_held wsX4_held) := goodIn_app (goodIn_of _ (by decide +kernel)) ggL_isDesk_X4_held
set_option maxRecDepth 20000 in
theorem ggL_isDesk_X4_due : GoodIn wsL_isDesk wsX4_due := goodIn_ca (goodIn_r _ [135, 118, 119, 120, 6, 121, 33, 34, 122, 123, 124, 125, 13, 126, 14, 15, 16, 17, 18, 19, 41, 42, 43, 44, 45, 46, 47, 48, 49, 50, 51, 52, 53, 54, 55, 56, 57, 58, 59, 60, 37, 38, 39, 40, 35, 127, 128, 129, 130, 131, 136, 137, 138, 139, 140, 141, 142, 143, 144, 145, 146, 147, 148, 149, 150, 151, 163, 164, 165, 166, 167, 168, 169, 170, 171, 181, 182, 183, 178, 179, 180, 184, 185, 186] (by decide +kernel) (by decide +kernel)) (goodIn_sub (fun _ h => List.mem_cons_of_mem _ (List.mem_append_left _ (List.mem_append_right _ h))) (by decide +kernel))
set_option maxRecDepth 20000 in
theorem gL_isDesk_X4_due : GoodIn wsL_isDesk (wsV RL 71 RX4 yX4_due wsX4_due) := goodIn_app (goodIn_of _ (by decide +kernel)) ggL_isDesk_X4_due
set_option maxRecDepth 20000 in
theorem ggL_isDesk_X4_gross : GoodIn wsL_isDesk wsX4_gross := goodIn_ca (goodIn_r _ [155, 118, 119, 120, 6, 121, 33, 34, 122, 123, 124, 125, 13, 126, 14, 15, 16, 17, 18, 19, 41, 42, 43, 44, 45, 46, 47, 48, 49, 50, 51, 52, 53, 54, 55, 56, 57, 58, 59, 60, 37, 38, 39, 40, 35, 127, 128, 129, 130, 131, 178, 179, 180, 163, 164, 165, 166, 167, 168, 169, 170, 171, 181, 182, 183] (by decide +kernel) (by decide +kernel)) (goodIn_sub (fun _ h => List.mem_cons_of_mem _ (List.mem_append_left _ (List.mem_append_right _ h))) (by decide +kernel))
set_option maxRecDepth 20000 in
theorem gL_isDesk_X4_gross : GoodIn wsL_isDesk (wsV RL 74 RX4 yX4_gross wsX4_gross) := goodIn_app (goodIn_of _ (by decide +kernel)) ggL_isDesk_X4_gross
set_option maxRecDepth 20000 in
theorem ggL_isDesk_X4_heldInAll : GoodIn wsL_isDesk wsX4_heldInAll := goodIn_r _ [159, 13, 126, 14, 15, 16, 17, 18, 19, 44, 45, 46, 47, 48, 49, 50, 51, 52, 53, 54, 55, 56, 57, 58, 59, 60, 160, 128, 161, 162, 131, 163, 164, 165, 166, 167, 168, 169, 170, 171, 181, 182, 183, 178, 179, 180] (by decide +kernel) (by decide +kernel)
set_option maxRecDepth 20000 in
theorem gL_isDesk_X4_heldInAll : GoodIn wsL_isDesk (wsV RL 81 RX4 yX4_heldInAll wsX4_heldInAll) := goodIn_app (goodIn_of _ (by decide +kernel)) ggL_isDesk_X4_heldInAll
theorem dL_isDesk_0 : decode cL_isDesk 0 = .ok (.aload_n 0, 1) := by decide +kernel
theorem dL_isDesk_1 : decode cL_isDesk 1 = .ok (.invokevirtual 41, 3) := by decide +kernel
theorem dL_isDesk_4 : decode cL_isDesk 4 = .ok (.aload_n 3, 1) := by decide +kernel
theorem dL_isDesk_5 : decode cL_isDesk 5 = .ok (.iconst 0, 1) := by decide +kernel
theorem dL_isDesk_6 : decode cL_isDesk 6 = .ok (.iaload, 1) := by decide +kernel
theorem dL_isDesk_7 : decode cL_isDesk 7 = .ok (.if_icmp .ne 27, 3) := by decide +kernel
theorem dL_isDesk_10 : decode cL_isDesk 10 = .ok (.aload_n 0, 1) := by decide +kernel
theorem dL_isDesk_11 : decode cL_isDesk 11 = .ok (.invokevirtual 45, 3) := by decide +kernel
theorem dL_isDesk_14 : decode cL_isDesk 14 = .ok (.aload_n 3, 1) := by decide +kernel
theorem dL_isDesk_15 : decode cL_isDesk 15 = .ok (.iconst 2, 1) := by decide +kernel
theorem dL_isDesk_16 : decode cL_isDesk 16 = .ok (.iaload, 1) := by decide +kernel
theorem dL_isDesk_17 : decode cL_isDesk 17 = .ok (.if_icmp .ne 17, 3) := by decide +kernel
theorem dL_isDesk_20 : decode cL_isDesk 20 = .ok (.aload_n 0, 1) := by decide +kernel
theorem dL_isDesk_21 : decode cL_isDesk 21 = .ok (.invokevirtual 48, 3) := by decide +kernel
theorem dL_isDesk_24 : decode cL_isDesk 24 = .ok (.lload 4, 2) := by decide +kernel
theorem dL_isDesk_26 : decode cL_isDesk 26 = .ok (.lcmp, 1) := by decide +kernel
theorem dL_isDesk_27 : decode cL_isDesk 27 = .ok (.ifCond .ne 7, 3) := by decide +kernel
theorem dL_isDesk_30 : decode cL_isDesk 30 = .ok (.iconst 1, 1) := by decide +kernel
theorem dL_isDesk_31 : decode cL_isDesk 31 = .ok (.goto 4, 3) := by decide +kernel
theorem dL_isDesk_34 : decode cL_isDesk 34 = .ok (.iconst 0, 1) := by decide +kernel
theorem dL_isDesk_35 : decode cL_isDesk 35 = .ok (.istore 6, 2) := by decide +kernel
theorem dL_isDesk_37 : decode cL_isDesk 37 = .ok (.lconst 0, 1) := by decide +kernel
theorem dL_isDesk_38 : decode cL_isDesk 38 = .ok (.lstore 7, 2) := by decide +kernel
theorem dL_isDesk_40 : decode cL_isDesk 40 = .ok (.iconst 0, 1) := by decide +kernel
theorem dL_isDesk_41 : decode cL_isDesk 41 = .ok (.istore 9, 2) := by decide +kernel
theorem dL_isDesk_43 : decode cL_isDesk 43 = .ok (.iload 9, 2) := by decide +kernel
theorem dL_isDesk_45 : decode cL_isDesk 45 = .ok (.aload_n 3, 1) := by decide +kernel
theorem dL_isDesk_46 : decode cL_isDesk 46 = .ok (.iconst 1, 1) := by decide +kernel
theorem dL_isDesk_47 : decode cL_isDesk 47 = .ok (.iaload, 1) := by decide +kernel
theorem dL_isDesk_48 : decode cL_isDesk 48 = .ok (.if_icmp .ge 117, 3) := by decide +kernel
theorem dL_isDesk_51 : decode cL_isDesk 51 = .ok (.iload 6, 2) := by decide +kernel
theorem dL_isDesk_53 : decode cL_isDesk 53 = .ok (.ifCond .eq 112, 3) := by decide +kernel
theorem dL_isDesk_56 : decode cL_isDesk 56 = .ok (.aload_n 0, 1) := by decide +kernel
theorem dL_isDesk_57 : decode cL_isDesk 57 = .ok (.iload 9, 2) := by decide +kernel
theorem dL_isDesk_59 : decode cL_isDesk 59 = .ok (.invokevirtual 52, 3) := by decide +kernel
theorem dL_isDesk_62 : decode cL_isDesk 62 = .ok (.aload_n 1, 1) := by decide +kernel
theorem dL_isDesk_63 : decode cL_isDesk 63 = .ok (.iload 9, 2) := by decide +kernel
theorem dL_isDesk_65 : decode cL_isDesk 65 = .ok (.laload, 1) := by decide +kernel
theorem dL_isDesk_66 : decode cL_isDesk 66 = .ok (.iconst 5, 1) := by decide +kernel
theorem dL_isDesk_67 : decode cL_isDesk 67 = .ok (.bipush 20, 2) := by decide +kernel
theorem dL_isDesk_69 : decode cL_isDesk 69 = .ok (.invokestatic 30, 3) := by decide +kernel
theorem dL_isDesk_72 : decode cL_isDesk 72 = .ok (.if_icmp .ne 84, 3) := by decide +kernel
theorem dL_isDesk_75 : decode cL_isDesk 75 = .ok (.aload_n 0, 1) := by decide +kernel
theorem dL_isDesk_76 : decode cL_isDesk 76 = .ok (.iload 9, 2) := by decide +kernel
theorem dL_isDesk_78 : decode cL_isDesk 78 = .ok (.invokevirtual 55, 3) := by decide +kernel
theorem dL_isDesk_81 : decode cL_isDesk 81 = .ok (.aload_n 1, 1) := by decide +kernel
theorem dL_isDesk_82 : decode cL_isDesk 82 = .ok (.iload 9, 2) := by decide +kernel
theorem dL_isDesk_84 : decode cL_isDesk 84 = .ok (.laload, 1) := by decide +kernel
theorem dL_isDesk_85 : decode cL_isDesk 85 = .ok (.bipush 25, 2) := by decide +kernel
theorem dL_isDesk_87 : decode cL_isDesk 87 = .ok (.bipush 15, 2) := by decide +kernel
theorem dL_isDesk_89 : decode cL_isDesk 89 = .ok (.invokestatic 30, 3) := by decide +kernel
theorem dL_isDesk_92 : decode cL_isDesk 92 = .ok (.aload_n 3, 1) := by decide +kernel
theorem dL_isDesk_93 : decode cL_isDesk 93 = .ok (.iconst 0, 1) := by decide +kernel
theorem dL_isDesk_94 : decode cL_isDesk 94 = .ok (.iaload, 1) := by decide +kernel
theorem dL_isDesk_95 : decode cL_isDesk 95 = .ok (.if_icmp .le 7, 3) := by decide +kernel
theorem dL_isDesk_98 : decode cL_isDesk 98 = .ok (.iconst 1, 1) := by decide +kernel
theorem dL_isDesk_99 : decode cL_isDesk 99 = .ok (.goto 4, 3) := by decide +kernel
theorem dL_isDesk_102 : decode cL_isDesk 102 = .ok (.iconst 0, 1) := by decide +kernel
theorem dL_isDesk_103 : decode cL_isDesk 103 = .ok (.if_icmp .ne 53, 3) := by decide +kernel
theorem dL_isDesk_106 : decode cL_isDesk 106 = .ok (.aload_n 0, 1) := by decide +kernel
theorem dL_isDesk_107 : decode cL_isDesk 107 = .ok (.iload 9, 2) := by decide +kernel
theorem dL_isDesk_109 : decode cL_isDesk 109 = .ok (.invokevirtual 59, 3) := by decide +kernel
theorem dL_isDesk_112 : decode cL_isDesk 112 = .ok (.aload_n 1, 1) := by decide +kernel
theorem dL_isDesk_113 : decode cL_isDesk 113 = .ok (.aload_n 3, 1) := by decide +kernel
theorem dL_isDesk_114 : decode cL_isDesk 114 = .ok (.iload 9, 2) := by decide +kernel
theorem dL_isDesk_116 : decode cL_isDesk 116 = .ok (.invokestatic 37, 3) := by decide +kernel
theorem dL_isDesk_119 : decode cL_isDesk 119 = .ok (.if_icmp .ne 37, 3) := by decide +kernel
theorem dL_isDesk_122 : decode cL_isDesk 122 = .ok (.aload_n 1, 1) := by decide +kernel
theorem dL_isDesk_123 : decode cL_isDesk 123 = .ok (.iload 9, 2) := by decide +kernel
theorem dL_isDesk_125 : decode cL_isDesk 125 = .ok (.laload, 1) := by decide +kernel
theorem dL_isDesk_126 : decode cL_isDesk 126 = .ok (.iconst 0, 1) := by decide +kernel
theorem dL_isDesk_127 : decode cL_isDesk 127 = .ok (.iconst 2, 1) := by decide +kernel
theorem dL_isDesk_128 : decode cL_isDesk 128 = .ok (.invokestatic 30, 3) := by decide +kernel
theorem dL_isDesk_131 : decode cL_isDesk 131 = .ok (.iconst 2, 1) := by decide +kernel
theorem dL_isDesk_132 : decode cL_isDesk 132 = .ok (.if_icmp .eq 20, 3) := by decide +kernel
theorem dL_isDesk_135 : decode cL_isDesk 135 = .ok (.aload_n 0, 1) := by decide +kernel
theorem dL_isDesk_136 : decode cL_isDesk 136 = .ok (.iload 9, 2) := by decide +kernel
theorem dL_isDesk_138 : decode cL_isDesk 138 = .ok (.invokevirtual 61, 3) := by decide +kernel
theorem dL_isDesk_141 : decode cL_isDesk 141 = .ok (.aload_n 1, 1) := by decide +kernel
theorem dL_isDesk_142 : decode cL_isDesk 142 = .ok (.aload_n 2, 1) := by decide +kernel
theorem dL_isDesk_143 : decode cL_isDesk 143 = .ok (.aload_n 3, 1) := by decide +kernel
theorem dL_isDesk_144 : decode cL_isDesk 144 = .ok (.iload 9, 2) := by decide +kernel
theorem dL_isDesk_146 : decode cL_isDesk 146 = .ok (.invokestatic 64, 3) := by decide +kernel
theorem dL_isDesk_149 : decode cL_isDesk 149 = .ok (.if_icmp .ne 7, 3) := by decide +kernel
theorem dL_isDesk_152 : decode cL_isDesk 152 = .ok (.iconst 1, 1) := by decide +kernel
theorem dL_isDesk_153 : decode cL_isDesk 153 = .ok (.goto 4, 3) := by decide +kernel
theorem dL_isDesk_156 : decode cL_isDesk 156 = .ok (.iconst 0, 1) := by decide +kernel
theorem dL_isDesk_157 : decode cL_isDesk 157 = .ok (.istore 6, 2) := by decide +kernel
theorem dL_isDesk_159 : decode cL_isDesk 159 = .ok (.iinc 9 1, 3) := by decide +kernel
theorem dL_isDesk_162 : decode cL_isDesk 162 = .ok (.goto (-119), 3) := by decide +kernel
theorem dL_isDesk_165 : decode cL_isDesk 165 = .ok (.iconst 0, 1) := by decide +kernel
theorem dL_isDesk_166 : decode cL_isDesk 166 = .ok (.istore 9, 2) := by decide +kernel
theorem dL_isDesk_168 : decode cL_isDesk 168 = .ok (.iload 9, 2) := by decide +kernel
theorem dL_isDesk_170 : decode cL_isDesk 170 = .ok (.aload_n 3, 1) := by decide +kernel
theorem dL_isDesk_171 : decode cL_isDesk 171 = .ok (.iconst 1, 1) := by decide +kernel
theorem dL_isDesk_172 : decode cL_isDesk 172 = .ok (.iaload, 1) := by decide +kernel
theorem dL_isDesk_173 : decode cL_isDesk 173 = .ok (.aload_n 3, 1) := by decide +kernel
theorem dL_isDesk_174 : decode cL_isDesk 174 = .ok (.iconst 2, 1) := by decide +kernel
theorem dL_isDesk_175 : decode cL_isDesk 175 = .ok (.iaload, 1) := by decide +kernel
theorem dL_isDesk_176 : decode cL_isDesk 176 = .ok (.imul, 1) := by decide +kernel
theorem dL_isDesk_177 : decode cL_isDesk 177 = .ok (.if_icmp .ge 109, 3) := by decide +kernel
theorem dL_isDesk_180 : decode cL_isDesk 180 = .ok (.iload 6, 2) := by decide +kernel
theorem dL_isDesk_182 : decode cL_isDesk 182 = .ok (.ifCond .eq 104, 3) := by decide +kernel
theorem dL_isDesk_185 : decode cL_isDesk 185 = .ok (.iload 9, 2) := by decide +kernel
theorem dL_isDesk_187 : decode cL_isDesk 187 = .ok (.aload_n 3, 1) := by decide +kernel
theorem dL_isDesk_188 : decode cL_isDesk 188 = .ok (.iconst 1, 1) := by decide +kernel
theorem dL_isDesk_189 : decode cL_isDesk 189 = .ok (.iaload, 1) := by decide +kernel
theorem dL_isDesk_190 : decode cL_isDesk 190 = .ok (.idiv, 1) := by decide +kernel
theorem dL_isDesk_191 : decode cL_isDesk 191 = .ok (.istore 10, 2) := by decide +kernel
theorem dL_isDesk_193 : decode cL_isDesk 193 = .ok (.aload_n 0, 1) := by decide +kernel
theorem dL_isDesk_194 : decode cL_isDesk 194 = .ok (.iload 10, 2) := by decide +kernel
theorem dL_isDesk_196 : decode cL_isDesk 196 = .ok (.iload 9, 2) := by decide +kernel
theorem dL_isDesk_198 : decode cL_isDesk 198 = .ok (.aload_n 3, 1) := by decide +kernel
theorem dL_isDesk_199 : decode cL_isDesk 199 = .ok (.iconst 1, 1) := by decide +kernel
theorem dL_isDesk_200 : decode cL_isDesk 200 = .ok (.iaload, 1) := by decide +kernel
theorem dL_isDesk_201 : decode cL_isDesk 201 = .ok (.irem, 1) := by decide +kernel
theorem dL_isDesk_202 : decode cL_isDesk 202 = .ok (.invokevirtual 68, 3) := by decide +kernel
theorem dL_isDesk_205 : decode cL_isDesk 205 = .ok (.istore 11, 2) := by decide +kernel
theorem dL_isDesk_207 : decode cL_isDesk 207 = .ok (.aload_n 0, 1) := by decide +kernel
theorem dL_isDesk_208 : decode cL_isDesk 208 = .ok (.iload 10, 2) := by decide +kernel
theorem dL_isDesk_210 : decode cL_isDesk 210 = .ok (.iload 9, 2) := by decide +kernel
theorem dL_isDesk_212 : decode cL_isDesk 212 = .ok (.aload_n 3, 1) := by decide +kernel
theorem dL_isDesk_213 : decode cL_isDesk 213 = .ok (.iconst 1, 1) := by decide +kernel
theorem dL_isDesk_214 : decode cL_isDesk 214 = .ok (.iaload, 1) := by decide +kernel
theorem dL_isDesk_215 : decode cL_isDesk 215 = .ok (.irem, 1) := by decide +kernel
theorem dL_isDesk_216 : decode cL_isDesk 216 = .ok (.invokevirtual 71, 3) := by decide +kernel
theorem dL_isDesk_219 : decode cL_isDesk 219 = .ok (.istore 12, 2) := by decide +kernel
theorem dL_isDesk_221 : decode cL_isDesk 221 = .ok (.aload_n 0, 1) := by decide +kernel
theorem dL_isDesk_222 : decode cL_isDesk 222 = .ok (.iload 10, 2) := by decide +kernel
theorem dL_isDesk_224 : decode cL_isDesk 224 = .ok (.iload 9, 2) := by decide +kernel
theorem dL_isDesk_226 : decode cL_isDesk 226 = .ok (.aload_n 3, 1) := by decide +kernel
theorem dL_isDesk_227 : decode cL_isDesk 227 = .ok (.iconst 1, 1) := by decide +kernel
theorem dL_isDesk_228 : decode cL_isDesk 228 = .ok (.iaload, 1) := by decide +kernel
theorem dL_isDesk_229 : decode cL_isDesk 229 = .ok (.irem, 1) := by decide +kernel
theorem dL_isDesk_230 : decode cL_isDesk 230 = .ok (.invokevirtual 74, 3) := by decide +kernel
theorem dL_isDesk_233 : decode cL_isDesk 233 = .ok (.i2l, 1) := by decide +kernel
theorem dL_isDesk_234 : decode cL_isDesk 234 = .ok (.lstore 13, 2) := by decide +kernel
theorem dL_isDesk_236 : decode cL_isDesk 236 = .ok (.lload 7, 2) := by decide +kernel
theorem dL_isDesk_238 : decode cL_isDesk 238 = .ok (.iload 11, 2) := by decide +kernel
theorem dL_isDesk_240 : decode cL_isDesk 240 = .ok (.i2l, 1) := by decide +kernel
theorem dL_isDesk_241 : decode cL_isDesk 241 = .ok (.ladd, 1) := by decide +kernel
theorem dL_isDesk_242 : decode cL_isDesk 242 = .ok (.lstore 7, 2) := by decide +kernel
theorem dL_isDesk_244 : decode cL_isDesk 244 = .ok (.iload 12, 2) := by decide +kernel
theorem dL_isDesk_246 : decode cL_isDesk 246 = .ok (.ifCond .lt 31, 3) := by decide +kernel
theorem dL_isDesk_249 : decode cL_isDesk 249 = .ok (.iload 12, 2) := by decide +kernel
theorem dL_isDesk_251 : decode cL_isDesk 251 = .ok (.iload 11, 2) := by decide +kernel
theorem dL_isDesk_253 : decode cL_isDesk 253 = .ok (.if_icmp .gt 24, 3) := by decide +kernel
theorem dL_isDesk_256 : decode cL_isDesk 256 = .ok (.iload 11, 2) := by decide +kernel
theorem dL_isDesk_258 : decode cL_isDesk 258 = .ok (.i2l, 1) := by decide +kernel
theorem dL_isDesk_259 : decode cL_isDesk 259 = .ok (.lload 13, 2) := by decide +kernel
theorem dL_isDesk_261 : decode cL_isDesk 261 = .ok (.ldc2_w 77, 3) := by decide +kernel
theorem dL_isDesk_264 : decode cL_isDesk 264 = .ok (.lmul, 1) := by decide +kernel
theorem dL_isDesk_265 : decode cL_isDesk 265 = .ok (.ldc2_w 79, 3) := by decide +kernel
theorem dL_isDesk_268 : decode cL_isDesk 268 = .ok (.ldiv, 1) := by decide +kernel
theorem dL_isDesk_269 : decode cL_isDesk 269 = .ok (.lcmp, 1) := by decide +kernel
theorem dL_isDesk_270 : decode cL_isDesk 270 = .ok (.ifCond .gt 7, 3) := by decide +kernel
theorem dL_isDesk_273 : decode cL_isDesk 273 = .ok (.iconst 1, 1) := by decide +kernel
theorem dL_isDesk_274 : decode cL_isDesk 274 = .ok (.goto 4, 3) := by decide +kernel
theorem dL_isDesk_277 : decode cL_isDesk 277 = .ok (.iconst 0, 1) := by decide +kernel
theorem dL_isDesk_278 : decode cL_isDesk 278 = .ok (.istore 6, 2) := by decide +kernel
theorem dL_isDesk_280 : decode cL_isDesk 280 = .ok (.iinc 9 1, 3) := by decide +kernel
theorem dL_isDesk_283 : decode cL_isDesk 283 = .ok (.goto (-115), 3) := by decide +kernel
theorem dL_isDesk_286 : decode cL_isDesk 286 = .ok (.iload 6, 2) := by decide +kernel
theorem dL_isDesk_288 : decode cL_isDesk 288 = .ok (.ifCond .eq 17, 3) := by decide +kernel
theorem dL_isDesk_291 : decode cL_isDesk 291 = .ok (.aload_n 0, 1) := by decide +kernel
theorem dL_isDesk_292 : decode cL_isDesk 292 = .ok (.invokevirtual 81, 3) := by decide +kernel
theorem dL_isDesk_295 : decode cL_isDesk 295 = .ok (.lload 7, 2) := by decide +kernel
theorem dL_isDesk_297 : decode cL_isDesk 297 = .ok (.lcmp, 1) := by decide +kernel
theorem dL_isDesk_298 : decode cL_isDesk 298 = .ok (.ifCond .ne 7, 3) := by decide +kernel
theorem dL_isDesk_301 : decode cL_isDesk 301 = .ok (.iconst 1, 1) := by decide +kernel
theorem dL_isDesk_302 : decode cL_isDesk 302 = .ok (.goto 4, 3) := by decide +kernel
theorem dL_isDesk_305 : decode cL_isDesk 305 = .ok (.iconst 0, 1) := by decide +kernel
theorem dL_isDesk_306 : decode cL_isDesk 306 = .ok (.ireturn, 1) := by decide +kernel
