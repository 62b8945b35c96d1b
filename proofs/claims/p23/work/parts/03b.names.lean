theorem dX0_init_0 : decode cX0_init 0 = .ok (.aload_n 0, 1) := by decide +kernel
theorem dX0_init_1 : decode cX0_init 1 = .ok (.invokespecial 3, 3) := by decide +kernel
theorem dX0_init_4 : decode cX0_init 4 = .ok (.aload_n 0, 1) := by decide +kernel
theorem dX0_init_5 : decode cX0_init 5 = .ok (.bipush 20, 2) := by decide +kernel
theorem dX0_init_7 : decode cX0_init 7 = .ok (.anewarray 9, 3) := by decide +kernel
theorem dX0_init_10 : decode cX0_init 10 = .ok (.putfield 11, 3) := by decide +kernel
theorem dX0_init_13 : decode cX0_init 13 = .ok (.aload_n 0, 1) := by decide +kernel
theorem dX0_init_14 : decode cX0_init 14 = .ok (.iload_n 1, 1) := by decide +kernel
theorem dX0_init_15 : decode cX0_init 15 = .ok (.putfield 17, 3) := by decide +kernel
theorem dX0_init_18 : decode cX0_init 18 = .ok (.aload_n 0, 1) := by decide +kernel
theorem dX0_init_19 : decode cX0_init 19 = .ok (.iload_n 2, 1) := by decide +kernel
theorem dX0_init_20 : decode cX0_init 20 = .ok (.putfield 21, 3) := by decide +kernel
theorem dX0_init_23 : decode cX0_init 23 = .ok (.return_, 1) := by decide +kernel
set_option maxRecDepth 20000 in
theorem ggX0_enter_X2_taxWith : GoodIn wsX0_enter wsX2_taxWith := goodIn_r _ [6, 7, 8, 9, 10, 11, 12, 13, 14, 15, 16, 17, 18, 19, 20, 21, 22, 23, 24, 25, 26, 27, 28, 29, 30, 31, 32, 33, 34, 35, 36, 37, 38, 39, 43, 44, 45, 46, 47, 48, 49, 50, 51] (by decide +kernel) (by decide +kernel)
set_option maxRecDepth 20000 in
theorem gX0_enter_X2_taxWith_n24 : GoodIn wsX0_enter (wsX2_taxWith) := ggX0_enter_X2_taxWith
theorem dX0_enter_0 : decode cX0_enter 0 = .ok (.iload_n 1, 1) := by decide +kernel
theorem dX0_enter_1 : decode cX0_enter 1 = .ok (.ifCond .lt 31, 3) := by decide +kernel
theorem dX0_enter_4 : decode cX0_enter 4 = .ok (.iload_n 1, 1) := by decide +kernel
theorem dX0_enter_5 : decode cX0_enter 5 = .ok (.aload_n 0, 1) := by decide +kernel
theorem dX0_enter_6 : decode cX0_enter 6 = .ok (.getfield 11, 3) := by decide +kernel
theorem dX0_enter_9 : decode cX0_enter 9 = .ok (.arraylength, 1) := by decide +kernel
theorem dX0_enter_10 : decode cX0_enter 10 = .ok (.if_icmp .ge 22, 3) := by decide +kernel
theorem dX0_enter_13 : decode cX0_enter 13 = .ok (.aload_n 2, 1) := by decide +kernel
theorem dX0_enter_14 : decode cX0_enter 14 = .ok (.aload_n 2, 1) := by decide +kernel
theorem dX0_enter_15 : decode cX0_enter 15 = .ok (.aload_n 0, 1) := by decide +kernel
theorem dX0_enter_16 : decode cX0_enter 16 = .ok (.getfield 21, 3) := by decide +kernel
theorem dX0_enter_19 : decode cX0_enter 19 = .ok (.invokevirtual 24, 3) := by decide +kernel
theorem dX0_enter_22 : decode cX0_enter 22 = .ok (.putfield 28, 3) := by decide +kernel
theorem dX0_enter_25 : decode cX0_enter 25 = .ok (.aload_n 0, 1) := by decide +kernel
theorem dX0_enter_26 : decode cX0_enter 26 = .ok (.getfield 11, 3) := by decide +kernel
theorem dX0_enter_29 : decode cX0_enter 29 = .ok (.iload_n 1, 1) := by decide +kernel
theorem dX0_enter_30 : decode cX0_enter 30 = .ok (.aload_n 2, 1) := by decide +kernel
theorem dX0_enter_31 : decode cX0_enter 31 = .ok (.aastore, 1) := by decide +kernel
theorem dX0_enter_32 : decode cX0_enter 32 = .ok (.return_, 1) := by decide +kernel
theorem dX0_paymentTo_0 : decode cX0_paymentTo 0 = .ok (.iload_n 1, 1) := by decide +kernel
theorem dX0_paymentTo_1 : decode cX0_paymentTo 1 = .ok (.ifCond .lt 21, 3) := by decide +kernel
theorem dX0_paymentTo_4 : decode cX0_paymentTo 4 = .ok (.iload_n 1, 1) := by decide +kernel
theorem dX0_paymentTo_5 : decode cX0_paymentTo 5 = .ok (.aload_n 0, 1) := by decide +kernel
theorem dX0_paymentTo_6 : decode cX0_paymentTo 6 = .ok (.getfield 11, 3) := by decide +kernel
theorem dX0_paymentTo_9 : decode cX0_paymentTo 9 = .ok (.arraylength, 1) := by decide +kernel
theorem dX0_paymentTo_10 : decode cX0_paymentTo 10 = .ok (.if_icmp .ge 12, 3) := by decide +kernel
theorem dX0_paymentTo_13 : decode cX0_paymentTo 13 = .ok (.aload_n 0, 1) := by decide +kernel
theorem dX0_paymentTo_14 : decode cX0_paymentTo 14 = .ok (.getfield 11, 3) := by decide +kernel
theorem dX0_paymentTo_17 : decode cX0_paymentTo 17 = .ok (.iload_n 1, 1) := by decide +kernel
theorem dX0_paymentTo_18 : decode cX0_paymentTo 18 = .ok (.aaload, 1) := by decide +kernel
theorem dX0_paymentTo_19 : decode cX0_paymentTo 19 = .ok (.goto 4, 3) := by decide +kernel
theorem dX0_paymentTo_22 : decode cX0_paymentTo 22 = .ok (.aconst_null, 1) := by decide +kernel
theorem dX0_paymentTo_23 : decode cX0_paymentTo 23 = .ok (.areturn, 1) := by decide +kernel
theorem dX0_heldOfAll_0 : decode cX0_heldOfAll 0 = .ok (.lconst 0, 1) := by decide +kernel
theorem dX0_heldOfAll_1 : decode cX0_heldOfAll 1 = .ok (.lstore_n 1, 1) := by decide +kernel
theorem dX0_heldOfAll_2 : decode cX0_heldOfAll 2 = .ok (.iconst 0, 1) := by decide +kernel
theorem dX0_heldOfAll_3 : decode cX0_heldOfAll 3 = .ok (.istore_n 3, 1) := by decide +kernel
theorem dX0_heldOfAll_4 : decode cX0_heldOfAll 4 = .ok (.iload_n 3, 1) := by decide +kernel
theorem dX0_heldOfAll_5 : decode cX0_heldOfAll 5 = .ok (.aload_n 0, 1) := by decide +kernel
theorem dX0_heldOfAll_6 : decode cX0_heldOfAll 6 = .ok (.getfield 11, 3) := by decide +kernel
theorem dX0_heldOfAll_9 : decode cX0_heldOfAll 9 = .ok (.arraylength, 1) := by decide +kernel
theorem dX0_heldOfAll_10 : decode cX0_heldOfAll 10 = .ok (.if_icmp .ge 31, 3) := by decide +kernel
theorem dX0_heldOfAll_13 : decode cX0_heldOfAll 13 = .ok (.aload_n 0, 1) := by decide +kernel
theorem dX0_heldOfAll_14 : decode cX0_heldOfAll 14 = .ok (.getfield 11, 3) := by decide +kernel
theorem dX0_heldOfAll_17 : decode cX0_heldOfAll 17 = .ok (.iload_n 3, 1) := by decide +kernel
theorem dX0_heldOfAll_18 : decode cX0_heldOfAll 18 = .ok (.aaload, 1) := by decide +kernel
theorem dX0_heldOfAll_19 : decode cX0_heldOfAll 19 = .ok (.astore 4, 2) := by decide +kernel
theorem dX0_heldOfAll_21 : decode cX0_heldOfAll 21 = .ok (.aload 4, 2) := by decide +kernel
theorem dX0_heldOfAll_23 : decode cX0_heldOfAll 23 = .ok (.ifnull 12, 3) := by decide +kernel
theorem dX0_heldOfAll_26 : decode cX0_heldOfAll 26 = .ok (.lload_n 1, 1) := by decide +kernel
theorem dX0_heldOfAll_27 : decode cX0_heldOfAll 27 = .ok (.aload 4, 2) := by decide +kernel
theorem dX0_heldOfAll_29 : decode cX0_heldOfAll 29 = .ok (.getfield 28, 3) := by decide +kernel
theorem dX0_heldOfAll_32 : decode cX0_heldOfAll 32 = .ok (.i2l, 1) := by decide +kernel
theorem dX0_heldOfAll_33 : decode cX0_heldOfAll 33 = .ok (.ladd, 1) := by decide +kernel
theorem dX0_heldOfAll_34 : decode cX0_heldOfAll 34 = .ok (.lstore_n 1, 1) := by decide +kernel
theorem dX0_heldOfAll_35 : decode cX0_heldOfAll 35 = .ok (.iinc 3 1, 3) := by decide +kernel
theorem dX0_heldOfAll_38 : decode cX0_heldOfAll 38 = .ok (.goto (-34), 3) := by decide +kernel
theorem dX0_heldOfAll_41 : decode cX0_heldOfAll 41 = .ok (.lload_n 1, 1) := by decide +kernel
theorem dX0_heldOfAll_42 : decode cX0_heldOfAll 42 = .ok (.lreturn, 1) := by decide +kernel
theorem dX1_init_0 : decode cX1_init 0 = .ok (.aload_n 0, 1) := by decide +kernel
theorem dX1_init_1 : decode cX1_init 1 = .ok (.invokespecial 3, 3) := by decide +kernel
theorem dX1_init_4 : decode cX1_init 4 = .ok (.aload_n 0, 1) := by decide +kernel
theorem dX1_init_5 : decode cX1_init 5 = .ok (.bipush 20, 2) := by decide +kernel
theorem dX1_init_7 : decode cX1_init 7 = .ok (.newarray .int, 2) := by decide +kernel
theorem dX1_init_9 : decode cX1_init 9 = .ok (.putfield 9, 3) := by decide +kernel
theorem dX1_init_12 : decode cX1_init 12 = .ok (.aload_n 0, 1) := by decide +kernel
theorem dX1_init_13 : decode cX1_init 13 = .ok (.iconst 0, 1) := by decide +kernel
theorem dX1_init_14 : decode cX1_init 14 = .ok (.putfield 15, 3) := by decide +kernel
theorem dX1_init_17 : decode cX1_init 17 = .ok (.aload_n 0, 1) := by decide +kernel
theorem dX1_init_18 : decode cX1_init 18 = .ok (.iconst (-1), 1) := by decide +kernel
theorem dX1_init_19 : decode cX1_init 19 = .ok (.putfield 19, 3) := by decide +kernel
theorem dX1_init_22 : decode cX1_init 22 = .ok (.aload_n 0, 1) := by decide +kernel
theorem dX1_init_23 : decode cX1_init 23 = .ok (.iconst (-1), 1) := by decide +kernel
theorem dX1_init_24 : decode cX1_init 24 = .ok (.putfield 22, 3) := by decide +kernel
theorem dX1_init_27 : decode cX1_init 27 = .ok (.aload_n 0, 1) := by decide +kernel
theorem dX1_init_28 : decode cX1_init 28 = .ok (.iload_n 1, 1) := by decide +kernel
theorem dX1_init_29 : decode cX1_init 29 = .ok (.putfield 25, 3) := by decide +kernel
theorem dX1_init_32 : decode cX1_init 32 = .ok (.aload_n 0, 1) := by decide +kernel
theorem dX1_init_33 : decode cX1_init 33 = .ok (.iload_n 2, 1) := by decide +kernel
theorem dX1_init_34 : decode cX1_init 34 = .ok (.putfield 28, 3) := by decide +kernel
theorem dX1_init_37 : decode cX1_init 37 = .ok (.return_, 1) := by decide +kernel
theorem dX1_partsOf_0 : decode cX1_partsOf 0 = .ok (.iload_n 1, 1) := by decide +kernel
theorem dX1_partsOf_1 : decode cX1_partsOf 1 = .ok (.ifCond .lt 21, 3) := by decide +kernel
theorem dX1_partsOf_4 : decode cX1_partsOf 4 = .ok (.iload_n 1, 1) := by decide +kernel
theorem dX1_partsOf_5 : decode cX1_partsOf 5 = .ok (.aload_n 0, 1) := by decide +kernel
theorem dX1_partsOf_6 : decode cX1_partsOf 6 = .ok (.getfield 9, 3) := by decide +kernel
theorem dX1_partsOf_9 : decode cX1_partsOf 9 = .ok (.arraylength, 1) := by decide +kernel
theorem dX1_partsOf_10 : decode cX1_partsOf 10 = .ok (.if_icmp .ge 12, 3) := by decide +kernel
theorem dX1_partsOf_13 : decode cX1_partsOf 13 = .ok (.aload_n 0, 1) := by decide +kernel
theorem dX1_partsOf_14 : decode cX1_partsOf 14 = .ok (.getfield 9, 3) := by decide +kernel
theorem dX1_partsOf_17 : decode cX1_partsOf 17 = .ok (.iload_n 1, 1) := by decide +kernel
theorem dX1_partsOf_18 : decode cX1_partsOf 18 = .ok (.iaload, 1) := by decide +kernel
theorem dX1_partsOf_19 : decode cX1_partsOf 19 = .ok (.goto 4, 3) := by decide +kernel
theorem dX1_partsOf_22 : decode cX1_partsOf 22 = .ok (.iconst 0, 1) := by decide +kernel
theorem dX1_partsOf_23 : decode cX1_partsOf 23 = .ok (.ireturn, 1) := by decide +kernel
theorem dX1_changeParts_0 : decode cX1_changeParts 0 = .ok (.iload_n 1, 1) := by decide +kernel
theorem dX1_changeParts_1 : decode cX1_changeParts 1 = .ok (.ifCond .lt 19, 3) := by decide +kernel
theorem dX1_changeParts_4 : decode cX1_changeParts 4 = .ok (.iload_n 1, 1) := by decide +kernel
theorem dX1_changeParts_5 : decode cX1_changeParts 5 = .ok (.aload_n 0, 1) := by decide +kernel
theorem dX1_changeParts_6 : decode cX1_changeParts 6 = .ok (.getfield 9, 3) := by decide +kernel
theorem dX1_changeParts_9 : decode cX1_changeParts 9 = .ok (.arraylength, 1) := by decide +kernel
theorem dX1_changeParts_10 : decode cX1_changeParts 10 = .ok (.if_icmp .ge 10, 3) := by decide +kernel
theorem dX1_changeParts_13 : decode cX1_changeParts 13 = .ok (.aload_n 0, 1) := by decide +kernel
theorem dX1_changeParts_14 : decode cX1_changeParts 14 = .ok (.getfield 9, 3) := by decide +kernel
theorem dX1_changeParts_17 : decode cX1_changeParts 17 = .ok (.iload_n 1, 1) := by decide +kernel
theorem dX1_changeParts_18 : decode cX1_changeParts 18 = .ok (.iload_n 2, 1) := by decide +kernel
theorem dX1_changeParts_19 : decode cX1_changeParts 19 = .ok (.iastore, 1) := by decide +kernel
theorem dX1_changeParts_20 : decode cX1_changeParts 20 = .ok (.return_, 1) := by decide +kernel
theorem dX1_partsInAll_0 : decode cX1_partsInAll 0 = .ok (.iconst 0, 1) := by decide +kernel
theorem dX1_partsInAll_1 : decode cX1_partsInAll 1 = .ok (.istore_n 1, 1) := by decide +kernel
theorem dX1_partsInAll_2 : decode cX1_partsInAll 2 = .ok (.iconst 0, 1) := by decide +kernel
theorem dX1_partsInAll_3 : decode cX1_partsInAll 3 = .ok (.istore_n 2, 1) := by decide +kernel
theorem dX1_partsInAll_4 : decode cX1_partsInAll 4 = .ok (.iload_n 2, 1) := by decide +kernel
theorem dX1_partsInAll_5 : decode cX1_partsInAll 5 = .ok (.aload_n 0, 1) := by decide +kernel
theorem dX1_partsInAll_6 : decode cX1_partsInAll 6 = .ok (.getfield 9, 3) := by decide +kernel
theorem dX1_partsInAll_9 : decode cX1_partsInAll 9 = .ok (.arraylength, 1) := by decide +kernel
theorem dX1_partsInAll_10 : decode cX1_partsInAll 10 = .ok (.if_icmp .ge 18, 3) := by decide +kernel
theorem dX1_partsInAll_13 : decode cX1_partsInAll 13 = .ok (.iload_n 1, 1) := by decide +kernel
theorem dX1_partsInAll_14 : decode cX1_partsInAll 14 = .ok (.aload_n 0, 1) := by decide +kernel
theorem dX1_partsInAll_15 : decode cX1_partsInAll 15 = .ok (.getfield 9, 3) := by decide +kernel
theorem dX1_partsInAll_18 : decode cX1_partsInAll 18 = .ok (.iload_n 2, 1) := by decide +kernel
theorem dX1_partsInAll_19 : decode cX1_partsInAll 19 = .ok (.iaload, 1) := by decide +kernel
theorem dX1_partsInAll_20 : decode cX1_partsInAll 20 = .ok (.iadd, 1) := by decide +kernel
theorem dX1_partsInAll_21 : decode cX1_partsInAll 21 = .ok (.istore_n 1, 1) := by decide +kernel
theorem dX1_partsInAll_22 : decode cX1_partsInAll 22 = .ok (.iinc 2 1, 3) := by decide +kernel
theorem dX1_partsInAll_25 : decode cX1_partsInAll 25 = .ok (.goto (-21), 3) := by decide +kernel
theorem dX1_partsInAll_28 : decode cX1_partsInAll 28 = .ok (.iload_n 1, 1) := by decide +kernel
theorem dX1_partsInAll_29 : decode cX1_partsInAll 29 = .ok (.ireturn, 1) := by decide +kernel
theorem dX1_hasFormOn_0 : decode cX1_hasFormOn 0 = .ok (.iload_n 1, 1) := by decide +kernel
theorem dX1_hasFormOn_1 : decode cX1_hasFormOn 1 = .ok (.aload_n 0, 1) := by decide +kernel
theorem dX1_hasFormOn_2 : decode cX1_hasFormOn 2 = .ok (.getfield 19, 3) := by decide +kernel
theorem dX1_hasFormOn_5 : decode cX1_hasFormOn 5 = .ok (.if_icmp .gt 7, 3) := by decide +kernel
theorem dX1_hasFormOn_8 : decode cX1_hasFormOn 8 = .ok (.iconst 1, 1) := by decide +kernel
theorem dX1_hasFormOn_9 : decode cX1_hasFormOn 9 = .ok (.goto 4, 3) := by decide +kernel
theorem dX1_hasFormOn_12 : decode cX1_hasFormOn 12 = .ok (.iconst 0, 1) := by decide +kernel
theorem dX1_hasFormOn_13 : decode cX1_hasFormOn 13 = .ok (.ireturn, 1) := by decide +kernel
theorem dX1_endDay_0 : decode cX1_endDay 0 = .ok (.aload_n 0, 1) := by decide +kernel
theorem dX1_endDay_1 : decode cX1_endDay 1 = .ok (.getfield 15, 3) := by decide +kernel
theorem dX1_endDay_4 : decode cX1_endDay 4 = .ok (.ldc 31, 2) := by decide +kernel
theorem dX1_endDay_6 : decode cX1_endDay 6 = .ok (.if_icmp .ge 11, 3) := by decide +kernel
theorem dX1_endDay_9 : decode cX1_endDay 9 = .ok (.aload_n 0, 1) := by decide +kernel
theorem dX1_endDay_10 : decode cX1_endDay 10 = .ok (.iconst (-1), 1) := by decide +kernel
theorem dX1_endDay_11 : decode cX1_endDay 11 = .ok (.putfield 22, 3) := by decide +kernel
theorem dX1_endDay_14 : decode cX1_endDay 14 = .ok (.goto 16, 3) := by decide +kernel
theorem dX1_endDay_17 : decode cX1_endDay 17 = .ok (.aload_n 0, 1) := by decide +kernel
theorem dX1_endDay_18 : decode cX1_endDay 18 = .ok (.getfield 22, 3) := by decide +kernel
theorem dX1_endDay_21 : decode cX1_endDay 21 = .ok (.iconst (-1), 1) := by decide +kernel
theorem dX1_endDay_22 : decode cX1_endDay 22 = .ok (.if_icmp .ne 8, 3) := by decide +kernel
theorem dX1_endDay_25 : decode cX1_endDay 25 = .ok (.aload_n 0, 1) := by decide +kernel
theorem dX1_endDay_26 : decode cX1_endDay 26 = .ok (.iload_n 1, 1) := by decide +kernel
theorem dX1_endDay_27 : decode cX1_endDay 27 = .ok (.putfield 22, 3) := by decide +kernel
theorem dX1_endDay_30 : decode cX1_endDay 30 = .ok (.return_, 1) := by decide +kernel
theorem dX1_hasLargeHoldingOn_0 : decode cX1_hasLargeHoldingOn 0 = .ok (.aload_n 0, 1) := by decide +kernel
theorem dX1_hasLargeHoldingOn_1 : decode cX1_hasLargeHoldingOn 1 = .ok (.getfield 25, 3) := by decide +kernel
theorem dX1_hasLargeHoldingOn_4 : decode cX1_hasLargeHoldingOn 4 = .ok (.iconst 1, 1) := by decide +kernel
theorem dX1_hasLargeHoldingOn_5 : decode cX1_hasLargeHoldingOn 5 = .ok (.if_icmp .ne 36, 3) := by decide +kernel
theorem dX1_hasLargeHoldingOn_8 : decode cX1_hasLargeHoldingOn 8 = .ok (.aload_n 0, 1) := by decide +kernel
theorem dX1_hasLargeHoldingOn_9 : decode cX1_hasLargeHoldingOn 9 = .ok (.getfield 15, 3) := by decide +kernel
theorem dX1_hasLargeHoldingOn_12 : decode cX1_hasLargeHoldingOn 12 = .ok (.ldc 31, 2) := by decide +kernel
theorem dX1_hasLargeHoldingOn_14 : decode cX1_hasLargeHoldingOn 14 = .ok (.if_icmp .lt 27, 3) := by decide +kernel
theorem dX1_hasLargeHoldingOn_17 : decode cX1_hasLargeHoldingOn 17 = .ok (.aload_n 0, 1) := by decide +kernel
theorem dX1_hasLargeHoldingOn_18 : decode cX1_hasLargeHoldingOn 18 = .ok (.getfield 22, 3) := by decide +kernel
theorem dX1_hasLargeHoldingOn_21 : decode cX1_hasLargeHoldingOn 21 = .ok (.iconst (-1), 1) := by decide +kernel
theorem dX1_hasLargeHoldingOn_22 : decode cX1_hasLargeHoldingOn 22 = .ok (.if_icmp .eq 19, 3) := by decide +kernel
theorem dX1_hasLargeHoldingOn_25 : decode cX1_hasLargeHoldingOn 25 = .ok (.iload_n 1, 1) := by decide +kernel
theorem dX1_hasLargeHoldingOn_26 : decode cX1_hasLargeHoldingOn 26 = .ok (.aload_n 0, 1) := by decide +kernel
theorem dX1_hasLargeHoldingOn_27 : decode cX1_hasLargeHoldingOn 27 = .ok (.getfield 22, 3) := by decide +kernel
theorem dX1_hasLargeHoldingOn_30 : decode cX1_hasLargeHoldingOn 30 = .ok (.isub, 1) := by decide +kernel
theorem dX1_hasLargeHoldingOn_31 : decode cX1_hasLargeHoldingOn 31 = .ok (.sipush 365, 3) := by decide +kernel
theorem dX1_hasLargeHoldingOn_34 : decode cX1_hasLargeHoldingOn 34 = .ok (.if_icmp .lt 7, 3) := by decide +kernel
theorem dX1_hasLargeHoldingOn_37 : decode cX1_hasLargeHoldingOn 37 = .ok (.iconst 1, 1) := by decide +kernel
theorem dX1_hasLargeHoldingOn_38 : decode cX1_hasLargeHoldingOn 38 = .ok (.goto 4, 3) := by decide +kernel
theorem dX1_hasLargeHoldingOn_41 : decode cX1_hasLargeHoldingOn 41 = .ok (.iconst 0, 1) := by decide +kernel
theorem dX1_hasLargeHoldingOn_42 : decode cX1_hasLargeHoldingOn 42 = .ok (.ireturn, 1) := by decide +kernel
set_option maxRecDepth 20000 in
theorem ggX2_init_Jx4a65c_init_da8c8 : GoodIn wsX2_init wsJx4a65c_init_da8c8 := goodIn_r _ [12, 13, 14, 15, 16, 17, 18, 19, 20, 21, 22, 23, 24, 2, 3, 25, 26, 27] (by decide +kernel) (by decide +kernel)
set_option maxRecDepth 20000 in
theorem gX2_init_Jx4a65c_init_da8c8 : GoodIn wsX2_init (wsJx4a65c_init_da8c8) := ggX2_init_Jx4a65c_init_da8c8
theorem dX2_init_0 : decode cX2_init 0 = .ok (.aload_n 0, 1) := by decide +kernel
theorem dX2_init_1 : decode cX2_init 1 = .ok (.invokespecial 1, 3) := by decide +kernel
theorem dX2_init_4 : decode cX2_init 4 = .ok (.aload_n 0, 1) := by decide +kernel
theorem dX2_init_5 : decode cX2_init 5 = .ok (.new 7, 3) := by decide +kernel
theorem dX2_init_8 : decode cX2_init 8 = .ok (.dup, 1) := by decide +kernel
theorem dX2_init_9 : decode cX2_init 9 = .ok (.invokespecial 9, 3) := by decide +kernel
theorem dX2_init_12 : decode cX2_init 12 = .ok (.putfield 10, 3) := by decide +kernel
theorem dX2_init_15 : decode cX2_init 15 = .ok (.aload_n 0, 1) := by decide +kernel
theorem dX2_init_16 : decode cX2_init 16 = .ok (.iconst 0, 1) := by decide +kernel
theorem dX2_init_17 : decode cX2_init 17 = .ok (.putfield 16, 3) := by decide +kernel
theorem dX2_init_20 : decode cX2_init 20 = .ok (.aload_n 0, 1) := by decide +kernel
theorem dX2_init_21 : decode cX2_init 21 = .ok (.iload_n 1, 1) := by decide +kernel
theorem dX2_init_22 : decode cX2_init 22 = .ok (.putfield 20, 3) := by decide +kernel
theorem dX2_init_25 : decode cX2_init 25 = .ok (.return_, 1) := by decide +kernel
set_option maxRecDepth 20000 in
theorem ggX2_add_Jx4a65c_add_9ea2d : GoodIn wsX2_add wsJx4a65c_add_9ea2d := goodIn_r _ [6, 7, 8, 9, 10, 11, 12, 13, 5, 14, 15, 16, 17, 18, 19, 20, 21, 22, 23, 24, 25, 26, 27, 28, 29, 30, 31, 32, 33, 34, 35, 36, 37, 38, 39, 40, 41, 42, 43, 44, 45, 46, 47, 48, 49, 50, 51, 52, 53, 54, 55, 56, 57, 61, 62, 63] (by decide +kernel) (by decide +kernel)
set_option maxRecDepth 20000 in
theorem gX2_add_Jx4a65c_add_9ea2d : GoodIn wsX2_add (wsV RX2 23 RJx4a65c yJx4a65c_add_9ea2d wsJx4a65c_add_9ea2d) := goodIn_app (goodIn_of _ (by decide +kernel)) ggX2_add_Jx4a65c_add_9ea2d
theorem dX2_add_0 : decode cX2_add 0 = .ok (.aload_n 0, 1) := by decide +kernel
theorem dX2_add_1 : decode cX2_add 1 = .ok (.getfield 10, 3) := by decide +kernel
theorem dX2_add_4 : decode cX2_add 4 = .ok (.aload_n 1, 1) := by decide +kernel
theorem dX2_add_5 : decode cX2_add 5 = .ok (.invokevirtual 23, 3) := by decide +kernel
theorem dX2_add_8 : decode cX2_add 8 = .ok (.pop, 1) := by decide +kernel
theorem dX2_add_9 : decode cX2_add 9 = .ok (.return_, 1) := by decide +kernel
set_option maxRecDepth 20000 in
theorem ggX2_taxWith_Jx4a65c_size_8abf5 : GoodIn wsX2_taxWith wsJx4a65c_size_8abf5 := goodIn_r _ [7, 8, 37, 38, 39] (by decide +kernel) (by decide +kernel)
set_option maxRecDepth 20000 in
theorem gX2_taxWith_Jx4a65c_size_8abf5 : GoodIn wsX2_taxWith (wsV RX2 27 RJx4a65c yJx4a65c_size_8abf5 wsJx4a65c_size_8abf5) := goodIn_app (goodIn_of _ (by decide +kernel)) ggX2_taxWith_Jx4a65c_size_8abf5
set_option maxRecDepth 20000 in
theorem ggX2_taxWith_Jx4a65c_get_915e3 : GoodIn wsX2_taxWith wsJx4a65c_get_915e3 := goodIn_r _ [12, 8, 13, 14, 15, 16, 17, 18, 19, 20, 21, 22, 23, 6, 24, 25, 37, 38, 39] (by decide +kernel) (by decide +kernel)
set_option maxRecDepth 20000 in
theorem gX2_taxWith_Jx4a65c_get_915e3 : GoodIn wsX2_taxWith (wsV RX2 31 RJx4a65c yJx4a65c_get_915e3 wsJx4a65c_get_915e3) := goodIn_app (goodIn_of _ (by decide +kernel)) ggX2_taxWith_Jx4a65c_get_915e3
set_option maxRecDepth 20000 in
theorem ggX2_taxWith_X3_tax : GoodIn wsX2_taxWith wsX3_tax := goodIn_r _ [29, 30, 31, 32, 33, 40, 41, 42] (by decide +kernel) (by decide +kernel)
set_option maxRecDepth 20000 in
theorem gX2_taxWith_X3_tax_n37 : GoodIn wsX2_taxWith (wsX3_tax) := ggX2_taxWith_X3_tax
theorem dX2_taxWith_0 : decode cX2_taxWith 0 = .ok (.iconst 0, 1) := by decide +kernel
theorem dX2_taxWith_1 : decode cX2_taxWith 1 = .ok (.istore_n 2, 1) := by decide +kernel
theorem dX2_taxWith_2 : decode cX2_taxWith 2 = .ok (.iconst 0, 1) := by decide +kernel
theorem dX2_taxWith_3 : decode cX2_taxWith 3 = .ok (.istore_n 3, 1) := by decide +kernel
theorem dX2_taxWith_4 : decode cX2_taxWith 4 = .ok (.iload_n 3, 1) := by decide +kernel
theorem dX2_taxWith_5 : decode cX2_taxWith 5 = .ok (.aload_n 0, 1) := by decide +kernel
theorem dX2_taxWith_6 : decode cX2_taxWith 6 = .ok (.getfield 10, 3) := by decide +kernel
theorem dX2_taxWith_9 : decode cX2_taxWith 9 = .ok (.invokevirtual 27, 3) := by decide +kernel
theorem dX2_taxWith_12 : decode cX2_taxWith 12 = .ok (.if_icmp .ge 27, 3) := by decide +kernel
theorem dX2_taxWith_15 : decode cX2_taxWith 15 = .ok (.iload_n 2, 1) := by decide +kernel
theorem dX2_taxWith_16 : decode cX2_taxWith 16 = .ok (.aload_n 0, 1) := by decide +kernel
theorem dX2_taxWith_17 : decode cX2_taxWith 17 = .ok (.getfield 10, 3) := by decide +kernel
theorem dX2_taxWith_20 : decode cX2_taxWith 20 = .ok (.iload_n 3, 1) := by decide +kernel
theorem dX2_taxWith_21 : decode cX2_taxWith 21 = .ok (.invokevirtual 31, 3) := by decide +kernel
theorem dX2_taxWith_24 : decode cX2_taxWith 24 = .ok (.checkcast 35, 3) := by decide +kernel
theorem dX2_taxWith_27 : decode cX2_taxWith 27 = .ok (.iload_n 1, 1) := by decide +kernel
theorem dX2_taxWith_28 : decode cX2_taxWith 28 = .ok (.invokevirtual 37, 3) := by decide +kernel
theorem dX2_taxWith_31 : decode cX2_taxWith 31 = .ok (.iadd, 1) := by decide +kernel
theorem dX2_taxWith_32 : decode cX2_taxWith 32 = .ok (.istore_n 2, 1) := by decide +kernel
theorem dX2_taxWith_33 : decode cX2_taxWith 33 = .ok (.iinc 3 1, 3) := by decide +kernel
theorem dX2_taxWith_36 : decode cX2_taxWith 36 = .ok (.goto (-32), 3) := by decide +kernel
theorem dX2_taxWith_39 : decode cX2_taxWith 39 = .ok (.iload_n 2, 1) := by decide +kernel
theorem dX2_taxWith_40 : decode cX2_taxWith 40 = .ok (.ireturn, 1) := by decide +kernel
theorem dX2_lowerTo_0 : decode cX2_lowerTo 0 = .ok (.aload_n 0, 1) := by decide +kernel
theorem dX2_lowerTo_1 : decode cX2_lowerTo 1 = .ok (.getfield 16, 3) := by decide +kernel
theorem dX2_lowerTo_4 : decode cX2_lowerTo 4 = .ok (.iload_n 1, 1) := by decide +kernel
theorem dX2_lowerTo_5 : decode cX2_lowerTo 5 = .ok (.isub, 1) := by decide +kernel
theorem dX2_lowerTo_6 : decode cX2_lowerTo 6 = .ok (.iconst 0, 1) := by decide +kernel
theorem dX2_lowerTo_7 : decode cX2_lowerTo 7 = .ok (.invokestatic 41, 3) := by decide +kernel
theorem dX2_lowerTo_10 : decode cX2_lowerTo 10 = .ok (.istore_n 2, 1) := by decide +kernel
theorem dX2_lowerTo_11 : decode cX2_lowerTo 11 = .ok (.aload_n 0, 1) := by decide +kernel
theorem dX2_lowerTo_12 : decode cX2_lowerTo 12 = .ok (.dup, 1) := by decide +kernel
theorem dX2_lowerTo_13 : decode cX2_lowerTo 13 = .ok (.getfield 16, 3) := by decide +kernel
theorem dX2_lowerTo_16 : decode cX2_lowerTo 16 = .ok (.iload_n 2, 1) := by decide +kernel
theorem dX2_lowerTo_17 : decode cX2_lowerTo 17 = .ok (.isub, 1) := by decide +kernel
theorem dX2_lowerTo_18 : decode cX2_lowerTo 18 = .ok (.putfield 16, 3) := by decide +kernel
theorem dX2_lowerTo_21 : decode cX2_lowerTo 21 = .ok (.iload_n 2, 1) := by decide +kernel
theorem dX2_lowerTo_22 : decode cX2_lowerTo 22 = .ok (.ireturn, 1) := by decide +kernel
theorem dX3_init_0 : decode cX3_init 0 = .ok (.aload_n 0, 1) := by decide +kernel
theorem dX3_init_1 : decode cX3_init 1 = .ok (.invokespecial 3, 3) := by decide +kernel
theorem dX3_init_4 : decode cX3_init 4 = .ok (.aload_n 0, 1) := by decide +kernel
theorem dX3_init_5 : decode cX3_init 5 = .ok (.iload_n 1, 1) := by decide +kernel
theorem dX3_init_6 : decode cX3_init 6 = .ok (.putfield 9, 3) := by decide +kernel
theorem dX3_init_9 : decode cX3_init 9 = .ok (.aload_n 0, 1) := by decide +kernel
theorem dX3_init_10 : decode cX3_init 10 = .ok (.iload_n 2, 1) := by decide +kernel
theorem dX3_init_11 : decode cX3_init 11 = .ok (.putfield 15, 3) := by decide +kernel
theorem dX3_init_14 : decode cX3_init 14 = .ok (.aload_n 0, 1) := by decide +kernel
theorem dX3_init_15 : decode cX3_init 15 = .ok (.iload_n 3, 1) := by decide +kernel
theorem dX3_init_16 : decode cX3_init 16 = .ok (.putfield 18, 3) := by decide +kernel
theorem dX3_init_19 : decode cX3_init 19 = .ok (.return_, 1) := by decide +kernel
theorem dX3_tax_0 : decode cX3_tax 0 = .ok (.aload_n 0, 1) := by decide +kernel
theorem dX3_tax_1 : decode cX3_tax 1 = .ok (.getfield 18, 3) := by decide +kernel
theorem dX3_tax_4 : decode cX3_tax 4 = .ok (.iload_n 1, 1) := by decide +kernel
theorem dX3_tax_5 : decode cX3_tax 5 = .ok (.iand, 1) := by decide +kernel
theorem dX3_tax_6 : decode cX3_tax 6 = .ok (.aload_n 0, 1) := by decide +kernel
theorem dX3_tax_7 : decode cX3_tax 7 = .ok (.getfield 18, 3) := by decide +kernel
theorem dX3_tax_10 : decode cX3_tax 10 = .ok (.if_icmp .ne 10, 3) := by decide +kernel
theorem dX3_tax_13 : decode cX3_tax 13 = .ok (.aload_n 0, 1) := by decide +kernel
theorem dX3_tax_14 : decode cX3_tax 14 = .ok (.getfield 15, 3) := by decide +kernel
theorem dX3_tax_17 : decode cX3_tax 17 = .ok (.goto 5, 3) := by decide +kernel
theorem dX3_tax_20 : decode cX3_tax 20 = .ok (.bipush 30, 2) := by decide +kernel
theorem dX3_tax_22 : decode cX3_tax 22 = .ok (.istore_n 2, 1) := by decide +kernel
theorem dX3_tax_23 : decode cX3_tax 23 = .ok (.aload_n 0, 1) := by decide +kernel
theorem dX3_tax_24 : decode cX3_tax 24 = .ok (.getfield 9, 3) := by decide +kernel
theorem dX3_tax_27 : decode cX3_tax 27 = .ok (.i2l, 1) := by decide +kernel
theorem dX3_tax_28 : decode cX3_tax 28 = .ok (.iload_n 2, 1) := by decide +kernel
theorem dX3_tax_29 : decode cX3_tax 29 = .ok (.i2l, 1) := by decide +kernel
theorem dX3_tax_30 : decode cX3_tax 30 = .ok (.lmul, 1) := by decide +kernel
theorem dX3_tax_31 : decode cX3_tax 31 = .ok (.ldc2_w 21, 3) := by decide +kernel
theorem dX3_tax_34 : decode cX3_tax 34 = .ok (.ldiv, 1) := by decide +kernel
theorem dX3_tax_35 : decode cX3_tax 35 = .ok (.l2i, 1) := by decide +kernel
theorem dX3_tax_36 : decode cX3_tax 36 = .ok (.ireturn, 1) := by decide +kernel
set_option maxRecDepth 20000 in
theorem ggX4_init_Jx4a65c_init_da8c8 : GoodIn wsX4_init wsJx4a65c_init_da8c8 := goodIn_r _ [16, 17, 18, 19, 20, 21, 22, 23, 24, 25, 26, 27, 28, 2, 3, 35, 36, 37] (by decide +kernel) (by decide +kernel)
set_option maxRecDepth 20000 in
theorem gX4_init_Jx4a65c_init_da8c8 : GoodIn wsX4_init (wsJx4a65c_init_da8c8) := ggX4_init_Jx4a65c_init_da8c8
theorem dX4_init_0 : decode cX4_init 0 = .ok (.aload_n 0, 1) := by decide +kernel
theorem dX4_init_1 : decode cX4_init 1 = .ok (.invokespecial 1, 3) := by decide +kernel
theorem dX4_init_4 : decode cX4_init 4 = .ok (.aload_n 0, 1) := by decide +kernel
theorem dX4_init_5 : decode cX4_init 5 = .ok (.bipush 6, 2) := by decide +kernel
theorem dX4_init_7 : decode cX4_init 7 = .ok (.newarray .int, 2) := by decide +kernel
theorem dX4_init_9 : decode cX4_init 9 = .ok (.putfield 9, 3) := by decide +kernel
theorem dX4_init_12 : decode cX4_init 12 = .ok (.aload_n 0, 1) := by decide +kernel
theorem dX4_init_13 : decode cX4_init 13 = .ok (.bipush 6, 2) := by decide +kernel
theorem dX4_init_15 : decode cX4_init 15 = .ok (.newarray .int, 2) := by decide +kernel
theorem dX4_init_17 : decode cX4_init 17 = .ok (.putfield 13, 3) := by decide +kernel
theorem dX4_init_20 : decode cX4_init 20 = .ok (.aload_n 0, 1) := by decide +kernel
theorem dX4_init_21 : decode cX4_init 21 = .ok (.new 16, 3) := by decide +kernel
theorem dX4_init_24 : decode cX4_init 24 = .ok (.dup, 1) := by decide +kernel
theorem dX4_init_25 : decode cX4_init 25 = .ok (.invokespecial 18, 3) := by decide +kernel
theorem dX4_init_28 : decode cX4_init 28 = .ok (.putfield 19, 3) := by decide +kernel
theorem dX4_init_31 : decode cX4_init 31 = .ok (.aload_n 0, 1) := by decide +kernel
theorem dX4_init_32 : decode cX4_init 32 = .ok (.new 16, 3) := by decide +kernel
theorem dX4_init_35 : decode cX4_init 35 = .ok (.dup, 1) := by decide +kernel
theorem dX4_init_36 : decode cX4_init 36 = .ok (.invokespecial 18, 3) := by decide +kernel
theorem dX4_init_39 : decode cX4_init 39 = .ok (.putfield 23, 3) := by decide +kernel
theorem dX4_init_42 : decode cX4_init 42 = .ok (.aload_n 0, 1) := by decide +kernel
theorem dX4_init_43 : decode cX4_init 43 = .ok (.iconst 0, 1) := by decide +kernel
theorem dX4_init_44 : decode cX4_init 44 = .ok (.putfield 26, 3) := by decide +kernel
theorem dX4_init_47 : decode cX4_init 47 = .ok (.aload_n 0, 1) := by decide +kernel
theorem dX4_init_48 : decode cX4_init 48 = .ok (.lconst 0, 1) := by decide +kernel
theorem dX4_init_49 : decode cX4_init 49 = .ok (.putfield 30, 3) := by decide +kernel
theorem dX4_init_52 : decode cX4_init 52 = .ok (.iconst 0, 1) := by decide +kernel
theorem dX4_init_53 : decode cX4_init 53 = .ok (.istore_n 1, 1) := by decide +kernel
theorem dX4_init_54 : decode cX4_init 54 = .ok (.iload_n 1, 1) := by decide +kernel
theorem dX4_init_55 : decode cX4_init 55 = .ok (.bipush 6, 2) := by decide +kernel
theorem dX4_init_57 : decode cX4_init 57 = .ok (.if_icmp .ge 25, 3) := by decide +kernel
theorem dX4_init_60 : decode cX4_init 60 = .ok (.aload_n 0, 1) := by decide +kernel
theorem dX4_init_61 : decode cX4_init 61 = .ok (.getfield 9, 3) := by decide +kernel
theorem dX4_init_64 : decode cX4_init 64 = .ok (.iload_n 1, 1) := by decide +kernel
theorem dX4_init_65 : decode cX4_init 65 = .ok (.bipush 30, 2) := by decide +kernel
theorem dX4_init_67 : decode cX4_init 67 = .ok (.iastore, 1) := by decide +kernel
theorem dX4_init_68 : decode cX4_init 68 = .ok (.aload_n 0, 1) := by decide +kernel
theorem dX4_init_69 : decode cX4_init 69 = .ok (.getfield 13, 3) := by decide +kernel
theorem dX4_init_72 : decode cX4_init 72 = .ok (.iload_n 1, 1) := by decide +kernel
theorem dX4_init_73 : decode cX4_init 73 = .ok (.bipush 30, 2) := by decide +kernel
theorem dX4_init_75 : decode cX4_init 75 = .ok (.iastore, 1) := by decide +kernel
theorem dX4_init_76 : decode cX4_init 76 = .ok (.iinc 1 1, 3) := by decide +kernel
theorem dX4_init_79 : decode cX4_init 79 = .ok (.goto (-25), 3) := by decide +kernel
theorem dX4_init_82 : decode cX4_init 82 = .ok (.return_, 1) := by decide +kernel
set_option maxRecDepth 20000 in
theorem ggX4_setTreaty_X4_isLand : GoodIn wsX4_setTreaty wsX4_isLand := goodIn_r _ [8, 9, 10, 7, 11] (by decide +kernel) (by decide +kernel)
set_option maxRecDepth 20000 in
theorem gX4_setTreaty_X4_isLand : GoodIn wsX4_setTreaty (va_wsS RX4 34 yX4_isLand wsX4_isLand) := goodIn_app (goodIn_of _ (by decide +kernel)) ggX4_setTreaty_X4_isLand
set_option maxRecDepth 20000 in
theorem ggX4_setTreaty_X4_isWithin : GoodIn wsX4_setTreaty wsX4_isWithin := goodIn_r _ [11] (by decide +kernel) (by decide +kernel)
set_option maxRecDepth 20000 in
theorem gX4_setTreaty_X4_isWithin : GoodIn wsX4_setTreaty (va_wsS RX4 38 yX4_isWithin wsX4_isWithin) := goodIn_app (goodIn_of _ (by decide +kernel)) ggX4_setTreaty_X4_isWithin
theorem dX4_setTreaty_0 : decode cX4_setTreaty 0 = .ok (.iload_n 1, 1) := by decide +kernel
theorem dX4_setTreaty_1 : decode cX4_setTreaty 1 = .ok (.invokestatic 34, 3) := by decide +kernel
theorem dX4_setTreaty_4 : decode cX4_setTreaty 4 = .ok (.ifCond .eq 23, 3) := by decide +kernel
theorem dX4_setTreaty_7 : decode cX4_setTreaty 7 = .ok (.iload_n 2, 1) := by decide +kernel
theorem dX4_setTreaty_8 : decode cX4_setTreaty 8 = .ok (.iconst 0, 1) := by decide +kernel
theorem dX4_setTreaty_9 : decode cX4_setTreaty 9 = .ok (.bipush 30, 2) := by decide +kernel
theorem dX4_setTreaty_11 : decode cX4_setTreaty 11 = .ok (.invokestatic 38, 3) := by decide +kernel
theorem dX4_setTreaty_14 : decode cX4_setTreaty 14 = .ok (.ifCond .eq 13, 3) := by decide +kernel
theorem dX4_setTreaty_17 : decode cX4_setTreaty 17 = .ok (.iload_n 3, 1) := by decide +kernel
theorem dX4_setTreaty_18 : decode cX4_setTreaty 18 = .ok (.iconst 0, 1) := by decide +kernel
theorem dX4_setTreaty_19 : decode cX4_setTreaty 19 = .ok (.bipush 30, 2) := by decide +kernel
theorem dX4_setTreaty_21 : decode cX4_setTreaty 21 = .ok (.invokestatic 38, 3) := by decide +kernel
theorem dX4_setTreaty_24 : decode cX4_setTreaty 24 = .ok (.ifCond .ne 13, 3) := by decide +kernel
theorem dX4_setTreaty_27 : decode cX4_setTreaty 27 = .ok (.new 42, 3) := by decide +kernel
theorem dX4_setTreaty_30 : decode cX4_setTreaty 30 = .ok (.dup, 1) := by decide +kernel
theorem dX4_setTreaty_31 : decode cX4_setTreaty 31 = .ok (.ldc 44, 2) := by decide +kernel
theorem dX4_setTreaty_33 : decode cX4_setTreaty 33 = .ok (.invokespecial 46, 3) := by decide +kernel
theorem dX4_setTreaty_36 : decode cX4_setTreaty 36 = .ok (.athrow, 1) := by decide +kernel
theorem dX4_setTreaty_37 : decode cX4_setTreaty 37 = .ok (.aload_n 0, 1) := by decide +kernel
theorem dX4_setTreaty_38 : decode cX4_setTreaty 38 = .ok (.getfield 9, 3) := by decide +kernel
theorem dX4_setTreaty_41 : decode cX4_setTreaty 41 = .ok (.iload_n 1, 1) := by decide +kernel
theorem dX4_setTreaty_42 : decode cX4_setTreaty 42 = .ok (.iaload, 1) := by decide +kernel
theorem dX4_setTreaty_43 : decode cX4_setTreaty 43 = .ok (.istore 4, 2) := by decide +kernel
theorem dX4_setTreaty_45 : decode cX4_setTreaty 45 = .ok (.aload_n 0, 1) := by decide +kernel
theorem dX4_setTreaty_46 : decode cX4_setTreaty 46 = .ok (.getfield 9, 3) := by decide +kernel
theorem dX4_setTreaty_49 : decode cX4_setTreaty 49 = .ok (.iload_n 1, 1) := by decide +kernel
theorem dX4_setTreaty_50 : decode cX4_setTreaty 50 = .ok (.iload_n 2, 1) := by decide +kernel
theorem dX4_setTreaty_51 : decode cX4_setTreaty 51 = .ok (.iastore, 1) := by decide +kernel
theorem dX4_setTreaty_52 : decode cX4_setTreaty 52 = .ok (.aload_n 0, 1) := by decide +kernel
theorem dX4_setTreaty_53 : decode cX4_setTreaty 53 = .ok (.getfield 13, 3) := by decide +kernel
theorem dX4_setTreaty_56 : decode cX4_setTreaty 56 = .ok (.iload_n 1, 1) := by decide +kernel
theorem dX4_setTreaty_57 : decode cX4_setTreaty 57 = .ok (.iload_n 3, 1) := by decide +kernel
theorem dX4_setTreaty_58 : decode cX4_setTreaty 58 = .ok (.iastore, 1) := by decide +kernel
theorem dX4_setTreaty_59 : decode cX4_setTreaty 59 = .ok (.iload 4, 2) := by decide +kernel
theorem dX4_setTreaty_61 : decode cX4_setTreaty 61 = .ok (.ireturn, 1) := by decide +kernel
set_option maxRecDepth 20000 in
theorem ggX4_addHolder_X4_isWithin : GoodIn wsX4_addHolder wsX4_isWithin := goodIn_r _ [12] (by decide +kernel) (by decide +kernel)
set_option maxRecDepth 20000 in
theorem gX4_addHolder_X4_isWithin : GoodIn wsX4_addHolder (va_wsS RX4 38 yX4_isWithin wsX4_isWithin) := goodIn_app (goodIn_of _ (by decide +kernel)) ggX4_addHolder_X4_isWithin
set_option maxRecDepth 20000 in
theorem ggX4_addHolder_X4_isLand : GoodIn wsX4_addHolder wsX4_isLand := goodIn_r _ [15, 9, 10, 11, 12] (by decide +kernel) (by decide +kernel)
set_option maxRecDepth 20000 in
theorem gX4_addHolder_X4_isLand : GoodIn wsX4_addHolder (va_wsS RX4 34 yX4_isLand wsX4_isLand) := goodIn_app (goodIn_of _ (by decide +kernel)) ggX4_addHolder_X4_isLand
set_option maxRecDepth 20000 in
theorem ggX4_addHolder_Jx4a65c_size_8abf5 : GoodIn wsX4_addHolder wsJx4a65c_size_8abf5 := goodIn_r _ [20, 21, 100, 101, 102] (by decide +kernel) (by decide +kernel)
set_option maxRecDepth 20000 in
theorem gX4_addHolder_Jx4a65c_size_8abf5 : GoodIn wsX4_addHolder (wsV RX4 53 RJx4a65c yJx4a65c_size_8abf5 wsJx4a65c_size_8abf5) := goodIn_app (goodIn_of _ (by decide +kernel)) ggX4_addHolder_Jx4a65c_size_8abf5
set_option maxRecDepth 20000 in
theorem ggX4_addHolder_X1_init : GoodIn wsX4_addHolder wsX1_init := goodIn_r _ [23, 24, 25, 26, 27, 28, 29, 30, 31, 32, 33, 94, 95, 96, 97, 98, 99] (by decide +kernel) (by decide +kernel)
set_option maxRecDepth 20000 in
theorem gX4_addHolder_X1_init_n64 : GoodIn wsX4_addHolder (wsX1_init) := ggX4_addHolder_X1_init
set_option maxRecDepth 20000 in
theorem ggX4_addHolder_Jx4a65c_add_9ea2d : GoodIn wsX4_addHolder wsJx4a65c_add_9ea2d := goodIn_r _ [37, 38, 39, 40, 21, 41, 42, 43, 19, 44, 45, 46, 47, 48, 49, 50, 51, 52, 53, 54, 55, 56, 57, 58, 59, 60, 61, 62, 63, 64, 65, 66, 67, 68, 69, 70, 71, 72, 73, 74, 75, 76, 77, 78, 79, 80, 81, 82, 83, 84, 85, 86, 87, 100, 101, 102] (by decide +kernel) (by decide +kernel)
set_option maxRecDepth 20000 in
theorem gX4_addHolder_Jx4a65c_add_9ea2d : GoodIn wsX4_addHolder (wsV RX4 67 RJx4a65c yJx4a65c_add_9ea2d wsJx4a65c_add_9ea2d) := goodIn_app (goodIn_of _ (by decide +kernel)) ggX4_addHolder_Jx4a65c_add_9ea2d
theorem dX4_addHolder_0 : decode cX4_addHolder 0 = .ok (.iload_n 1, 1) := by decide +kernel
theorem dX4_addHolder_1 : decode cX4_addHolder 1 = .ok (.iconst 0, 1) := by decide +kernel
theorem dX4_addHolder_2 : decode cX4_addHolder 2 = .ok (.iconst 2, 1) := by decide +kernel
theorem dX4_addHolder_3 : decode cX4_addHolder 3 = .ok (.invokestatic 38, 3) := by decide +kernel
theorem dX4_addHolder_6 : decode cX4_addHolder 6 = .ok (.ifCond .ne 13, 3) := by decide +kernel
theorem dX4_addHolder_9 : decode cX4_addHolder 9 = .ok (.new 42, 3) := by decide +kernel
theorem dX4_addHolder_12 : decode cX4_addHolder 12 = .ok (.dup, 1) := by decide +kernel
theorem dX4_addHolder_13 : decode cX4_addHolder 13 = .ok (.ldc 49, 2) := by decide +kernel
theorem dX4_addHolder_15 : decode cX4_addHolder 15 = .ok (.invokespecial 46, 3) := by decide +kernel
theorem dX4_addHolder_18 : decode cX4_addHolder 18 = .ok (.athrow, 1) := by decide +kernel
theorem dX4_addHolder_19 : decode cX4_addHolder 19 = .ok (.iload_n 1, 1) := by decide +kernel
theorem dX4_addHolder_20 : decode cX4_addHolder 20 = .ok (.iconst 2, 1) := by decide +kernel
theorem dX4_addHolder_21 : decode cX4_addHolder 21 = .ok (.if_icmp .ne 11, 3) := by decide +kernel
theorem dX4_addHolder_24 : decode cX4_addHolder 24 = .ok (.iload_n 2, 1) := by decide +kernel
theorem dX4_addHolder_25 : decode cX4_addHolder 25 = .ok (.iconst (-1), 1) := by decide +kernel
theorem dX4_addHolder_26 : decode cX4_addHolder 26 = .ok (.if_icmp .eq 23, 3) := by decide +kernel
theorem dX4_addHolder_29 : decode cX4_addHolder 29 = .ok (.goto 10, 3) := by decide +kernel
theorem dX4_addHolder_32 : decode cX4_addHolder 32 = .ok (.iload_n 2, 1) := by decide +kernel
theorem dX4_addHolder_33 : decode cX4_addHolder 33 = .ok (.invokestatic 34, 3) := by decide +kernel
theorem dX4_addHolder_36 : decode cX4_addHolder 36 = .ok (.ifCond .ne 13, 3) := by decide +kernel
theorem dX4_addHolder_39 : decode cX4_addHolder 39 = .ok (.new 42, 3) := by decide +kernel
theorem dX4_addHolder_42 : decode cX4_addHolder 42 = .ok (.dup, 1) := by decide +kernel
theorem dX4_addHolder_43 : decode cX4_addHolder 43 = .ok (.ldc 51, 2) := by decide +kernel
theorem dX4_addHolder_45 : decode cX4_addHolder 45 = .ok (.invokespecial 46, 3) := by decide +kernel
theorem dX4_addHolder_48 : decode cX4_addHolder 48 = .ok (.athrow, 1) := by decide +kernel
theorem dX4_addHolder_49 : decode cX4_addHolder 49 = .ok (.aload_n 0, 1) := by decide +kernel
theorem dX4_addHolder_50 : decode cX4_addHolder 50 = .ok (.getfield 19, 3) := by decide +kernel
theorem dX4_addHolder_53 : decode cX4_addHolder 53 = .ok (.invokevirtual 53, 3) := by decide +kernel
theorem dX4_addHolder_56 : decode cX4_addHolder 56 = .ok (.bipush 20, 2) := by decide +kernel
theorem dX4_addHolder_58 : decode cX4_addHolder 58 = .ok (.if_icmp .lt 13, 3) := by decide +kernel
theorem dX4_addHolder_61 : decode cX4_addHolder 61 = .ok (.new 57, 3) := by decide +kernel
theorem dX4_addHolder_64 : decode cX4_addHolder 64 = .ok (.dup, 1) := by decide +kernel
theorem dX4_addHolder_65 : decode cX4_addHolder 65 = .ok (.ldc 59, 2) := by decide +kernel
theorem dX4_addHolder_67 : decode cX4_addHolder 67 = .ok (.invokespecial 61, 3) := by decide +kernel
theorem dX4_addHolder_70 : decode cX4_addHolder 70 = .ok (.athrow, 1) := by decide +kernel
theorem dX4_addHolder_71 : decode cX4_addHolder 71 = .ok (.aload_n 0, 1) := by decide +kernel
theorem dX4_addHolder_72 : decode cX4_addHolder 72 = .ok (.getfield 19, 3) := by decide +kernel
theorem dX4_addHolder_75 : decode cX4_addHolder 75 = .ok (.new 62, 3) := by decide +kernel
theorem dX4_addHolder_78 : decode cX4_addHolder 78 = .ok (.dup, 1) := by decide +kernel
theorem dX4_addHolder_79 : decode cX4_addHolder 79 = .ok (.iload_n 1, 1) := by decide +kernel
theorem dX4_addHolder_80 : decode cX4_addHolder 80 = .ok (.iload_n 2, 1) := by decide +kernel
theorem dX4_addHolder_81 : decode cX4_addHolder 81 = .ok (.invokespecial 64, 3) := by decide +kernel
theorem dX4_addHolder_84 : decode cX4_addHolder 84 = .ok (.invokevirtual 67, 3) := by decide +kernel
theorem dX4_addHolder_87 : decode cX4_addHolder 87 = .ok (.pop, 1) := by decide +kernel
theorem dX4_addHolder_88 : decode cX4_addHolder 88 = .ok (.aload_n 0, 1) := by decide +kernel
theorem dX4_addHolder_89 : decode cX4_addHolder 89 = .ok (.getfield 19, 3) := by decide +kernel
theorem dX4_addHolder_92 : decode cX4_addHolder 92 = .ok (.invokevirtual 53, 3) := by decide +kernel
theorem dX4_addHolder_95 : decode cX4_addHolder 95 = .ok (.iconst 1, 1) := by decide +kernel
theorem dX4_addHolder_96 : decode cX4_addHolder 96 = .ok (.isub, 1) := by decide +kernel
theorem dX4_addHolder_97 : decode cX4_addHolder 97 = .ok (.ireturn, 1) := by decide +kernel
set_option maxRecDepth 20000 in
theorem ggX4_setParts_X4_holderAt : GoodIn wsX4_setParts wsX4_holderAt := goodIn_ca (goodIn_r _ [7, 8, 9, 10, 11, 12, 13, 14, 6, 15, 16, 17, 18, 19, 20, 21, 22, 23, 24, 25, 26, 27, 28, 29, 30, 31, 32, 33, 34, 35, 36, 37, 38, 39, 40, 41, 56, 57, 58, 59, 60, 61, 62, 63, 64] (by decide +kernel) (by decide +kernel)) (goodIn_sub (fun _ h => List.mem_cons_of_mem _ (List.mem_append_right _ h)) (by decide +kernel))
set_option maxRecDepth 20000 in
theorem gX4_setParts_X4_holderAt : GoodIn wsX4_setParts (wsV RX4 71 RX4 yX4_holderAt wsX4_holderAt) := goodIn_app (goodIn_of _ (by decide +kernel)) ggX4_setParts_X4_holderAt
set_option maxRecDepth 20000 in
theorem ggX4_setParts_X4_isWithin : GoodIn wsX4_setParts wsX4_isWithin := goodIn_r _ [24] (by decide +kernel) (by decide +kernel)
set_option maxRecDepth 20000 in
theorem gX4_setParts_X4_isWithin : GoodIn wsX4_setParts (va_wsS RX4 38 yX4_isWithin wsX4_isWithin) := goodIn_app (goodIn_of _ (by decide +kernel)) ggX4_setParts_X4_isWithin
set_option maxRecDepth 20000 in
theorem ggX4_setParts_X1_partsOf : GoodIn wsX4_setParts wsX1_partsOf := goodIn_r _ [45, 46, 50, 51, 52, 53, 54, 55] (by decide +kernel) (by decide +kernel)
set_option maxRecDepth 20000 in
theorem gX4_setParts_X1_partsOf_n80 : GoodIn wsX4_setParts (wsX1_partsOf) := ggX4_setParts_X1_partsOf
set_option maxRecDepth 20000 in
theorem ggX4_setParts_X1_changeParts : GoodIn wsX4_setParts wsX1_changeParts := goodIn_r _ [49, 46, 50, 51, 52, 53, 54, 55] (by decide +kernel) (by decide +kernel)
set_option maxRecDepth 20000 in
theorem gX4_setParts_X1_changeParts_n84 : GoodIn wsX4_setParts (wsX1_changeParts) := ggX4_setParts_X1_changeParts
theorem dX4_setParts_0 : decode cX4_setParts 0 = .ok (.aload_n 0, 1) := by decide +kernel
theorem dX4_setParts_1 : decode cX4_setParts 1 = .ok (.iload_n 1, 1) := by decide +kernel
theorem dX4_setParts_2 : decode cX4_setParts 2 = .ok (.invokevirtual 71, 3) := by decide +kernel
theorem dX4_setParts_5 : decode cX4_setParts 5 = .ok (.astore 4, 2) := by decide +kernel
theorem dX4_setParts_7 : decode cX4_setParts 7 = .ok (.aload_n 0, 1) := by decide +kernel
theorem dX4_setParts_8 : decode cX4_setParts 8 = .ok (.iload_n 2, 1) := by decide +kernel
theorem dX4_setParts_9 : decode cX4_setParts 9 = .ok (.invokevirtual 71, 3) := by decide +kernel
theorem dX4_setParts_12 : decode cX4_setParts 12 = .ok (.astore 5, 2) := by decide +kernel
theorem dX4_setParts_14 : decode cX4_setParts 14 = .ok (.aload 4, 2) := by decide +kernel
theorem dX4_setParts_16 : decode cX4_setParts 16 = .ok (.getfield 75, 3) := by decide +kernel
theorem dX4_setParts_19 : decode cX4_setParts 19 = .ok (.iconst 2, 1) := by decide +kernel
theorem dX4_setParts_20 : decode cX4_setParts 20 = .ok (.if_icmp .ne 22, 3) := by decide +kernel
theorem dX4_setParts_23 : decode cX4_setParts 23 = .ok (.aload 5, 2) := by decide +kernel
theorem dX4_setParts_25 : decode cX4_setParts 25 = .ok (.getfield 75, 3) := by decide +kernel
theorem dX4_setParts_28 : decode cX4_setParts 28 = .ok (.iconst 2, 1) := by decide +kernel
theorem dX4_setParts_29 : decode cX4_setParts 29 = .ok (.if_icmp .eq 13, 3) := by decide +kernel
theorem dX4_setParts_32 : decode cX4_setParts 32 = .ok (.iload_n 3, 1) := by decide +kernel
theorem dX4_setParts_33 : decode cX4_setParts 33 = .ok (.iconst 0, 1) := by decide +kernel
theorem dX4_setParts_34 : decode cX4_setParts 34 = .ok (.bipush 100, 2) := by decide +kernel
theorem dX4_setParts_36 : decode cX4_setParts 36 = .ok (.invokestatic 38, 3) := by decide +kernel
theorem dX4_setParts_39 : decode cX4_setParts 39 = .ok (.ifCond .ne 13, 3) := by decide +kernel
theorem dX4_setParts_42 : decode cX4_setParts 42 = .ok (.new 42, 3) := by decide +kernel
theorem dX4_setParts_45 : decode cX4_setParts 45 = .ok (.dup, 1) := by decide +kernel
theorem dX4_setParts_46 : decode cX4_setParts 46 = .ok (.ldc 78, 2) := by decide +kernel
theorem dX4_setParts_48 : decode cX4_setParts 48 = .ok (.invokespecial 46, 3) := by decide +kernel
theorem dX4_setParts_51 : decode cX4_setParts 51 = .ok (.athrow, 1) := by decide +kernel
theorem dX4_setParts_52 : decode cX4_setParts 52 = .ok (.aload 4, 2) := by decide +kernel
theorem dX4_setParts_54 : decode cX4_setParts 54 = .ok (.iload_n 2, 1) := by decide +kernel
theorem dX4_setParts_55 : decode cX4_setParts 55 = .ok (.invokevirtual 80, 3) := by decide +kernel
theorem dX4_setParts_58 : decode cX4_setParts 58 = .ok (.istore 6, 2) := by decide +kernel
theorem dX4_setParts_60 : decode cX4_setParts 60 = .ok (.aload 4, 2) := by decide +kernel
theorem dX4_setParts_62 : decode cX4_setParts 62 = .ok (.iload_n 2, 1) := by decide +kernel
theorem dX4_setParts_63 : decode cX4_setParts 63 = .ok (.iload_n 3, 1) := by decide +kernel
theorem dX4_setParts_64 : decode cX4_setParts 64 = .ok (.invokevirtual 84, 3) := by decide +kernel
theorem dX4_setParts_67 : decode cX4_setParts 67 = .ok (.iload 6, 2) := by decide +kernel
theorem dX4_setParts_69 : decode cX4_setParts 69 = .ok (.ireturn, 1) := by decide +kernel
set_option maxRecDepth 20000 in
theorem ggX4_setShares_X4_holderAt : GoodIn wsX4_setShares wsX4_holderAt := goodIn_ca (goodIn_r _ [10, 11, 12, 13, 14, 15, 16, 17, 9, 18, 19, 20, 21, 22, 23, 24, 25, 26, 27, 28, 29, 30, 31, 32, 33, 34, 35, 36, 37, 38, 39, 40, 41, 42, 43, 44, 55, 56, 57, 58, 59, 60, 61, 62, 63] (by decide +kernel) (by decide +kernel)) (goodIn_sub (fun _ h => List.mem_cons_of_mem _ (List.mem_append_right _ h)) (by decide +kernel))
set_option maxRecDepth 20000 in
theorem gX4_setShares_X4_holderAt : GoodIn wsX4_setShares (wsV RX4 71 RX4 yX4_holderAt wsX4_holderAt) := goodIn_app (goodIn_of _ (by decide +kernel)) ggX4_setShares_X4_holderAt
set_option maxRecDepth 20000 in
theorem ggX4_setShares_X4_isWithin : GoodIn wsX4_setShares wsX4_isWithin := goodIn_r _ [27] (by decide +kernel) (by decide +kernel)
set_option maxRecDepth 20000 in
theorem gX4_setShares_X4_isWithin : GoodIn wsX4_setShares (va_wsS RX4 38 yX4_isWithin wsX4_isWithin) := goodIn_app (goodIn_of _ (by decide +kernel)) ggX4_setShares_X4_isWithin
set_option maxRecDepth 20000 in
theorem ggX4_setShares_X4_sharesInAll : GoodIn wsX4_setShares wsX4_sharesInAll := goodIn_r _ [48, 13, 14, 19, 20, 21, 22, 23, 24, 28, 29, 30, 31, 32, 33, 34, 35, 36, 37, 38, 39, 40, 41, 42, 43, 44, 55, 56, 57, 58, 59, 60, 49, 50, 51, 52, 53, 54, 61, 62, 63] (by decide +kernel) (by decide +kernel)
set_option maxRecDepth 20000 in
theorem gX4_setShares_X4_sharesInAll : GoodIn wsX4_setShares (wsV RX4 93 RX4 yX4_sharesInAll wsX4_sharesInAll) := goodIn_app (goodIn_of _ (by decide +kernel)) ggX4_setShares_X4_sharesInAll
theorem dX4_setShares_0 : decode cX4_setShares 0 = .ok (.aload_n 0, 1) := by decide +kernel
theorem dX4_setShares_1 : decode cX4_setShares 1 = .ok (.iload_n 1, 1) := by decide +kernel
theorem dX4_setShares_2 : decode cX4_setShares 2 = .ok (.invokevirtual 71, 3) := by decide +kernel
theorem dX4_setShares_5 : decode cX4_setShares 5 = .ok (.astore_n 3, 1) := by decide +kernel
theorem dX4_setShares_6 : decode cX4_setShares 6 = .ok (.iload_n 2, 1) := by decide +kernel
theorem dX4_setShares_7 : decode cX4_setShares 7 = .ok (.iconst 0, 1) := by decide +kernel
theorem dX4_setShares_8 : decode cX4_setShares 8 = .ok (.ldc 87, 2) := by decide +kernel
theorem dX4_setShares_10 : decode cX4_setShares 10 = .ok (.invokestatic 38, 3) := by decide +kernel
theorem dX4_setShares_13 : decode cX4_setShares 13 = .ok (.ifCond .ne 13, 3) := by decide +kernel
theorem dX4_setShares_16 : decode cX4_setShares 16 = .ok (.new 42, 3) := by decide +kernel
theorem dX4_setShares_19 : decode cX4_setShares 19 = .ok (.dup, 1) := by decide +kernel
theorem dX4_setShares_20 : decode cX4_setShares 20 = .ok (.ldc 88, 2) := by decide +kernel
theorem dX4_setShares_22 : decode cX4_setShares 22 = .ok (.invokespecial 46, 3) := by decide +kernel
theorem dX4_setShares_25 : decode cX4_setShares 25 = .ok (.athrow, 1) := by decide +kernel
theorem dX4_setShares_26 : decode cX4_setShares 26 = .ok (.aload_n 3, 1) := by decide +kernel
theorem dX4_setShares_27 : decode cX4_setShares 27 = .ok (.getfield 90, 3) := by decide +kernel
theorem dX4_setShares_30 : decode cX4_setShares 30 = .ok (.istore 4, 2) := by decide +kernel
theorem dX4_setShares_32 : decode cX4_setShares 32 = .ok (.aload_n 0, 1) := by decide +kernel
theorem dX4_setShares_33 : decode cX4_setShares 33 = .ok (.invokevirtual 93, 3) := by decide +kernel
theorem dX4_setShares_36 : decode cX4_setShares 36 = .ok (.iload 4, 2) := by decide +kernel
theorem dX4_setShares_38 : decode cX4_setShares 38 = .ok (.isub, 1) := by decide +kernel
theorem dX4_setShares_39 : decode cX4_setShares 39 = .ok (.iload_n 2, 1) := by decide +kernel
theorem dX4_setShares_40 : decode cX4_setShares 40 = .ok (.iadd, 1) := by decide +kernel
theorem dX4_setShares_41 : decode cX4_setShares 41 = .ok (.ldc 87, 2) := by decide +kernel
theorem dX4_setShares_43 : decode cX4_setShares 43 = .ok (.if_icmp .le 13, 3) := by decide +kernel
theorem dX4_setShares_46 : decode cX4_setShares 46 = .ok (.new 57, 3) := by decide +kernel
theorem dX4_setShares_49 : decode cX4_setShares 49 = .ok (.dup, 1) := by decide +kernel
theorem dX4_setShares_50 : decode cX4_setShares 50 = .ok (.ldc 96, 2) := by decide +kernel
theorem dX4_setShares_52 : decode cX4_setShares 52 = .ok (.invokespecial 61, 3) := by decide +kernel
theorem dX4_setShares_55 : decode cX4_setShares 55 = .ok (.athrow, 1) := by decide +kernel
theorem dX4_setShares_56 : decode cX4_setShares 56 = .ok (.aload_n 3, 1) := by decide +kernel
theorem dX4_setShares_57 : decode cX4_setShares 57 = .ok (.iload_n 2, 1) := by decide +kernel
theorem dX4_setShares_58 : decode cX4_setShares 58 = .ok (.putfield 90, 3) := by decide +kernel
theorem dX4_setShares_61 : decode cX4_setShares 61 = .ok (.iload 4, 2) := by decide +kernel
theorem dX4_setShares_63 : decode cX4_setShares 63 = .ok (.ireturn, 1) := by decide +kernel
set_option maxRecDepth 20000 in
theorem ggX4_giveForm_X4_holderAt : GoodIn wsX4_giveForm wsX4_holderAt := goodIn_ca (goodIn_r _ [6, 7, 8, 9, 10, 11, 12, 13, 5, 14, 15, 16, 17, 18, 19, 20, 21, 22, 23, 24, 25, 26, 27, 28, 29, 30, 31, 32, 33, 34, 35, 36, 37, 38, 39, 40, 41, 42, 43, 44, 45, 46, 53, 54, 55] (by decide +kernel) (by decide +kernel)) (goodIn_sub (fun _ h => List.mem_cons_of_mem _ (List.mem_append_right _ h)) (by decide +kernel))
set_option maxRecDepth 20000 in
theorem gX4_giveForm_X4_holderAt : GoodIn wsX4_giveForm (wsV RX4 71 RX4 yX4_holderAt wsX4_holderAt) := goodIn_app (goodIn_of _ (by decide +kernel)) ggX4_giveForm_X4_holderAt
theorem dX4_giveForm_0 : decode cX4_giveForm 0 = .ok (.aload_n 0, 1) := by decide +kernel
theorem dX4_giveForm_1 : decode cX4_giveForm 1 = .ok (.iload_n 1, 1) := by decide +kernel
theorem dX4_giveForm_2 : decode cX4_giveForm 2 = .ok (.invokevirtual 71, 3) := by decide +kernel
theorem dX4_giveForm_5 : decode cX4_giveForm 5 = .ok (.astore_n 2, 1) := by decide +kernel
theorem dX4_giveForm_6 : decode cX4_giveForm 6 = .ok (.aload_n 2, 1) := by decide +kernel
theorem dX4_giveForm_7 : decode cX4_giveForm 7 = .ok (.aload_n 0, 1) := by decide +kernel
theorem dX4_giveForm_8 : decode cX4_giveForm 8 = .ok (.getfield 26, 3) := by decide +kernel
theorem dX4_giveForm_11 : decode cX4_giveForm 11 = .ok (.sipush 1080, 3) := by decide +kernel
theorem dX4_giveForm_14 : decode cX4_giveForm 14 = .ok (.iadd, 1) := by decide +kernel
theorem dX4_giveForm_15 : decode cX4_giveForm 15 = .ok (.putfield 98, 3) := by decide +kernel
theorem dX4_giveForm_18 : decode cX4_giveForm 18 = .ok (.aload_n 2, 1) := by decide +kernel
theorem dX4_giveForm_19 : decode cX4_giveForm 19 = .ok (.getfield 98, 3) := by decide +kernel
theorem dX4_giveForm_22 : decode cX4_giveForm 22 = .ok (.ireturn, 1) := by decide +kernel
set_option maxRecDepth 20000 in
theorem ggX4_pass_X4_isWithin : GoodIn wsX4_pass wsX4_isWithin := goodIn_r _ [11] (by decide +kernel) (by decide +kernel)
set_option maxRecDepth 20000 in
theorem gX4_pass_X4_isWithin : GoodIn wsX4_pass (va_wsS RX4 38 yX4_isWithin wsX4_isWithin) := goodIn_app (goodIn_of _ (by decide +kernel)) ggX4_pass_X4_isWithin
set_option maxRecDepth 20000 in
theorem ggX4_pass_Jx4a65c_size_8abf5 : GoodIn wsX4_pass wsJx4a65c_size_8abf5 := goodIn_r _ [16, 17, 48, 49, 50] (by decide +kernel) (by decide +kernel)
set_option maxRecDepth 20000 in
theorem gX4_pass_Jx4a65c_size_8abf5 : GoodIn wsX4_pass (wsV RX4 53 RJx4a65c yJx4a65c_size_8abf5 wsJx4a65c_size_8abf5) := goodIn_app (goodIn_of _ (by decide +kernel)) ggX4_pass_Jx4a65c_size_8abf5
set_option maxRecDepth 20000 in
theorem ggX4_pass_Jx4a65c_get_915e3 : GoodIn wsX4_pass wsJx4a65c_get_915e3 := goodIn_r _ [21, 17, 22, 23, 24, 25, 26, 27, 28, 29, 30, 31, 32, 15, 33, 34, 48, 49, 50] (by decide +kernel) (by decide +kernel)
set_option maxRecDepth 20000 in
theorem gX4_pass_Jx4a65c_get_915e3 : GoodIn wsX4_pass (wsV RX4 105 RJx4a65c yJx4a65c_get_915e3 wsJx4a65c_get_915e3) := goodIn_app (goodIn_of _ (by decide +kernel)) ggX4_pass_Jx4a65c_get_915e3
set_option maxRecDepth 20000 in
theorem ggX4_pass_X1_endDay : GoodIn wsX4_pass wsX1_endDay := goodIn_r _ [38, 39, 40, 41, 51, 52, 53, 54, 55, 56] (by decide +kernel) (by decide +kernel)
set_option maxRecDepth 20000 in
theorem gX4_pass_X1_endDay_n109 : GoodIn wsX4_pass (wsX1_endDay) := ggX4_pass_X1_endDay
theorem dX4_pass_0 : decode cX4_pass 0 = .ok (.iload_n 1, 1) := by decide +kernel
theorem dX4_pass_1 : decode cX4_pass 1 = .ok (.iconst 1, 1) := by decide +kernel
theorem dX4_pass_2 : decode cX4_pass 2 = .ok (.sipush 2000, 3) := by decide +kernel
theorem dX4_pass_5 : decode cX4_pass 5 = .ok (.invokestatic 38, 3) := by decide +kernel
theorem dX4_pass_8 : decode cX4_pass 8 = .ok (.ifCond .ne 13, 3) := by decide +kernel
theorem dX4_pass_11 : decode cX4_pass 11 = .ok (.new 42, 3) := by decide +kernel
theorem dX4_pass_14 : decode cX4_pass 14 = .ok (.dup, 1) := by decide +kernel
theorem dX4_pass_15 : decode cX4_pass 15 = .ok (.ldc 101, 2) := by decide +kernel
theorem dX4_pass_17 : decode cX4_pass 17 = .ok (.invokespecial 46, 3) := by decide +kernel
theorem dX4_pass_20 : decode cX4_pass 20 = .ok (.athrow, 1) := by decide +kernel
theorem dX4_pass_21 : decode cX4_pass 21 = .ok (.aload_n 0, 1) := by decide +kernel
theorem dX4_pass_22 : decode cX4_pass 22 = .ok (.getfield 26, 3) := by decide +kernel
theorem dX4_pass_25 : decode cX4_pass 25 = .ok (.iload_n 1, 1) := by decide +kernel
theorem dX4_pass_26 : decode cX4_pass 26 = .ok (.iadd, 1) := by decide +kernel
theorem dX4_pass_27 : decode cX4_pass 27 = .ok (.sipush 20000, 3) := by decide +kernel
theorem dX4_pass_30 : decode cX4_pass 30 = .ok (.if_icmp .le 13, 3) := by decide +kernel
theorem dX4_pass_33 : decode cX4_pass 33 = .ok (.new 57, 3) := by decide +kernel
theorem dX4_pass_36 : decode cX4_pass 36 = .ok (.dup, 1) := by decide +kernel
theorem dX4_pass_37 : decode cX4_pass 37 = .ok (.ldc 103, 2) := by decide +kernel
theorem dX4_pass_39 : decode cX4_pass 39 = .ok (.invokespecial 61, 3) := by decide +kernel
theorem dX4_pass_42 : decode cX4_pass 42 = .ok (.athrow, 1) := by decide +kernel
theorem dX4_pass_43 : decode cX4_pass 43 = .ok (.iconst 0, 1) := by decide +kernel
theorem dX4_pass_44 : decode cX4_pass 44 = .ok (.istore_n 2, 1) := by decide +kernel
theorem dX4_pass_45 : decode cX4_pass 45 = .ok (.iload_n 2, 1) := by decide +kernel
theorem dX4_pass_46 : decode cX4_pass 46 = .ok (.aload_n 0, 1) := by decide +kernel
theorem dX4_pass_47 : decode cX4_pass 47 = .ok (.getfield 19, 3) := by decide +kernel
theorem dX4_pass_50 : decode cX4_pass 50 = .ok (.invokevirtual 53, 3) := by decide +kernel
theorem dX4_pass_53 : decode cX4_pass 53 = .ok (.if_icmp .ge 27, 3) := by decide +kernel
theorem dX4_pass_56 : decode cX4_pass 56 = .ok (.aload_n 0, 1) := by decide +kernel
theorem dX4_pass_57 : decode cX4_pass 57 = .ok (.getfield 19, 3) := by decide +kernel
theorem dX4_pass_60 : decode cX4_pass 60 = .ok (.iload_n 2, 1) := by decide +kernel
theorem dX4_pass_61 : decode cX4_pass 61 = .ok (.invokevirtual 105, 3) := by decide +kernel
theorem dX4_pass_64 : decode cX4_pass 64 = .ok (.checkcast 62, 3) := by decide +kernel
theorem dX4_pass_67 : decode cX4_pass 67 = .ok (.aload_n 0, 1) := by decide +kernel
theorem dX4_pass_68 : decode cX4_pass 68 = .ok (.getfield 26, 3) := by decide +kernel
theorem dX4_pass_71 : decode cX4_pass 71 = .ok (.invokevirtual 109, 3) := by decide +kernel
theorem dX4_pass_74 : decode cX4_pass 74 = .ok (.iinc 2 1, 3) := by decide +kernel
theorem dX4_pass_77 : decode cX4_pass 77 = .ok (.goto (-32), 3) := by decide +kernel
theorem dX4_pass_80 : decode cX4_pass 80 = .ok (.aload_n 0, 1) := by decide +kernel
theorem dX4_pass_81 : decode cX4_pass 81 = .ok (.dup, 1) := by decide +kernel
theorem dX4_pass_82 : decode cX4_pass 82 = .ok (.getfield 26, 3) := by decide +kernel
theorem dX4_pass_85 : decode cX4_pass 85 = .ok (.iload_n 1, 1) := by decide +kernel
theorem dX4_pass_86 : decode cX4_pass 86 = .ok (.iadd, 1) := by decide +kernel
theorem dX4_pass_87 : decode cX4_pass 87 = .ok (.putfield 26, 3) := by decide +kernel
theorem dX4_pass_90 : decode cX4_pass 90 = .ok (.aload_n 0, 1) := by decide +kernel
theorem dX4_pass_91 : decode cX4_pass 91 = .ok (.getfield 26, 3) := by decide +kernel
theorem dX4_pass_94 : decode cX4_pass 94 = .ok (.ireturn, 1) := by decide +kernel
theorem dX4_day_0 : decode cX4_day 0 = .ok (.aload_n 0, 1) := by decide +kernel
theorem dX4_day_1 : decode cX4_day 1 = .ok (.getfield 26, 3) := by decide +kernel
theorem dX4_day_4 : decode cX4_day 4 = .ok (.ireturn, 1) := by decide +kernel
set_option maxRecDepth 20000 in
theorem ggX4_shares_X4_holderAt : GoodIn wsX4_shares wsX4_holderAt := goodIn_ca (goodIn_r _ [5, 6, 7, 8, 9, 10, 11, 12, 4, 13, 14, 15, 16, 17, 18, 19, 20, 21, 22, 23, 24, 25, 26, 27, 28, 29, 30, 31, 32, 33, 34, 35, 36, 37, 38, 39, 46, 47, 48, 49, 50, 51, 52, 53, 54] (by decide +kernel) (by decide +kernel)) (goodIn_sub (fun _ h => List.mem_cons_of_mem _ (List.mem_append_right _ h)) (by decide +kernel))
set_option maxRecDepth 20000 in
theorem gX4_shares_X4_holderAt : GoodIn wsX4_shares (wsV RX4 71 RX4 yX4_holderAt wsX4_holderAt) := goodIn_app (goodIn_of _ (by decide +kernel)) ggX4_shares_X4_holderAt
theorem dX4_shares_0 : decode cX4_shares 0 = .ok (.aload_n 0, 1) := by decide +kernel
theorem dX4_shares_1 : decode cX4_shares 1 = .ok (.iload_n 1, 1) := by decide +kernel
theorem dX4_shares_2 : decode cX4_shares 2 = .ok (.invokevirtual 71, 3) := by decide +kernel
theorem dX4_shares_5 : decode cX4_shares 5 = .ok (.getfield 90, 3) := by decide +kernel
theorem dX4_shares_8 : decode cX4_shares 8 = .ok (.ireturn, 1) := by decide +kernel
set_option maxRecDepth 20000 in
theorem ggX4_isValid_X4_holderAt : GoodIn wsX4_isValid wsX4_holderAt := goodIn_ca (goodIn_r _ [6, 7, 8, 9, 10, 11, 12, 13, 5, 14, 15, 16, 17, 18, 19, 20, 21, 22, 23, 24, 25, 26, 27, 28, 29, 30, 31, 32, 33, 34, 35, 36, 37, 38, 39, 40, 46, 47, 48, 49, 50, 51, 52, 53, 54] (by decide +kernel) (by decide +kernel)) (goodIn_sub (fun _ h => List.mem_cons_of_mem _ (List.mem_append_right _ h)) (by decide +kernel))
set_option maxRecDepth 20000 in
theorem gX4_isValid_X4_holderAt : GoodIn wsX4_isValid (wsV RX4 71 RX4 yX4_holderAt wsX4_holderAt) := goodIn_app (goodIn_of _ (by decide +kernel)) ggX4_isValid_X4_holderAt
set_option maxRecDepth 20000 in
theorem ggX4_isValid_X1_hasFormOn : GoodIn wsX4_isValid wsX1_hasFormOn := goodIn_r _ [44, 45, 55, 56, 57, 58, 59, 60] (by decide +kernel) (by decide +kernel)
set_option maxRecDepth 20000 in
theorem gX4_isValid_X1_hasFormOn_n113 : GoodIn wsX4_isValid (wsX1_hasFormOn) := ggX4_isValid_X1_hasFormOn
theorem dX4_isValid_0 : decode cX4_isValid 0 = .ok (.aload_n 0, 1) := by decide +kernel
theorem dX4_isValid_1 : decode cX4_isValid 1 = .ok (.iload_n 1, 1) := by decide +kernel
theorem dX4_isValid_2 : decode cX4_isValid 2 = .ok (.invokevirtual 71, 3) := by decide +kernel
theorem dX4_isValid_5 : decode cX4_isValid 5 = .ok (.aload_n 0, 1) := by decide +kernel
theorem dX4_isValid_6 : decode cX4_isValid 6 = .ok (.getfield 26, 3) := by decide +kernel
theorem dX4_isValid_9 : decode cX4_isValid 9 = .ok (.invokevirtual 113, 3) := by decide +kernel
theorem dX4_isValid_12 : decode cX4_isValid 12 = .ok (.ireturn, 1) := by decide +kernel
set_option maxRecDepth 20000 in
theorem ggX4_isLarge_X4_holderAt : GoodIn wsX4_isLarge wsX4_holderAt := goodIn_ca (goodIn_r _ [6, 7, 8, 9, 10, 11, 12, 13, 5, 14, 15, 16, 17, 18, 19, 20, 21, 22, 23, 24, 25, 26, 27, 28, 29, 30, 31, 32, 33, 34, 35, 36, 37, 38, 39, 40, 49, 50, 51, 52, 53, 54, 55, 56, 57] (by decide +kernel) (by decide +kernel)) (goodIn_sub (fun _ h => List.mem_cons_of_mem _ (List.mem_append_right _ h)) (by decide +kernel))
set_option maxRecDepth 20000 in
theorem gX4_isLarge_X4_holderAt : GoodIn wsX4_isLarge (wsV RX4 71 RX4 yX4_holderAt wsX4_holderAt) := goodIn_app (goodIn_of _ (by decide +kernel)) ggX4_isLarge_X4_holderAt
set_option maxRecDepth 20000 in
theorem ggX4_isLarge_X1_hasLargeHoldingOn : GoodIn wsX4_isLarge wsX1_hasLargeHoldingOn := goodIn_r _ [44, 45, 46, 47, 48, 58, 59, 60, 61, 62, 63] (by decide +kernel) (by decide +kernel)
set_option maxRecDepth 20000 in
theorem gX4_isLarge_X1_hasLargeHoldingOn_n116 : GoodIn wsX4_isLarge (wsX1_hasLargeHoldingOn) := ggX4_isLarge_X1_hasLargeHoldingOn
theorem dX4_isLarge_0 : decode cX4_isLarge 0 = .ok (.aload_n 0, 1) := by decide +kernel
theorem dX4_isLarge_1 : decode cX4_isLarge 1 = .ok (.iload_n 1, 1) := by decide +kernel
theorem dX4_isLarge_2 : decode cX4_isLarge 2 = .ok (.invokevirtual 71, 3) := by decide +kernel
theorem dX4_isLarge_5 : decode cX4_isLarge 5 = .ok (.aload_n 0, 1) := by decide +kernel
theorem dX4_isLarge_6 : decode cX4_isLarge 6 = .ok (.getfield 26, 3) := by decide +kernel
theorem dX4_isLarge_9 : decode cX4_isLarge 9 = .ok (.invokevirtual 116, 3) := by decide +kernel
theorem dX4_isLarge_12 : decode cX4_isLarge 12 = .ok (.ireturn, 1) := by decide +kernel
set_option maxRecDepth 20000 in
theorem ggX4_treatyRate_X4_holderAt : GoodIn wsX4_treatyRate wsX4_holderAt := goodIn_ca (goodIn_r _ [7, 8, 9, 10, 11, 12, 13, 14, 6, 15, 16, 17, 18, 19, 20, 21, 22, 23, 24, 25, 26, 27, 28, 29, 30, 31, 32, 33, 34, 35, 36, 37, 38, 39, 40, 41, 73, 74, 75, 76, 77, 78, 79, 80, 81] (by decide +kernel) (by decide +kernel)) (goodIn_sub (fun _ h => List.mem_cons_of_mem _ (List.mem_append_right _ h)) (by decide +kernel))
set_option maxRecDepth 20000 in
theorem gX4_treatyRate_X4_holderAt : GoodIn wsX4_treatyRate (wsV RX4 71 RX4 yX4_holderAt wsX4_holderAt) := goodIn_app (goodIn_of _ (by decide +kernel)) ggX4_treatyRate_X4_holderAt
set_option maxRecDepth 20000 in
theorem ggX4_treatyRate_X4_ownRate : GoodIn wsX4_treatyRate wsX4_ownRate := goodIn_r _ [45, 46, 47, 48, 49, 50, 51, 52, 53, 54, 6, 55, 56, 57, 58, 22, 23, 24, 59, 60, 61, 62, 63, 64, 65, 66, 73, 74, 75, 76, 77, 78, 67, 68, 69, 70, 71, 72] (by decide +kernel) (by decide +kernel)
set_option maxRecDepth 20000 in
theorem gX4_treatyRate_X4_ownRate : GoodIn wsX4_treatyRate (wsV RX4 121 RX4 yX4_ownRate wsX4_ownRate) := goodIn_app (goodIn_of _ (by decide +kernel)) ggX4_treatyRate_X4_ownRate
theorem dX4_treatyRate_0 : decode cX4_treatyRate 0 = .ok (.aload_n 0, 1) := by decide +kernel
theorem dX4_treatyRate_1 : decode cX4_treatyRate 1 = .ok (.iload_n 1, 1) := by decide +kernel
theorem dX4_treatyRate_2 : decode cX4_treatyRate 2 = .ok (.invokevirtual 71, 3) := by decide +kernel
theorem dX4_treatyRate_5 : decode cX4_treatyRate 5 = .ok (.astore_n 2, 1) := by decide +kernel
theorem dX4_treatyRate_6 : decode cX4_treatyRate 6 = .ok (.aload_n 2, 1) := by decide +kernel
theorem dX4_treatyRate_7 : decode cX4_treatyRate 7 = .ok (.getfield 75, 3) := by decide +kernel
theorem dX4_treatyRate_10 : decode cX4_treatyRate 10 = .ok (.iconst 2, 1) := by decide +kernel
theorem dX4_treatyRate_11 : decode cX4_treatyRate 11 = .ok (.if_icmp .ne 13, 3) := by decide +kernel
theorem dX4_treatyRate_14 : decode cX4_treatyRate 14 = .ok (.new 42, 3) := by decide +kernel
theorem dX4_treatyRate_17 : decode cX4_treatyRate 17 = .ok (.dup, 1) := by decide +kernel
theorem dX4_treatyRate_18 : decode cX4_treatyRate 18 = .ok (.ldc 119, 2) := by decide +kernel
theorem dX4_treatyRate_20 : decode cX4_treatyRate 20 = .ok (.invokespecial 46, 3) := by decide +kernel
theorem dX4_treatyRate_23 : decode cX4_treatyRate 23 = .ok (.athrow, 1) := by decide +kernel
theorem dX4_treatyRate_24 : decode cX4_treatyRate 24 = .ok (.aload_n 0, 1) := by decide +kernel
theorem dX4_treatyRate_25 : decode cX4_treatyRate 25 = .ok (.aload_n 2, 1) := by decide +kernel
theorem dX4_treatyRate_26 : decode cX4_treatyRate 26 = .ok (.invokevirtual 121, 3) := by decide +kernel
theorem dX4_treatyRate_29 : decode cX4_treatyRate 29 = .ok (.ireturn, 1) := by decide +kernel
set_option maxRecDepth 20000 in
theorem ggX4_pay_X4_isWithin : GoodIn wsX4_pay wsX4_isWithin := goodIn_r _ [15] (by decide +kernel) (by decide +kernel)
set_option maxRecDepth 20000 in
theorem gX4_pay_X4_isWithin : GoodIn wsX4_pay (va_wsS RX4 38 yX4_isWithin wsX4_isWithin) := goodIn_app (goodIn_of _ (by decide +kernel)) ggX4_pay_X4_isWithin
set_option maxRecDepth 20000 in
theorem ggX4_pay_Jx4a65c_size_8abf5 : GoodIn wsX4_pay wsJx4a65c_size_8abf5 := goodIn_r _ [20, 21, 220, 221, 222] (by decide +kernel) (by decide +kernel)
set_option maxRecDepth 20000 in
theorem gX4_pay_Jx4a65c_size_8abf5 : GoodIn wsX4_pay (wsV RX4 53 RJx4a65c yJx4a65c_size_8abf5 wsJx4a65c_size_8abf5) := goodIn_app (goodIn_of _ (by decide +kernel)) ggX4_pay_Jx4a65c_size_8abf5
set_option maxRecDepth 20000 in
theorem ggX4_pay_X4_sharesInAll : GoodIn wsX4_pay wsX4_sharesInAll := goodIn_r _ [25, 10, 11, 16, 17, 18, 19, 20, 21, 26, 27, 28, 29, 30, 31, 32, 33, 34, 35, 36, 37, 38, 39, 40, 41, 42, 205, 206, 207, 208, 209, 210, 214, 215, 216, 217, 218, 219, 220, 221, 222] (by decide +kernel) (by decide +kernel)
set_option maxRecDepth 20000 in
theorem gX4_pay_X4_sharesInAll : GoodIn wsX4_pay (wsV RX4 93 RX4 yX4_sharesInAll wsX4_sharesInAll) := goodIn_app (goodIn_of _ (by decide +kernel)) ggX4_pay_X4_sharesInAll
set_option maxRecDepth 20000 in
theorem ggX4_pay_X4_validForms : GoodIn wsX4_pay wsX4_validForms := goodIn_r _ [46, 10, 11, 9, 16, 17, 18, 19, 20, 21, 26, 27, 28, 29, 30, 31, 32, 33, 34, 35, 36, 37, 38, 39, 40, 41, 42, 47, 48, 49, 50, 51, 52, 53, 14, 54, 205, 206, 207, 208, 209, 210, 220, 221, 222, 214, 215, 216, 217, 218, 219] (by decide +kernel) (by decide +kernel)
set_option maxRecDepth 20000 in
theorem gX4_pay_X4_validForms : GoodIn wsX4_pay (wsV RX4 131 RX4 yX4_validForms wsX4_validForms) := goodIn_app (goodIn_of _ (by decide +kernel)) ggX4_pay_X4_validForms
set_option maxRecDepth 20000 in
theorem ggX4_pay_X0_init : GoodIn wsX4_pay wsX0_init := goodIn_r _ [56, 57, 58, 59, 60, 61, 62, 63, 211, 212, 213] (by decide +kernel) (by decide +kernel)
set_option maxRecDepth 20000 in
theorem gX4_pay_X0_init_n134 : GoodIn wsX4_pay (wsX0_init) := ggX4_pay_X0_init
set_option maxRecDepth 20000 in
theorem ggX4_pay_Jx4a65c_get_915e3 : GoodIn wsX4_pay wsJx4a65c_get_915e3 := goodIn_r _ [29, 21, 30, 31, 32, 33, 34, 35, 36, 37, 38, 39, 40, 19, 41, 42, 220, 221, 222] (by decide +kernel) (by decide +kernel)
set_option maxRecDepth 20000 in
theorem gX4_pay_Jx4a65c_get_915e3 : GoodIn wsX4_pay (wsV RX4 105 RJx4a65c yJx4a65c_get_915e3 wsJx4a65c_get_915e3) := goodIn_app (goodIn_of _ (by decide +kernel)) ggX4_pay_Jx4a65c_get_915e3
set_option maxRecDepth 20000 in
theorem ggX4_pay_X4_makePayment : GoodIn wsX4_pay wsX4_makePayment := goodIn_r _ [67, 68, 69, 70, 71, 72, 73, 74, 75, 76, 58, 59, 77, 78, 19, 79, 80, 81, 82, 83, 84, 85, 42, 86, 87, 88, 89, 90, 91, 92, 93, 94, 95, 96, 97, 98, 14, 99, 10, 100, 11, 101, 48, 102, 103, 104, 105, 106, 107, 108, 109, 110, 111, 112, 113, 114, 115, 116, 117, 118, 119, 21, 120, 121, 122, 123, 124, 125, 126, 127, 128, 129, 130, 131, 132, 133, 134, 135, 136, 137, 138, 139, 140, 141, 142, 143, 144, 145, 146, 147, 148, 149, 150, 151, 152, 153, 154, 155, 156, 157, 158, 159, 160, 161, 162, 163, 164, 165, 16, 17, 18, 20, 166, 167, 168, 169, 170, 171, 26, 27, 28, 29, 30, 31, 32, 33, 34, 35, 36, 37, 38, 39, 40, 41, 172, 173, 174, 175, 176, 177, 12, 13, 15, 52, 53, 54, 178, 179, 180, 181, 9, 182, 183, 184, 185, 186, 187, 188, 189, 190, 223, 224, 225, 214, 215, 216, 217, 218, 219, 226, 227, 228, 220, 221, 222, 205, 206, 207, 208, 209, 210] (by decide +kernel) (by decide +kernel)
set_option maxRecDepth 20000 in
theorem gX4_pay_X4_makePayment : GoodIn wsX4_pay (wsV RX4 135 RX4 yX4_makePayment wsX4_makePayment) := goodIn_app (goodIn_of _ (by decide +kernel)) ggX4_pay_X4_makePayment
set_option maxRecDepth 20000 in
theorem ggX4_pay_X0_enter : GoodIn wsX4_pay wsX0_enter := goodIn_r _ [193, 61, 63, 194, 70, 195, 196, 79, 197, 198, 17, 18, 19, 20, 21, 199, 27, 28, 29, 30, 31, 32, 33, 34, 35, 36, 37, 38, 39, 40, 41, 42, 200, 73, 201, 202, 110, 109, 108, 203, 211, 212, 213, 223, 224, 225, 220, 221, 222, 226, 227, 228] (by decide +kernel) (by decide +kernel)
set_option maxRecDepth 20000 in
theorem gX4_pay_X0_enter_n139 : GoodIn wsX4_pay (wsX0_enter) := ggX4_pay_X0_enter
set_option maxRecDepth 20000 in
theorem ggX4_pay_Jx4a65c_add_9ea2d : GoodIn wsX4_pay wsJx4a65c_add_9ea2d := goodIn_r _ [117, 118, 119, 42, 21, 120, 121, 122, 19, 123, 124, 125, 126, 127, 128, 129, 130, 131, 85, 132, 133, 134, 135, 136, 137, 138, 139, 140, 141, 142, 143, 144, 145, 146, 147, 148, 149, 150, 151, 152, 153, 154, 155, 156, 157, 158, 159, 160, 161, 162, 163, 164, 165, 220, 221, 222] (by decide +kernel) (by decide +kernel)
set_option maxRecDepth 20000 in
theorem gX4_pay_Jx4a65c_add_9ea2d : GoodIn wsX4_pay (wsV RX4 67 RJx4a65c yJx4a65c_add_9ea2d wsJx4a65c_add_9ea2d) := goodIn_app (goodIn_of _ (by decide +kernel)) ggX4_pay_Jx4a65c_add_9ea2d
theorem dX4_pay_0 : decode cX4_pay 0 = .ok (.iload_n 1, 1) := by decide +kernel
theorem dX4_pay_1 : decode cX4_pay 1 = .ok (.iconst 1, 1) := by decide +kernel
theorem dX4_pay_2 : decode cX4_pay 2 = .ok (.sipush 1000, 3) := by decide +kernel
theorem dX4_pay_5 : decode cX4_pay 5 = .ok (.invokestatic 38, 3) := by decide +kernel
theorem dX4_pay_8 : decode cX4_pay 8 = .ok (.ifCond .ne 13, 3) := by decide +kernel
theorem dX4_pay_11 : decode cX4_pay 11 = .ok (.new 42, 3) := by decide +kernel
theorem dX4_pay_14 : decode cX4_pay 14 = .ok (.dup, 1) := by decide +kernel
theorem dX4_pay_15 : decode cX4_pay 15 = .ok (.ldc 125, 2) := by decide +kernel
theorem dX4_pay_17 : decode cX4_pay 17 = .ok (.invokespecial 46, 3) := by decide +kernel
theorem dX4_pay_20 : decode cX4_pay 20 = .ok (.athrow, 1) := by decide +kernel
theorem dX4_pay_21 : decode cX4_pay 21 = .ok (.aload_n 0, 1) := by decide +kernel
theorem dX4_pay_22 : decode cX4_pay 22 = .ok (.getfield 23, 3) := by decide +kernel
theorem dX4_pay_25 : decode cX4_pay 25 = .ok (.invokevirtual 53, 3) := by decide +kernel
theorem dX4_pay_28 : decode cX4_pay 28 = .ok (.bipush 40, 2) := by decide +kernel
theorem dX4_pay_30 : decode cX4_pay 30 = .ok (.if_icmp .ge 10, 3) := by decide +kernel
theorem dX4_pay_33 : decode cX4_pay 33 = .ok (.aload_n 0, 1) := by decide +kernel
theorem dX4_pay_34 : decode cX4_pay 34 = .ok (.invokevirtual 93, 3) := by decide +kernel
theorem dX4_pay_37 : decode cX4_pay 37 = .ok (.ifCond .ne 13, 3) := by decide +kernel
theorem dX4_pay_40 : decode cX4_pay 40 = .ok (.new 57, 3) := by decide +kernel
theorem dX4_pay_43 : decode cX4_pay 43 = .ok (.dup, 1) := by decide +kernel
theorem dX4_pay_44 : decode cX4_pay 44 = .ok (.ldc 127, 2) := by decide +kernel
theorem dX4_pay_46 : decode cX4_pay 46 = .ok (.invokespecial 61, 3) := by decide +kernel
theorem dX4_pay_49 : decode cX4_pay 49 = .ok (.athrow, 1) := by decide +kernel
theorem dX4_pay_50 : decode cX4_pay 50 = .ok (.new 129, 3) := by decide +kernel
theorem dX4_pay_53 : decode cX4_pay 53 = .ok (.dup, 1) := by decide +kernel
theorem dX4_pay_54 : decode cX4_pay 54 = .ok (.aload_n 0, 1) := by decide +kernel
theorem dX4_pay_55 : decode cX4_pay 55 = .ok (.getfield 26, 3) := by decide +kernel
theorem dX4_pay_58 : decode cX4_pay 58 = .ok (.aload_n 0, 1) := by decide +kernel
theorem dX4_pay_59 : decode cX4_pay 59 = .ok (.invokevirtual 131, 3) := by decide +kernel
theorem dX4_pay_62 : decode cX4_pay 62 = .ok (.invokespecial 134, 3) := by decide +kernel
theorem dX4_pay_65 : decode cX4_pay 65 = .ok (.astore_n 2, 1) := by decide +kernel
theorem dX4_pay_66 : decode cX4_pay 66 = .ok (.iconst 0, 1) := by decide +kernel
theorem dX4_pay_67 : decode cX4_pay 67 = .ok (.istore_n 3, 1) := by decide +kernel
theorem dX4_pay_68 : decode cX4_pay 68 = .ok (.iload_n 3, 1) := by decide +kernel
theorem dX4_pay_69 : decode cX4_pay 69 = .ok (.aload_n 0, 1) := by decide +kernel
theorem dX4_pay_70 : decode cX4_pay 70 = .ok (.getfield 19, 3) := by decide +kernel
theorem dX4_pay_73 : decode cX4_pay 73 = .ok (.invokevirtual 53, 3) := by decide +kernel
theorem dX4_pay_76 : decode cX4_pay 76 = .ok (.if_icmp .ge 48, 3) := by decide +kernel
theorem dX4_pay_79 : decode cX4_pay 79 = .ok (.aload_n 0, 1) := by decide +kernel
theorem dX4_pay_80 : decode cX4_pay 80 = .ok (.getfield 19, 3) := by decide +kernel
theorem dX4_pay_83 : decode cX4_pay 83 = .ok (.iload_n 3, 1) := by decide +kernel
theorem dX4_pay_84 : decode cX4_pay 84 = .ok (.invokevirtual 105, 3) := by decide +kernel
theorem dX4_pay_87 : decode cX4_pay 87 = .ok (.checkcast 62, 3) := by decide +kernel
theorem dX4_pay_90 : decode cX4_pay 90 = .ok (.getfield 90, 3) := by decide +kernel
theorem dX4_pay_93 : decode cX4_pay 93 = .ok (.ifCond .le 25, 3) := by decide +kernel
theorem dX4_pay_96 : decode cX4_pay 96 = .ok (.aload_n 2, 1) := by decide +kernel
theorem dX4_pay_97 : decode cX4_pay 97 = .ok (.iload_n 3, 1) := by decide +kernel
theorem dX4_pay_98 : decode cX4_pay 98 = .ok (.aload_n 0, 1) := by decide +kernel
theorem dX4_pay_99 : decode cX4_pay 99 = .ok (.iload_n 3, 1) := by decide +kernel
theorem dX4_pay_100 : decode cX4_pay 100 = .ok (.aload_n 0, 1) := by decide +kernel
theorem dX4_pay_101 : decode cX4_pay 101 = .ok (.getfield 19, 3) := by decide +kernel
theorem dX4_pay_104 : decode cX4_pay 104 = .ok (.iload_n 3, 1) := by decide +kernel
theorem dX4_pay_105 : decode cX4_pay 105 = .ok (.invokevirtual 105, 3) := by decide +kernel
theorem dX4_pay_108 : decode cX4_pay 108 = .ok (.checkcast 62, 3) := by decide +kernel
theorem dX4_pay_111 : decode cX4_pay 111 = .ok (.iload_n 1, 1) := by decide +kernel
theorem dX4_pay_112 : decode cX4_pay 112 = .ok (.invokevirtual 135, 3) := by decide +kernel
theorem dX4_pay_115 : decode cX4_pay 115 = .ok (.invokevirtual 139, 3) := by decide +kernel
theorem dX4_pay_118 : decode cX4_pay 118 = .ok (.iinc 3 1, 3) := by decide +kernel
theorem dX4_pay_121 : decode cX4_pay 121 = .ok (.goto (-53), 3) := by decide +kernel
theorem dX4_pay_124 : decode cX4_pay 124 = .ok (.aload_n 0, 1) := by decide +kernel
theorem dX4_pay_125 : decode cX4_pay 125 = .ok (.getfield 23, 3) := by decide +kernel
theorem dX4_pay_128 : decode cX4_pay 128 = .ok (.aload_n 2, 1) := by decide +kernel
theorem dX4_pay_129 : decode cX4_pay 129 = .ok (.invokevirtual 67, 3) := by decide +kernel
theorem dX4_pay_132 : decode cX4_pay 132 = .ok (.pop, 1) := by decide +kernel
theorem dX4_pay_133 : decode cX4_pay 133 = .ok (.aload_n 0, 1) := by decide +kernel
theorem dX4_pay_134 : decode cX4_pay 134 = .ok (.getfield 23, 3) := by decide +kernel
theorem dX4_pay_137 : decode cX4_pay 137 = .ok (.invokevirtual 53, 3) := by decide +kernel
theorem dX4_pay_140 : decode cX4_pay 140 = .ok (.iconst 1, 1) := by decide +kernel
theorem dX4_pay_141 : decode cX4_pay 141 = .ok (.isub, 1) := by decide +kernel
theorem dX4_pay_142 : decode cX4_pay 142 = .ok (.ireturn, 1) := by decide +kernel
set_option maxRecDepth 20000 in
theorem ggX4_dividends_Jx4a65c_size_8abf5 : GoodIn wsX4_dividends wsJx4a65c_size_8abf5 := goodIn_r _ [6, 7, 14, 15, 16] (by decide +kernel) (by decide +kernel)
set_option maxRecDepth 20000 in
theorem gX4_dividends_Jx4a65c_size_8abf5 : GoodIn wsX4_dividends (wsV RX4 53 RJx4a65c yJx4a65c_size_8abf5 wsJx4a65c_size_8abf5) := goodIn_app (goodIn_of _ (by decide +kernel)) ggX4_dividends_Jx4a65c_size_8abf5
theorem dX4_dividends_0 : decode cX4_dividends 0 = .ok (.aload_n 0, 1) := by decide +kernel
theorem dX4_dividends_1 : decode cX4_dividends 1 = .ok (.getfield 23, 3) := by decide +kernel
theorem dX4_dividends_4 : decode cX4_dividends 4 = .ok (.invokevirtual 53, 3) := by decide +kernel
theorem dX4_dividends_7 : decode cX4_dividends 7 = .ok (.ireturn, 1) := by decide +kernel
set_option maxRecDepth 20000 in
theorem ggX4_gross_X4_paymentAt : GoodIn wsX4_gross wsX4_paymentAt := goodIn_ca (goodIn_r _ [5, 6, 7, 8, 9, 10, 4, 11, 12, 13, 14, 15, 16, 17, 18, 19, 20, 21, 22, 23, 24, 25, 26, 27, 28, 29, 30, 31, 32, 33, 34, 35, 36, 37, 38, 39, 40, 41, 42, 43, 44, 45, 46, 47, 48, 49, 53, 54, 55, 56, 57, 58, 59, 60, 61, 62, 63, 64] (by decide +kernel) (by decide +kernel)) (goodIn_sub (fun _ h => List.mem_cons_of_mem _ (List.mem_append_right _ h)) (by decide +kernel))
set_option maxRecDepth 20000 in
theorem gX4_gross_X4_paymentAt : GoodIn wsX4_gross (wsV RX4 143 RX4 yX4_paymentAt wsX4_paymentAt) := goodIn_app (goodIn_of _ (by decide +kernel)) ggX4_gross_X4_paymentAt
theorem dX4_gross_0 : decode cX4_gross 0 = .ok (.aload_n 0, 1) := by decide +kernel
theorem dX4_gross_1 : decode cX4_gross 1 = .ok (.iload_n 1, 1) := by decide +kernel
theorem dX4_gross_2 : decode cX4_gross 2 = .ok (.iload_n 2, 1) := by decide +kernel
theorem dX4_gross_3 : decode cX4_gross 3 = .ok (.invokevirtual 143, 3) := by decide +kernel
theorem dX4_gross_6 : decode cX4_gross 6 = .ok (.astore_n 3, 1) := by decide +kernel
theorem dX4_gross_7 : decode cX4_gross 7 = .ok (.aload_n 3, 1) := by decide +kernel
theorem dX4_gross_8 : decode cX4_gross 8 = .ok (.ifnonnull 7, 3) := by decide +kernel
theorem dX4_gross_11 : decode cX4_gross 11 = .ok (.iconst 0, 1) := by decide +kernel
theorem dX4_gross_12 : decode cX4_gross 12 = .ok (.goto 7, 3) := by decide +kernel
theorem dX4_gross_15 : decode cX4_gross 15 = .ok (.aload_n 3, 1) := by decide +kernel
theorem dX4_gross_16 : decode cX4_gross 16 = .ok (.getfield 147, 3) := by decide +kernel
theorem dX4_gross_19 : decode cX4_gross 19 = .ok (.ireturn, 1) := by decide +kernel
set_option maxRecDepth 20000 in
theorem ggX4_held_X4_paymentAt : GoodIn wsX4_held wsX4_paymentAt := goodIn_ca (goodIn_r _ [5, 6, 7, 8, 9, 10, 4, 11, 12, 13, 14, 15, 16, 17, 18, 19, 20, 21, 22, 23, 24, 25, 26, 27, 28, 29, 30, 31, 32, 33, 34, 35, 36, 37, 38, 39, 40, 41, 42, 43, 44, 45, 46, 47, 48, 49, 53, 54, 55, 56, 57, 58, 59, 60, 61, 62, 63, 64] (by decide +kernel) (by decide +kernel)) (goodIn_sub (fun _ h => List.mem_cons_of_mem _ (List.mem_append_right _ h)) (by decide +kernel))
set_option maxRecDepth 20000 in
theorem gX4_held_X4_paymentAt : GoodIn wsX4_held (wsV RX4 143 RX4 yX4_paymentAt wsX4_paymentAt) := goodIn_app (goodIn_of _ (by decide +kernel)) ggX4_held_X4_paymentAt
theorem dX4_held_0 : decode cX4_held 0 = .ok (.aload_n 0, 1) := by decide +kernel
theorem dX4_held_1 : decode cX4_held 1 = .ok (.iload_n 1, 1) := by decide +kernel
theorem dX4_held_2 : decode cX4_held 2 = .ok (.iload_n 2, 1) := by decide +kernel
theorem dX4_held_3 : decode cX4_held 3 = .ok (.invokevirtual 143, 3) := by decide +kernel
theorem dX4_held_6 : decode cX4_held 6 = .ok (.astore_n 3, 1) := by decide +kernel
theorem dX4_held_7 : decode cX4_held 7 = .ok (.aload_n 3, 1) := by decide +kernel
theorem dX4_held_8 : decode cX4_held 8 = .ok (.ifnonnull 7, 3) := by decide +kernel
theorem dX4_held_11 : decode cX4_held 11 = .ok (.iconst 0, 1) := by decide +kernel
theorem dX4_held_12 : decode cX4_held 12 = .ok (.goto 7, 3) := by decide +kernel
theorem dX4_held_15 : decode cX4_held 15 = .ok (.aload_n 3, 1) := by decide +kernel
theorem dX4_held_16 : decode cX4_held 16 = .ok (.getfield 152, 3) := by decide +kernel
theorem dX4_held_19 : decode cX4_held 19 = .ok (.ireturn, 1) := by decide +kernel
set_option maxRecDepth 20000 in
theorem ggX4_due_X4_paymentAt : GoodIn wsX4_due wsX4_paymentAt := goodIn_ca (goodIn_r _ [5, 6, 7, 8, 9, 10, 4, 11, 12, 13, 14, 15, 16, 17, 18, 19, 20, 21, 22, 23, 24, 25, 26, 27, 28, 29, 30, 31, 32, 33, 34, 35, 36, 37, 38, 39, 40, 41, 42, 43, 44, 45, 46, 47, 48, 49, 66, 67, 68, 69, 70, 71, 72, 73, 74, 75, 76, 77] (by decide +kernel) (by decide +kernel)) (goodIn_sub (fun _ h => List.mem_cons_of_mem _ (List.mem_append_right _ h)) (by decide +kernel))
set_option maxRecDepth 20000 in
theorem gX4_due_X4_paymentAt : GoodIn wsX4_due (wsV RX4 143 RX4 yX4_paymentAt wsX4_paymentAt) := goodIn_app (goodIn_of _ (by decide +kernel)) ggX4_due_X4_paymentAt
set_option maxRecDepth 20000 in
theorem ggX4_due_X2_taxWith : GoodIn wsX4_due wsX2_taxWith := goodIn_r _ [53, 54, 55, 56, 15, 16, 17, 18, 19, 57, 24, 25, 26, 27, 28, 29, 30, 31, 32, 33, 34, 35, 36, 37, 38, 39, 58, 59, 60, 61, 62, 63, 64, 65, 78, 79, 80, 72, 73, 74, 81, 82, 83] (by decide +kernel) (by decide +kernel)
set_option maxRecDepth 20000 in
theorem gX4_due_X2_taxWith_n155 : GoodIn wsX4_due (wsX2_taxWith) := ggX4_due_X2_taxWith
theorem dX4_due_0 : decode cX4_due 0 = .ok (.aload_n 0, 1) := by decide +kernel
theorem dX4_due_1 : decode cX4_due 1 = .ok (.iload_n 1, 1) := by decide +kernel
theorem dX4_due_2 : decode cX4_due 2 = .ok (.iload_n 2, 1) := by decide +kernel
theorem dX4_due_3 : decode cX4_due 3 = .ok (.invokevirtual 143, 3) := by decide +kernel
theorem dX4_due_6 : decode cX4_due 6 = .ok (.astore_n 3, 1) := by decide +kernel
theorem dX4_due_7 : decode cX4_due 7 = .ok (.aload_n 3, 1) := by decide +kernel
theorem dX4_due_8 : decode cX4_due 8 = .ok (.ifnonnull 7, 3) := by decide +kernel
theorem dX4_due_11 : decode cX4_due 11 = .ok (.iconst 0, 1) := by decide +kernel
theorem dX4_due_12 : decode cX4_due 12 = .ok (.goto 8, 3) := by decide +kernel
theorem dX4_due_15 : decode cX4_due 15 = .ok (.aload_n 3, 1) := by decide +kernel
theorem dX4_due_16 : decode cX4_due 16 = .ok (.iconst (-1), 1) := by decide +kernel
theorem dX4_due_17 : decode cX4_due 17 = .ok (.invokevirtual 155, 3) := by decide +kernel
theorem dX4_due_20 : decode cX4_due 20 = .ok (.ireturn, 1) := by decide +kernel
set_option maxRecDepth 20000 in
theorem ggX4_heldInAll_Jx4a65c_size_8abf5 : GoodIn wsX4_heldInAll wsJx4a65c_size_8abf5 := goodIn_r _ [7, 8, 37, 38, 39] (by decide +kernel) (by decide +kernel)
set_option maxRecDepth 20000 in
theorem gX4_heldInAll_Jx4a65c_size_8abf5 : GoodIn wsX4_heldInAll (wsV RX4 53 RJx4a65c yJx4a65c_size_8abf5 wsJx4a65c_size_8abf5) := goodIn_app (goodIn_of _ (by decide +kernel)) ggX4_heldInAll_Jx4a65c_size_8abf5
set_option maxRecDepth 20000 in
theorem ggX4_heldInAll_Jx4a65c_get_915e3 : GoodIn wsX4_heldInAll wsJx4a65c_get_915e3 := goodIn_r _ [12, 8, 13, 14, 15, 16, 17, 18, 19, 20, 21, 22, 23, 6, 24, 25, 37, 38, 39] (by decide +kernel) (by decide +kernel)
set_option maxRecDepth 20000 in
theorem gX4_heldInAll_Jx4a65c_get_915e3 : GoodIn wsX4_heldInAll (wsV RX4 105 RJx4a65c yJx4a65c_get_915e3 wsJx4a65c_get_915e3) := goodIn_app (goodIn_of _ (by decide +kernel)) ggX4_heldInAll_Jx4a65c_get_915e3
set_option maxRecDepth 20000 in
theorem ggX4_heldInAll_X0_heldOfAll : GoodIn wsX4_heldInAll wsX0_heldOfAll := goodIn_r _ [29, 30, 40, 41, 42, 43, 44, 45] (by decide +kernel) (by decide +kernel)
set_option maxRecDepth 20000 in
theorem gX4_heldInAll_X0_heldOfAll_n158 : GoodIn wsX4_heldInAll (wsX0_heldOfAll) := ggX4_heldInAll_X0_heldOfAll
theorem dX4_heldInAll_0 : decode cX4_heldInAll 0 = .ok (.lconst 0, 1) := by decide +kernel
theorem dX4_heldInAll_1 : decode cX4_heldInAll 1 = .ok (.lstore_n 1, 1) := by decide +kernel
theorem dX4_heldInAll_2 : decode cX4_heldInAll 2 = .ok (.iconst 0, 1) := by decide +kernel
theorem dX4_heldInAll_3 : decode cX4_heldInAll 3 = .ok (.istore_n 3, 1) := by decide +kernel
theorem dX4_heldInAll_4 : decode cX4_heldInAll 4 = .ok (.iload_n 3, 1) := by decide +kernel
theorem dX4_heldInAll_5 : decode cX4_heldInAll 5 = .ok (.aload_n 0, 1) := by decide +kernel
theorem dX4_heldInAll_6 : decode cX4_heldInAll 6 = .ok (.getfield 23, 3) := by decide +kernel
theorem dX4_heldInAll_9 : decode cX4_heldInAll 9 = .ok (.invokevirtual 53, 3) := by decide +kernel
theorem dX4_heldInAll_12 : decode cX4_heldInAll 12 = .ok (.if_icmp .ge 26, 3) := by decide +kernel
theorem dX4_heldInAll_15 : decode cX4_heldInAll 15 = .ok (.lload_n 1, 1) := by decide +kernel
theorem dX4_heldInAll_16 : decode cX4_heldInAll 16 = .ok (.aload_n 0, 1) := by decide +kernel
theorem dX4_heldInAll_17 : decode cX4_heldInAll 17 = .ok (.getfield 23, 3) := by decide +kernel
theorem dX4_heldInAll_20 : decode cX4_heldInAll 20 = .ok (.iload_n 3, 1) := by decide +kernel
theorem dX4_heldInAll_21 : decode cX4_heldInAll 21 = .ok (.invokevirtual 105, 3) := by decide +kernel
theorem dX4_heldInAll_24 : decode cX4_heldInAll 24 = .ok (.checkcast 129, 3) := by decide +kernel
theorem dX4_heldInAll_27 : decode cX4_heldInAll 27 = .ok (.invokevirtual 158, 3) := by decide +kernel
theorem dX4_heldInAll_30 : decode cX4_heldInAll 30 = .ok (.ladd, 1) := by decide +kernel
theorem dX4_heldInAll_31 : decode cX4_heldInAll 31 = .ok (.lstore_n 1, 1) := by decide +kernel
theorem dX4_heldInAll_32 : decode cX4_heldInAll 32 = .ok (.iinc 3 1, 3) := by decide +kernel
theorem dX4_heldInAll_35 : decode cX4_heldInAll 35 = .ok (.goto (-31), 3) := by decide +kernel
theorem dX4_heldInAll_38 : decode cX4_heldInAll 38 = .ok (.lload_n 1, 1) := by decide +kernel
theorem dX4_heldInAll_39 : decode cX4_heldInAll 39 = .ok (.lreturn, 1) := by decide +kernel
theorem dX4_refunded_0 : decode cX4_refunded 0 = .ok (.aload_n 0, 1) := by decide +kernel
theorem dX4_refunded_1 : decode cX4_refunded 1 = .ok (.getfield 30, 3) := by decide +kernel
theorem dX4_refunded_4 : decode cX4_refunded 4 = .ok (.lreturn, 1) := by decide +kernel
set_option maxRecDepth 20000 in
theorem ggX4_refund_X4_refundablePayment : GoodIn wsX4_refund wsX4_refundablePayment := goodIn_ca (goodIn_ca (goodIn_r _ [5, 6, 7, 8, 9, 10, 11, 4, 12, 13, 14, 15, 16, 17, 18, 19, 20, 21, 22, 23, 24, 25, 26, 27, 28, 29, 30, 31, 32, 33, 34, 35, 36, 37, 38, 39, 40, 41, 42, 43, 44, 45, 46, 47, 48, 49, 50, 51, 52, 53, 54, 55, 56, 102, 103, 104, 105, 106, 107, 99, 100, 101, 108, 109, 110] (by decide +kernel) (by decide +kernel)) (goodIn_sub (fun _ h => List.mem_cons_of_mem _ (List.mem_append_left _ (List.mem_append_right _ h))) (by decide +kernel))) (goodIn_sub (fun _ h => List.mem_cons_of_mem _ (List.mem_append_right _ h)) (by decide +kernel))
set_option maxRecDepth 20000 in
theorem gX4_refund_X4_refundablePayment : GoodIn wsX4_refund (wsV RX4 162 RX4 yX4_refundablePayment wsX4_refundablePayment) := goodIn_app (goodIn_of _ (by decide +kernel)) ggX4_refund_X4_refundablePayment
set_option maxRecDepth 20000 in
theorem ggX4_refund_X4_dividendAt : GoodIn wsX4_refund wsX4_dividendAt := goodIn_ca (goodIn_r _ [18, 13, 14, 19, 20, 21, 22, 23, 24, 25, 26, 27, 28, 4, 29, 30, 31, 32, 33, 34, 35, 36, 37, 38, 39, 40, 41, 42, 43, 44, 45, 46, 102, 103, 104, 105, 106, 107, 108, 109, 110] (by decide +kernel) (by decide +kernel)) (goodIn_sub (fun _ h => List.mem_cons_of_mem _ (List.mem_append_right _ h)) (by decide +kernel))
set_option maxRecDepth 20000 in
theorem gX4_refund_X4_dividendAt : GoodIn wsX4_refund (wsV RX4 166 RX4 yX4_dividendAt wsX4_dividendAt) := goodIn_app (goodIn_of _ (by decide +kernel)) ggX4_refund_X4_dividendAt
set_option maxRecDepth 20000 in
theorem ggX4_refund_X4_validForms : GoodIn wsX4_refund wsX4_validForms := goodIn_r _ [60, 51, 61, 8, 21, 22, 23, 24, 25, 26, 30, 31, 32, 33, 34, 35, 36, 37, 38, 39, 40, 41, 42, 43, 44, 45, 46, 62, 63, 64, 65, 66, 67, 68, 4, 69, 102, 103, 104, 105, 106, 107, 108, 109, 110, 111, 112, 113, 114, 115, 116] (by decide +kernel) (by decide +kernel)
set_option maxRecDepth 20000 in
theorem gX4_refund_X4_validForms : GoodIn wsX4_refund (wsV RX4 131 RX4 yX4_validForms wsX4_validForms) := goodIn_app (goodIn_of _ (by decide +kernel)) ggX4_refund_X4_validForms
set_option maxRecDepth 20000 in
theorem ggX4_refund_X2_taxWith : GoodIn wsX4_refund wsX2_taxWith := goodIn_r _ [73, 74, 75, 76, 22, 23, 24, 25, 26, 77, 31, 32, 33, 34, 35, 36, 37, 38, 39, 40, 41, 42, 43, 44, 45, 46, 78, 79, 80, 81, 82, 83, 84, 85, 117, 118, 119, 108, 109, 110, 120, 121, 122] (by decide +kernel) (by decide +kernel)
set_option maxRecDepth 20000 in
theorem gX4_refund_X2_taxWith_n155 : GoodIn wsX4_refund (wsX2_taxWith) := ggX4_refund_X2_taxWith
set_option maxRecDepth 20000 in
theorem ggX4_refund_X4_giveBack : GoodIn wsX4_refund wsX4_giveBack := goodIn_r _ [89, 90, 91, 71, 92, 93, 94, 95, 96, 97, 98, 102, 103, 104, 105, 106, 107, 117, 118, 119] (by decide +kernel) (by decide +kernel)
set_option maxRecDepth 20000 in
theorem gX4_refund_X4_giveBack : GoodIn wsX4_refund (wsV RX4 173 RX4 yX4_giveBack wsX4_giveBack) := goodIn_app (goodIn_of _ (by decide +kernel)) ggX4_refund_X4_giveBack
theorem dX4_refund_0 : decode cX4_refund 0 = .ok (.aload_n 0, 1) := by decide +kernel
theorem dX4_refund_1 : decode cX4_refund 1 = .ok (.iload_n 1, 1) := by decide +kernel
theorem dX4_refund_2 : decode cX4_refund 2 = .ok (.iload_n 2, 1) := by decide +kernel
theorem dX4_refund_3 : decode cX4_refund 3 = .ok (.bipush 60, 2) := by decide +kernel
theorem dX4_refund_5 : decode cX4_refund 5 = .ok (.invokevirtual 162, 3) := by decide +kernel
theorem dX4_refund_8 : decode cX4_refund 8 = .ok (.astore_n 3, 1) := by decide +kernel
theorem dX4_refund_9 : decode cX4_refund 9 = .ok (.aload_n 0, 1) := by decide +kernel
theorem dX4_refund_10 : decode cX4_refund 10 = .ok (.iload_n 1, 1) := by decide +kernel
theorem dX4_refund_11 : decode cX4_refund 11 = .ok (.invokevirtual 166, 3) := by decide +kernel
theorem dX4_refund_14 : decode cX4_refund 14 = .ok (.getfield 170, 3) := by decide +kernel
theorem dX4_refund_17 : decode cX4_refund 17 = .ok (.istore 4, 2) := by decide +kernel
theorem dX4_refund_19 : decode cX4_refund 19 = .ok (.aload_n 0, 1) := by decide +kernel
theorem dX4_refund_20 : decode cX4_refund 20 = .ok (.aload_n 3, 1) := by decide +kernel
theorem dX4_refund_21 : decode cX4_refund 21 = .ok (.aload_n 3, 1) := by decide +kernel
theorem dX4_refund_22 : decode cX4_refund 22 = .ok (.iload 4, 2) := by decide +kernel
theorem dX4_refund_24 : decode cX4_refund 24 = .ok (.aload_n 0, 1) := by decide +kernel
theorem dX4_refund_25 : decode cX4_refund 25 = .ok (.invokevirtual 131, 3) := by decide +kernel
theorem dX4_refund_28 : decode cX4_refund 28 = .ok (.ior, 1) := by decide +kernel
theorem dX4_refund_29 : decode cX4_refund 29 = .ok (.invokevirtual 155, 3) := by decide +kernel
theorem dX4_refund_32 : decode cX4_refund 32 = .ok (.invokevirtual 173, 3) := by decide +kernel
theorem dX4_refund_35 : decode cX4_refund 35 = .ok (.ireturn, 1) := by decide +kernel
set_option maxRecDepth 20000 in
theorem ggX4_claim_X4_refundablePayment : GoodIn wsX4_claim wsX4_refundablePayment := goodIn_ca (goodIn_ca (goodIn_r _ [8, 1, 2, 3, 9, 10, 11, 7, 12, 13, 14, 15, 16, 17, 18, 19, 20, 21, 22, 23, 24, 25, 26, 27, 28, 29, 30, 31, 32, 33, 34, 35, 36, 37, 38, 39, 40, 41, 42, 43, 44, 45, 46, 47, 48, 49, 50, 51, 52, 53, 54, 55, 56, 96, 97, 98, 99, 100, 101, 102, 103, 104, 105, 106, 107] (by decide +kernel) (by decide +kernel)) (goodIn_sub (fun _ h => List.mem_cons_of_mem _ (List.mem_append_left _ (List.mem_append_right _ h))) (by decide +kernel))) (goodIn_sub (fun _ h => List.mem_cons_of_mem _ (List.mem_append_right _ h)) (by decide +kernel))
set_option maxRecDepth 20000 in
theorem gX4_claim_X4_refundablePayment : GoodIn wsX4_claim (wsV RX4 162 RX4 yX4_refundablePayment wsX4_refundablePayment) := goodIn_app (goodIn_of _ (by decide +kernel)) ggX4_claim_X4_refundablePayment
set_option maxRecDepth 20000 in
theorem ggX4_claim_X4_holderAt : GoodIn wsX4_claim wsX4_holderAt := goodIn_ca (goodIn_r _ [60, 13, 14, 51, 61, 47, 48, 49, 7, 50, 21, 22, 23, 24, 25, 26, 27, 28, 29, 30, 31, 32, 33, 34, 35, 36, 37, 38, 39, 40, 41, 42, 43, 44, 45, 46, 96, 97, 98, 99, 100, 101, 105, 106, 107] (by decide +kernel) (by decide +kernel)) (goodIn_sub (fun _ h => List.mem_cons_of_mem _ (List.mem_append_right _ h)) (by decide +kernel))
set_option maxRecDepth 20000 in
theorem gX4_claim_X4_holderAt : GoodIn wsX4_claim (wsV RX4 71 RX4 yX4_holderAt wsX4_holderAt) := goodIn_app (goodIn_of _ (by decide +kernel)) ggX4_claim_X4_holderAt
set_option maxRecDepth 20000 in
theorem ggX4_claim_X1_hasFormOn : GoodIn wsX4_claim wsX1_hasFormOn := goodIn_r _ [65, 66, 108, 109, 110, 111, 112, 113] (by decide +kernel) (by decide +kernel)
set_option maxRecDepth 20000 in
theorem gX4_claim_X1_hasFormOn_n113 : GoodIn wsX4_claim (wsX1_hasFormOn) := ggX4_claim_X1_hasFormOn
set_option maxRecDepth 20000 in
theorem ggX4_claim_X2_taxWith : GoodIn wsX4_claim wsX2_taxWith := goodIn_r _ [70, 71, 72, 73, 22, 23, 24, 25, 26, 74, 31, 32, 33, 34, 35, 36, 37, 38, 39, 40, 41, 42, 43, 44, 45, 46, 75, 76, 77, 78, 79, 80, 81, 82, 114, 115, 116, 105, 106, 107, 117, 118, 119] (by decide +kernel) (by decide +kernel)
set_option maxRecDepth 20000 in
theorem gX4_claim_X2_taxWith_n155 : GoodIn wsX4_claim (wsX2_taxWith) := ggX4_claim_X2_taxWith
set_option maxRecDepth 20000 in
theorem ggX4_claim_X4_giveBack : GoodIn wsX4_claim wsX4_giveBack := goodIn_r _ [86, 87, 88, 68, 89, 90, 91, 92, 93, 94, 95, 96, 97, 98, 99, 100, 101, 114, 115, 116] (by decide +kernel) (by decide +kernel)
set_option maxRecDepth 20000 in
theorem gX4_claim_X4_giveBack : GoodIn wsX4_claim (wsV RX4 173 RX4 yX4_giveBack wsX4_giveBack) := goodIn_app (goodIn_of _ (by decide +kernel)) ggX4_claim_X4_giveBack
theorem dX4_claim_0 : decode cX4_claim 0 = .ok (.aload_n 0, 1) := by decide +kernel
theorem dX4_claim_1 : decode cX4_claim 1 = .ok (.iload_n 1, 1) := by decide +kernel
theorem dX4_claim_2 : decode cX4_claim 2 = .ok (.iload_n 2, 1) := by decide +kernel
theorem dX4_claim_3 : decode cX4_claim 3 = .ok (.sipush 1080, 3) := by decide +kernel
theorem dX4_claim_6 : decode cX4_claim 6 = .ok (.invokevirtual 162, 3) := by decide +kernel
theorem dX4_claim_9 : decode cX4_claim 9 = .ok (.astore_n 3, 1) := by decide +kernel
theorem dX4_claim_10 : decode cX4_claim 10 = .ok (.aload_n 0, 1) := by decide +kernel
theorem dX4_claim_11 : decode cX4_claim 11 = .ok (.iload_n 2, 1) := by decide +kernel
theorem dX4_claim_12 : decode cX4_claim 12 = .ok (.invokevirtual 71, 3) := by decide +kernel
theorem dX4_claim_15 : decode cX4_claim 15 = .ok (.aload_n 0, 1) := by decide +kernel
theorem dX4_claim_16 : decode cX4_claim 16 = .ok (.getfield 26, 3) := by decide +kernel
theorem dX4_claim_19 : decode cX4_claim 19 = .ok (.invokevirtual 113, 3) := by decide +kernel
theorem dX4_claim_22 : decode cX4_claim 22 = .ok (.ifCond .ne 13, 3) := by decide +kernel
theorem dX4_claim_25 : decode cX4_claim 25 = .ok (.new 57, 3) := by decide +kernel
theorem dX4_claim_28 : decode cX4_claim 28 = .ok (.dup, 1) := by decide +kernel
theorem dX4_claim_29 : decode cX4_claim 29 = .ok (.ldc 177, 2) := by decide +kernel
theorem dX4_claim_31 : decode cX4_claim 31 = .ok (.invokespecial 61, 3) := by decide +kernel
theorem dX4_claim_34 : decode cX4_claim 34 = .ok (.athrow, 1) := by decide +kernel
theorem dX4_claim_35 : decode cX4_claim 35 = .ok (.aload_n 0, 1) := by decide +kernel
theorem dX4_claim_36 : decode cX4_claim 36 = .ok (.aload_n 3, 1) := by decide +kernel
theorem dX4_claim_37 : decode cX4_claim 37 = .ok (.aload_n 3, 1) := by decide +kernel
theorem dX4_claim_38 : decode cX4_claim 38 = .ok (.iconst (-1), 1) := by decide +kernel
theorem dX4_claim_39 : decode cX4_claim 39 = .ok (.invokevirtual 155, 3) := by decide +kernel
theorem dX4_claim_42 : decode cX4_claim 42 = .ok (.invokevirtual 173, 3) := by decide +kernel
theorem dX4_claim_45 : decode cX4_claim 45 = .ok (.ireturn, 1) := by decide +kernel
theorem dX4_isWithin_0 : decode cX4_isWithin 0 = .ok (.iload_n 0, 1) := by decide +kernel
theorem dX4_isWithin_1 : decode cX4_isWithin 1 = .ok (.iload_n 1, 1) := by decide +kernel
theorem dX4_isWithin_2 : decode cX4_isWithin 2 = .ok (.if_icmp .lt 12, 3) := by decide +kernel
theorem dX4_isWithin_5 : decode cX4_isWithin 5 = .ok (.iload_n 0, 1) := by decide +kernel
theorem dX4_isWithin_6 : decode cX4_isWithin 6 = .ok (.iload_n 2, 1) := by decide +kernel
theorem dX4_isWithin_7 : decode cX4_isWithin 7 = .ok (.if_icmp .gt 7, 3) := by decide +kernel
theorem dX4_isWithin_10 : decode cX4_isWithin 10 = .ok (.iconst 1, 1) := by decide +kernel
theorem dX4_isWithin_11 : decode cX4_isWithin 11 = .ok (.goto 4, 3) := by decide +kernel
theorem dX4_isWithin_14 : decode cX4_isWithin 14 = .ok (.iconst 0, 1) := by decide +kernel
theorem dX4_isWithin_15 : decode cX4_isWithin 15 = .ok (.ireturn, 1) := by decide +kernel
set_option maxRecDepth 20000 in
theorem ggX4_isLand_X4_isWithin : GoodIn wsX4_isLand wsX4_isWithin := goodIn_r _ [4] (by decide +kernel) (by decide +kernel)
set_option maxRecDepth 20000 in
theorem gX4_isLand_X4_isWithin : GoodIn wsX4_isLand (va_wsS RX4 38 yX4_isWithin wsX4_isWithin) := goodIn_app (goodIn_of _ (by decide +kernel)) ggX4_isLand_X4_isWithin
theorem dX4_isLand_0 : decode cX4_isLand 0 = .ok (.iload_n 0, 1) := by decide +kernel
theorem dX4_isLand_1 : decode cX4_isLand 1 = .ok (.iconst 0, 1) := by decide +kernel
theorem dX4_isLand_2 : decode cX4_isLand 2 = .ok (.iconst 5, 1) := by decide +kernel
theorem dX4_isLand_3 : decode cX4_isLand 3 = .ok (.invokestatic 38, 3) := by decide +kernel
theorem dX4_isLand_6 : decode cX4_isLand 6 = .ok (.ireturn, 1) := by decide +kernel
set_option maxRecDepth 20000 in
theorem ggX4_isHolder_Jx4a65c_size_8abf5 : GoodIn wsX4_isHolder wsJx4a65c_size_8abf5 := goodIn_r _ [6, 7, 18, 19, 20] (by decide +kernel) (by decide +kernel)
set_option maxRecDepth 20000 in
theorem gX4_isHolder_Jx4a65c_size_8abf5 : GoodIn wsX4_isHolder (wsV RX4 53 RJx4a65c yJx4a65c_size_8abf5 wsJx4a65c_size_8abf5) := goodIn_app (goodIn_of _ (by decide +kernel)) ggX4_isHolder_Jx4a65c_size_8abf5
set_option maxRecDepth 20000 in
theorem ggX4_isHolder_X4_isWithin : GoodIn wsX4_isHolder wsX4_isWithin := goodIn_r _ [11] (by decide +kernel) (by decide +kernel)
set_option maxRecDepth 20000 in
theorem gX4_isHolder_X4_isWithin : GoodIn wsX4_isHolder (va_wsS RX4 38 yX4_isWithin wsX4_isWithin) := goodIn_app (goodIn_of _ (by decide +kernel)) ggX4_isHolder_X4_isWithin
theorem dX4_isHolder_0 : decode cX4_isHolder 0 = .ok (.iload_n 1, 1) := by decide +kernel
theorem dX4_isHolder_1 : decode cX4_isHolder 1 = .ok (.iconst 0, 1) := by decide +kernel
theorem dX4_isHolder_2 : decode cX4_isHolder 2 = .ok (.aload_n 0, 1) := by decide +kernel
theorem dX4_isHolder_3 : decode cX4_isHolder 3 = .ok (.getfield 19, 3) := by decide +kernel
theorem dX4_isHolder_6 : decode cX4_isHolder 6 = .ok (.invokevirtual 53, 3) := by decide +kernel
theorem dX4_isHolder_9 : decode cX4_isHolder 9 = .ok (.iconst 1, 1) := by decide +kernel
theorem dX4_isHolder_10 : decode cX4_isHolder 10 = .ok (.isub, 1) := by decide +kernel
theorem dX4_isHolder_11 : decode cX4_isHolder 11 = .ok (.invokestatic 38, 3) := by decide +kernel
theorem dX4_isHolder_14 : decode cX4_isHolder 14 = .ok (.ireturn, 1) := by decide +kernel
set_option maxRecDepth 20000 in
theorem ggX4_holderAt_X4_isHolder : GoodIn wsX4_holderAt wsX4_isHolder := goodIn_r _ [9, 3, 10, 11, 12, 13, 14, 15, 16, 17, 8, 18, 36, 37, 38, 39, 40, 41, 42, 43, 44] (by decide +kernel) (by decide +kernel)
set_option maxRecDepth 20000 in
theorem gX4_holderAt_X4_isHolder : GoodIn wsX4_holderAt (wsV RX4 179 RX4 yX4_isHolder wsX4_isHolder) := goodIn_app (goodIn_of _ (by decide +kernel)) ggX4_holderAt_X4_isHolder
set_option maxRecDepth 20000 in
theorem ggX4_holderAt_Jx4a65c_get_915e3 : GoodIn wsX4_holderAt wsJx4a65c_get_915e3 := goodIn_r _ [22, 15, 23, 24, 25, 26, 27, 28, 29, 30, 31, 32, 33, 13, 34, 35, 42, 43, 44] (by decide +kernel) (by decide +kernel)
set_option maxRecDepth 20000 in
theorem gX4_holderAt_Jx4a65c_get_915e3 : GoodIn wsX4_holderAt (wsV RX4 105 RJx4a65c yJx4a65c_get_915e3 wsJx4a65c_get_915e3) := goodIn_app (goodIn_of _ (by decide +kernel)) ggX4_holderAt_Jx4a65c_get_915e3
theorem dX4_holderAt_0 : decode cX4_holderAt 0 = .ok (.aload_n 0, 1) := by decide +kernel
theorem dX4_holderAt_1 : decode cX4_holderAt 1 = .ok (.iload_n 1, 1) := by decide +kernel
theorem dX4_holderAt_2 : decode cX4_holderAt 2 = .ok (.invokevirtual 179, 3) := by decide +kernel
theorem dX4_holderAt_5 : decode cX4_holderAt 5 = .ok (.ifCond .ne 13, 3) := by decide +kernel
theorem dX4_holderAt_8 : decode cX4_holderAt 8 = .ok (.new 182, 3) := by decide +kernel
theorem dX4_holderAt_11 : decode cX4_holderAt 11 = .ok (.dup, 1) := by decide +kernel
theorem dX4_holderAt_12 : decode cX4_holderAt 12 = .ok (.ldc 184, 2) := by decide +kernel
theorem dX4_holderAt_14 : decode cX4_holderAt 14 = .ok (.invokespecial 186, 3) := by decide +kernel
theorem dX4_holderAt_17 : decode cX4_holderAt 17 = .ok (.athrow, 1) := by decide +kernel
theorem dX4_holderAt_18 : decode cX4_holderAt 18 = .ok (.aload_n 0, 1) := by decide +kernel
theorem dX4_holderAt_19 : decode cX4_holderAt 19 = .ok (.getfield 19, 3) := by decide +kernel
theorem dX4_holderAt_22 : decode cX4_holderAt 22 = .ok (.iload_n 1, 1) := by decide +kernel
theorem dX4_holderAt_23 : decode cX4_holderAt 23 = .ok (.invokevirtual 105, 3) := by decide +kernel
theorem dX4_holderAt_26 : decode cX4_holderAt 26 = .ok (.checkcast 62, 3) := by decide +kernel
theorem dX4_holderAt_29 : decode cX4_holderAt 29 = .ok (.areturn, 1) := by decide +kernel
set_option maxRecDepth 20000 in
theorem ggX4_dividendAt_Jx4a65c_size_8abf5 : GoodIn wsX4_dividendAt wsJx4a65c_size_8abf5 := goodIn_r _ [9, 10, 38, 39, 40] (by decide +kernel) (by decide +kernel)
set_option maxRecDepth 20000 in
theorem gX4_dividendAt_Jx4a65c_size_8abf5 : GoodIn wsX4_dividendAt (wsV RX4 53 RJx4a65c yJx4a65c_size_8abf5 wsJx4a65c_size_8abf5) := goodIn_app (goodIn_of _ (by decide +kernel)) ggX4_dividendAt_Jx4a65c_size_8abf5
set_option maxRecDepth 20000 in
theorem ggX4_dividendAt_X4_isWithin : GoodIn wsX4_dividendAt wsX4_isWithin := goodIn_r _ [14] (by decide +kernel) (by decide +kernel)
set_option maxRecDepth 20000 in
theorem gX4_dividendAt_X4_isWithin : GoodIn wsX4_dividendAt (va_wsS RX4 38 yX4_isWithin wsX4_isWithin) := goodIn_app (goodIn_of _ (by decide +kernel)) ggX4_dividendAt_X4_isWithin
set_option maxRecDepth 20000 in
theorem ggX4_dividendAt_Jx4a65c_get_915e3 : GoodIn wsX4_dividendAt wsJx4a65c_get_915e3 := goodIn_r _ [18, 10, 19, 20, 21, 22, 23, 24, 25, 26, 27, 28, 29, 8, 30, 31, 38, 39, 40] (by decide +kernel) (by decide +kernel)
set_option maxRecDepth 20000 in
theorem gX4_dividendAt_Jx4a65c_get_915e3 : GoodIn wsX4_dividendAt (wsV RX4 105 RJx4a65c yJx4a65c_get_915e3 wsJx4a65c_get_915e3) := goodIn_app (goodIn_of _ (by decide +kernel)) ggX4_dividendAt_Jx4a65c_get_915e3
theorem dX4_dividendAt_0 : decode cX4_dividendAt 0 = .ok (.iload_n 1, 1) := by decide +kernel
theorem dX4_dividendAt_1 : decode cX4_dividendAt 1 = .ok (.iconst 0, 1) := by decide +kernel
theorem dX4_dividendAt_2 : decode cX4_dividendAt 2 = .ok (.aload_n 0, 1) := by decide +kernel
theorem dX4_dividendAt_3 : decode cX4_dividendAt 3 = .ok (.getfield 23, 3) := by decide +kernel
theorem dX4_dividendAt_6 : decode cX4_dividendAt 6 = .ok (.invokevirtual 53, 3) := by decide +kernel
theorem dX4_dividendAt_9 : decode cX4_dividendAt 9 = .ok (.iconst 1, 1) := by decide +kernel
theorem dX4_dividendAt_10 : decode cX4_dividendAt 10 = .ok (.isub, 1) := by decide +kernel
theorem dX4_dividendAt_11 : decode cX4_dividendAt 11 = .ok (.invokestatic 38, 3) := by decide +kernel
theorem dX4_dividendAt_14 : decode cX4_dividendAt 14 = .ok (.ifCond .ne 13, 3) := by decide +kernel
theorem dX4_dividendAt_17 : decode cX4_dividendAt 17 = .ok (.new 182, 3) := by decide +kernel
theorem dX4_dividendAt_20 : decode cX4_dividendAt 20 = .ok (.dup, 1) := by decide +kernel
theorem dX4_dividendAt_21 : decode cX4_dividendAt 21 = .ok (.ldc 187, 2) := by decide +kernel
theorem dX4_dividendAt_23 : decode cX4_dividendAt 23 = .ok (.invokespecial 186, 3) := by decide +kernel
theorem dX4_dividendAt_26 : decode cX4_dividendAt 26 = .ok (.athrow, 1) := by decide +kernel
theorem dX4_dividendAt_27 : decode cX4_dividendAt 27 = .ok (.aload_n 0, 1) := by decide +kernel
theorem dX4_dividendAt_28 : decode cX4_dividendAt 28 = .ok (.getfield 23, 3) := by decide +kernel
theorem dX4_dividendAt_31 : decode cX4_dividendAt 31 = .ok (.iload_n 1, 1) := by decide +kernel
theorem dX4_dividendAt_32 : decode cX4_dividendAt 32 = .ok (.invokevirtual 105, 3) := by decide +kernel
theorem dX4_dividendAt_35 : decode cX4_dividendAt 35 = .ok (.checkcast 129, 3) := by decide +kernel
theorem dX4_dividendAt_38 : decode cX4_dividendAt 38 = .ok (.areturn, 1) := by decide +kernel
set_option maxRecDepth 20000 in
theorem ggX4_paymentAt_X4_dividendAt : GoodIn wsX4_paymentAt wsX4_dividendAt := goodIn_ca (goodIn_r _ [7, 1, 2, 8, 9, 10, 11, 12, 13, 14, 15, 16, 17, 6, 18, 19, 20, 21, 22, 23, 24, 25, 26, 27, 28, 29, 30, 31, 32, 33, 34, 35, 46, 47, 48, 49, 50, 51, 52, 53, 54] (by decide +kernel) (by decide +kernel)) (goodIn_sub (fun _ h => List.mem_cons_of_mem _ (List.mem_append_right _ h)) (by decide +kernel))
set_option maxRecDepth 20000 in
theorem gX4_paymentAt_X4_dividendAt : GoodIn wsX4_paymentAt (wsV RX4 166 RX4 yX4_dividendAt wsX4_dividendAt) := goodIn_app (goodIn_of _ (by decide +kernel)) ggX4_paymentAt_X4_dividendAt
set_option maxRecDepth 20000 in
theorem ggX4_paymentAt_X4_isHolder : GoodIn wsX4_paymentAt wsX4_isHolder := goodIn_r _ [39, 40, 10, 11, 12, 13, 14, 15, 16, 17, 6, 18, 46, 47, 48, 49, 50, 51, 52, 53, 54] (by decide +kernel) (by decide +kernel)
set_option maxRecDepth 20000 in
theorem gX4_paymentAt_X4_isHolder : GoodIn wsX4_paymentAt (wsV RX4 179 RX4 yX4_isHolder wsX4_isHolder) := goodIn_app (goodIn_of _ (by decide +kernel)) ggX4_paymentAt_X4_isHolder
set_option maxRecDepth 20000 in
theorem ggX4_paymentAt_X0_paymentTo : GoodIn wsX4_paymentAt wsX0_paymentTo := goodIn_r _ [44, 45, 55, 56, 57] (by decide +kernel) (by decide +kernel)
set_option maxRecDepth 20000 in
theorem gX4_paymentAt_X0_paymentTo_n189 : GoodIn wsX4_paymentAt (wsX0_paymentTo) := ggX4_paymentAt_X0_paymentTo
theorem dX4_paymentAt_0 : decode cX4_paymentAt 0 = .ok (.aload_n 0, 1) := by decide +kernel
theorem dX4_paymentAt_1 : decode cX4_paymentAt 1 = .ok (.iload_n 1, 1) := by decide +kernel
theorem dX4_paymentAt_2 : decode cX4_paymentAt 2 = .ok (.invokevirtual 166, 3) := by decide +kernel
theorem dX4_paymentAt_5 : decode cX4_paymentAt 5 = .ok (.astore_n 3, 1) := by decide +kernel
theorem dX4_paymentAt_6 : decode cX4_paymentAt 6 = .ok (.aload_n 0, 1) := by decide +kernel
theorem dX4_paymentAt_7 : decode cX4_paymentAt 7 = .ok (.iload_n 2, 1) := by decide +kernel
theorem dX4_paymentAt_8 : decode cX4_paymentAt 8 = .ok (.invokevirtual 179, 3) := by decide +kernel
theorem dX4_paymentAt_11 : decode cX4_paymentAt 11 = .ok (.ifCond .ne 13, 3) := by decide +kernel
theorem dX4_paymentAt_14 : decode cX4_paymentAt 14 = .ok (.new 182, 3) := by decide +kernel
theorem dX4_paymentAt_17 : decode cX4_paymentAt 17 = .ok (.dup, 1) := by decide +kernel
theorem dX4_paymentAt_18 : decode cX4_paymentAt 18 = .ok (.ldc 184, 2) := by decide +kernel
theorem dX4_paymentAt_20 : decode cX4_paymentAt 20 = .ok (.invokespecial 186, 3) := by decide +kernel
theorem dX4_paymentAt_23 : decode cX4_paymentAt 23 = .ok (.athrow, 1) := by decide +kernel
theorem dX4_paymentAt_24 : decode cX4_paymentAt 24 = .ok (.aload_n 3, 1) := by decide +kernel
theorem dX4_paymentAt_25 : decode cX4_paymentAt 25 = .ok (.iload_n 2, 1) := by decide +kernel
theorem dX4_paymentAt_26 : decode cX4_paymentAt 26 = .ok (.invokevirtual 189, 3) := by decide +kernel
theorem dX4_paymentAt_29 : decode cX4_paymentAt 29 = .ok (.areturn, 1) := by decide +kernel
set_option maxRecDepth 20000 in
theorem ggX4_refundablePayment_X4_paymentAt : GoodIn wsX4_refundablePayment wsX4_paymentAt := goodIn_ca (goodIn_r _ [8, 9, 10, 11, 12, 13, 7, 14, 15, 16, 17, 18, 19, 20, 21, 22, 23, 24, 25, 26, 27, 28, 29, 30, 31, 32, 33, 34, 35, 36, 37, 38, 39, 40, 41, 42, 43, 44, 45, 46, 47, 48, 49, 50, 51, 52, 53, 54, 55, 56, 57, 58, 62, 63, 64, 59, 60, 61] (by decide +kernel) (by decide +kernel)) (goodIn_sub (fun _ h => List.mem_cons_of_mem _ (List.mem_append_right _ h)) (by decide +kernel))
set_option maxRecDepth 20000 in
theorem gX4_refundablePayment_X4_paymentAt : GoodIn wsX4_refundablePayment (wsV RX4 143 RX4 yX4_paymentAt wsX4_paymentAt) := goodIn_app (goodIn_of _ (by decide +kernel)) ggX4_refundablePayment_X4_paymentAt
set_option maxRecDepth 20000 in
theorem ggX4_refundablePayment_X4_dividendAt : GoodIn wsX4_refundablePayment wsX4_dividendAt := goodIn_ca (goodIn_r _ [14, 9, 10, 15, 16, 17, 18, 19, 20, 21, 22, 23, 24, 7, 25, 26, 27, 28, 29, 30, 31, 32, 33, 34, 35, 36, 37, 38, 39, 40, 41, 42, 53, 54, 55, 56, 57, 58, 62, 63, 64] (by decide +kernel) (by decide +kernel)) (goodIn_sub (fun _ h => List.mem_cons_of_mem _ (List.mem_append_right _ h)) (by decide +kernel))
set_option maxRecDepth 20000 in
theorem gX4_refundablePayment_X4_dividendAt : GoodIn wsX4_refundablePayment (wsV RX4 166 RX4 yX4_dividendAt wsX4_dividendAt) := goodIn_app (goodIn_of _ (by decide +kernel)) ggX4_refundablePayment_X4_dividendAt
theorem dX4_refundablePayment_0 : decode cX4_refundablePayment 0 = .ok (.aload_n 0, 1) := by decide +kernel
theorem dX4_refundablePayment_1 : decode cX4_refundablePayment 1 = .ok (.iload_n 1, 1) := by decide +kernel
theorem dX4_refundablePayment_2 : decode cX4_refundablePayment 2 = .ok (.iload_n 2, 1) := by decide +kernel
theorem dX4_refundablePayment_3 : decode cX4_refundablePayment 3 = .ok (.invokevirtual 143, 3) := by decide +kernel
theorem dX4_refundablePayment_6 : decode cX4_refundablePayment 6 = .ok (.astore 4, 2) := by decide +kernel
theorem dX4_refundablePayment_8 : decode cX4_refundablePayment 8 = .ok (.aload 4, 2) := by decide +kernel
theorem dX4_refundablePayment_10 : decode cX4_refundablePayment 10 = .ok (.ifnull 20, 3) := by decide +kernel
theorem dX4_refundablePayment_13 : decode cX4_refundablePayment 13 = .ok (.aload_n 0, 1) := by decide +kernel
theorem dX4_refundablePayment_14 : decode cX4_refundablePayment 14 = .ok (.getfield 26, 3) := by decide +kernel
theorem dX4_refundablePayment_17 : decode cX4_refundablePayment 17 = .ok (.aload_n 0, 1) := by decide +kernel
theorem dX4_refundablePayment_18 : decode cX4_refundablePayment 18 = .ok (.iload_n 1, 1) := by decide +kernel
theorem dX4_refundablePayment_19 : decode cX4_refundablePayment 19 = .ok (.invokevirtual 166, 3) := by decide +kernel
theorem dX4_refundablePayment_22 : decode cX4_refundablePayment 22 = .ok (.getfield 193, 3) := by decide +kernel
theorem dX4_refundablePayment_25 : decode cX4_refundablePayment 25 = .ok (.isub, 1) := by decide +kernel
theorem dX4_refundablePayment_26 : decode cX4_refundablePayment 26 = .ok (.iload_n 3, 1) := by decide +kernel
theorem dX4_refundablePayment_27 : decode cX4_refundablePayment 27 = .ok (.if_icmp .le 13, 3) := by decide +kernel
theorem dX4_refundablePayment_30 : decode cX4_refundablePayment 30 = .ok (.new 57, 3) := by decide +kernel
theorem dX4_refundablePayment_33 : decode cX4_refundablePayment 33 = .ok (.dup, 1) := by decide +kernel
theorem dX4_refundablePayment_34 : decode cX4_refundablePayment 34 = .ok (.ldc 196, 2) := by decide +kernel
theorem dX4_refundablePayment_36 : decode cX4_refundablePayment 36 = .ok (.invokespecial 61, 3) := by decide +kernel
theorem dX4_refundablePayment_39 : decode cX4_refundablePayment 39 = .ok (.athrow, 1) := by decide +kernel
theorem dX4_refundablePayment_40 : decode cX4_refundablePayment 40 = .ok (.aload 4, 2) := by decide +kernel
theorem dX4_refundablePayment_42 : decode cX4_refundablePayment 42 = .ok (.areturn, 1) := by decide +kernel
set_option maxRecDepth 20000 in
theorem ggX4_sharesInAll_Jx4a65c_size_8abf5 : GoodIn wsX4_sharesInAll wsJx4a65c_size_8abf5 := goodIn_r _ [7, 8, 38, 39, 40] (by decide +kernel) (by decide +kernel)
set_option maxRecDepth 20000 in
theorem gX4_sharesInAll_Jx4a65c_size_8abf5 : GoodIn wsX4_sharesInAll (wsV RX4 53 RJx4a65c yJx4a65c_size_8abf5 wsJx4a65c_size_8abf5) := goodIn_app (goodIn_of _ (by decide +kernel)) ggX4_sharesInAll_Jx4a65c_size_8abf5
set_option maxRecDepth 20000 in
theorem ggX4_sharesInAll_Jx4a65c_get_915e3 : GoodIn wsX4_sharesInAll wsJx4a65c_get_915e3 := goodIn_r _ [12, 8, 13, 14, 15, 16, 17, 18, 19, 20, 21, 22, 23, 6, 24, 25, 38, 39, 40] (by decide +kernel) (by decide +kernel)
set_option maxRecDepth 20000 in
theorem gX4_sharesInAll_Jx4a65c_get_915e3 : GoodIn wsX4_sharesInAll (wsV RX4 105 RJx4a65c yJx4a65c_get_915e3 wsJx4a65c_get_915e3) := goodIn_app (goodIn_of _ (by decide +kernel)) ggX4_sharesInAll_Jx4a65c_get_915e3
theorem dX4_sharesInAll_0 : decode cX4_sharesInAll 0 = .ok (.iconst 0, 1) := by decide +kernel
theorem dX4_sharesInAll_1 : decode cX4_sharesInAll 1 = .ok (.istore_n 1, 1) := by decide +kernel
theorem dX4_sharesInAll_2 : decode cX4_sharesInAll 2 = .ok (.iconst 0, 1) := by decide +kernel
theorem dX4_sharesInAll_3 : decode cX4_sharesInAll 3 = .ok (.istore_n 2, 1) := by decide +kernel
theorem dX4_sharesInAll_4 : decode cX4_sharesInAll 4 = .ok (.iload_n 2, 1) := by decide +kernel
theorem dX4_sharesInAll_5 : decode cX4_sharesInAll 5 = .ok (.aload_n 0, 1) := by decide +kernel
theorem dX4_sharesInAll_6 : decode cX4_sharesInAll 6 = .ok (.getfield 19, 3) := by decide +kernel
theorem dX4_sharesInAll_9 : decode cX4_sharesInAll 9 = .ok (.invokevirtual 53, 3) := by decide +kernel
theorem dX4_sharesInAll_12 : decode cX4_sharesInAll 12 = .ok (.if_icmp .ge 26, 3) := by decide +kernel
theorem dX4_sharesInAll_15 : decode cX4_sharesInAll 15 = .ok (.iload_n 1, 1) := by decide +kernel
theorem dX4_sharesInAll_16 : decode cX4_sharesInAll 16 = .ok (.aload_n 0, 1) := by decide +kernel
theorem dX4_sharesInAll_17 : decode cX4_sharesInAll 17 = .ok (.getfield 19, 3) := by decide +kernel
theorem dX4_sharesInAll_20 : decode cX4_sharesInAll 20 = .ok (.iload_n 2, 1) := by decide +kernel
theorem dX4_sharesInAll_21 : decode cX4_sharesInAll 21 = .ok (.invokevirtual 105, 3) := by decide +kernel
theorem dX4_sharesInAll_24 : decode cX4_sharesInAll 24 = .ok (.checkcast 62, 3) := by decide +kernel
theorem dX4_sharesInAll_27 : decode cX4_sharesInAll 27 = .ok (.getfield 90, 3) := by decide +kernel
theorem dX4_sharesInAll_30 : decode cX4_sharesInAll 30 = .ok (.iadd, 1) := by decide +kernel
theorem dX4_sharesInAll_31 : decode cX4_sharesInAll 31 = .ok (.istore_n 1, 1) := by decide +kernel
theorem dX4_sharesInAll_32 : decode cX4_sharesInAll 32 = .ok (.iinc 2 1, 3) := by decide +kernel
theorem dX4_sharesInAll_35 : decode cX4_sharesInAll 35 = .ok (.goto (-31), 3) := by decide +kernel
theorem dX4_sharesInAll_38 : decode cX4_sharesInAll 38 = .ok (.iload_n 1, 1) := by decide +kernel
theorem dX4_sharesInAll_39 : decode cX4_sharesInAll 39 = .ok (.ireturn, 1) := by decide +kernel
theorem dX4_formOf_0 : decode cX4_formOf 0 = .ok (.iconst 1, 1) := by decide +kernel
theorem dX4_formOf_1 : decode cX4_formOf 1 = .ok (.iload_n 0, 1) := by decide +kernel
theorem dX4_formOf_2 : decode cX4_formOf 2 = .ok (.ishl, 1) := by decide +kernel
theorem dX4_formOf_3 : decode cX4_formOf 3 = .ok (.ireturn, 1) := by decide +kernel
set_option maxRecDepth 20000 in
theorem ggX4_validForms_Jx4a65c_size_8abf5 : GoodIn wsX4_validForms wsJx4a65c_size_8abf5 := goodIn_r _ [8, 9, 42, 43, 44] (by decide +kernel) (by decide +kernel)
set_option maxRecDepth 20000 in
theorem gX4_validForms_Jx4a65c_size_8abf5 : GoodIn wsX4_validForms (wsV RX4 53 RJx4a65c yJx4a65c_size_8abf5 wsJx4a65c_size_8abf5) := goodIn_app (goodIn_of _ (by decide +kernel)) ggX4_validForms_Jx4a65c_size_8abf5
set_option maxRecDepth 20000 in
theorem ggX4_validForms_Jx4a65c_get_915e3 : GoodIn wsX4_validForms wsJx4a65c_get_915e3 := goodIn_r _ [13, 9, 14, 15, 16, 17, 18, 19, 20, 21, 22, 23, 24, 7, 25, 26, 42, 43, 44] (by decide +kernel) (by decide +kernel)
set_option maxRecDepth 20000 in
theorem gX4_validForms_Jx4a65c_get_915e3 : GoodIn wsX4_validForms (wsV RX4 105 RJx4a65c yJx4a65c_get_915e3 wsJx4a65c_get_915e3) := goodIn_app (goodIn_of _ (by decide +kernel)) ggX4_validForms_Jx4a65c_get_915e3
set_option maxRecDepth 20000 in
theorem ggX4_validForms_X1_hasFormOn : GoodIn wsX4_validForms wsX1_hasFormOn := goodIn_r _ [30, 31, 45, 46, 47, 48, 49, 50] (by decide +kernel) (by decide +kernel)
set_option maxRecDepth 20000 in
theorem gX4_validForms_X1_hasFormOn_n113 : GoodIn wsX4_validForms (wsX1_hasFormOn) := ggX4_validForms_X1_hasFormOn
set_option maxRecDepth 20000 in
theorem ggX4_validForms_X4_formOf : GoodIn wsX4_validForms wsX4_formOf := goodIn_r _ [35] (by decide +kernel) (by decide +kernel)
set_option maxRecDepth 20000 in
theorem gX4_validForms_X4_formOf : GoodIn wsX4_validForms (va_wsS RX4 198 yX4_formOf wsX4_formOf) := goodIn_app (goodIn_of _ (by decide +kernel)) ggX4_validForms_X4_formOf
theorem dX4_validForms_0 : decode cX4_validForms 0 = .ok (.iconst 0, 1) := by decide +kernel
theorem dX4_validForms_1 : decode cX4_validForms 1 = .ok (.istore_n 1, 1) := by decide +kernel
theorem dX4_validForms_2 : decode cX4_validForms 2 = .ok (.iconst 0, 1) := by decide +kernel
theorem dX4_validForms_3 : decode cX4_validForms 3 = .ok (.istore_n 2, 1) := by decide +kernel
theorem dX4_validForms_4 : decode cX4_validForms 4 = .ok (.iload_n 2, 1) := by decide +kernel
theorem dX4_validForms_5 : decode cX4_validForms 5 = .ok (.aload_n 0, 1) := by decide +kernel
theorem dX4_validForms_6 : decode cX4_validForms 6 = .ok (.getfield 19, 3) := by decide +kernel
theorem dX4_validForms_9 : decode cX4_validForms 9 = .ok (.invokevirtual 53, 3) := by decide +kernel
theorem dX4_validForms_12 : decode cX4_validForms 12 = .ok (.if_icmp .ge 37, 3) := by decide +kernel
theorem dX4_validForms_15 : decode cX4_validForms 15 = .ok (.aload_n 0, 1) := by decide +kernel
theorem dX4_validForms_16 : decode cX4_validForms 16 = .ok (.getfield 19, 3) := by decide +kernel
theorem dX4_validForms_19 : decode cX4_validForms 19 = .ok (.iload_n 2, 1) := by decide +kernel
theorem dX4_validForms_20 : decode cX4_validForms 20 = .ok (.invokevirtual 105, 3) := by decide +kernel
theorem dX4_validForms_23 : decode cX4_validForms 23 = .ok (.checkcast 62, 3) := by decide +kernel
theorem dX4_validForms_26 : decode cX4_validForms 26 = .ok (.aload_n 0, 1) := by decide +kernel
theorem dX4_validForms_27 : decode cX4_validForms 27 = .ok (.getfield 26, 3) := by decide +kernel
theorem dX4_validForms_30 : decode cX4_validForms 30 = .ok (.invokevirtual 113, 3) := by decide +kernel
theorem dX4_validForms_33 : decode cX4_validForms 33 = .ok (.ifCond .eq 10, 3) := by decide +kernel
theorem dX4_validForms_36 : decode cX4_validForms 36 = .ok (.iload_n 1, 1) := by decide +kernel
theorem dX4_validForms_37 : decode cX4_validForms 37 = .ok (.iload_n 2, 1) := by decide +kernel
theorem dX4_validForms_38 : decode cX4_validForms 38 = .ok (.invokestatic 198, 3) := by decide +kernel
theorem dX4_validForms_41 : decode cX4_validForms 41 = .ok (.ior, 1) := by decide +kernel
theorem dX4_validForms_42 : decode cX4_validForms 42 = .ok (.istore_n 1, 1) := by decide +kernel
theorem dX4_validForms_43 : decode cX4_validForms 43 = .ok (.iinc 2 1, 3) := by decide +kernel
theorem dX4_validForms_46 : decode cX4_validForms 46 = .ok (.goto (-42), 3) := by decide +kernel
theorem dX4_validForms_49 : decode cX4_validForms 49 = .ok (.iload_n 1, 1) := by decide +kernel
theorem dX4_validForms_50 : decode cX4_validForms 50 = .ok (.ireturn, 1) := by decide +kernel
set_option maxRecDepth 20000 in
theorem ggX4_rateOf_X4_isLand : GoodIn wsX4_rateOf wsX4_isLand := goodIn_r _ [4, 5, 6, 3, 7] (by decide +kernel) (by decide +kernel)
set_option maxRecDepth 20000 in
theorem gX4_rateOf_X4_isLand : GoodIn wsX4_rateOf (va_wsS RX4 34 yX4_isLand wsX4_isLand) := goodIn_app (goodIn_of _ (by decide +kernel)) ggX4_rateOf_X4_isLand
theorem dX4_rateOf_0 : decode cX4_rateOf 0 = .ok (.aload_n 1, 1) := by decide +kernel
theorem dX4_rateOf_1 : decode cX4_rateOf 1 = .ok (.getfield 201, 3) := by decide +kernel
theorem dX4_rateOf_4 : decode cX4_rateOf 4 = .ok (.invokestatic 34, 3) := by decide +kernel
theorem dX4_rateOf_7 : decode cX4_rateOf 7 = .ok (.ifCond .eq 21, 3) := by decide +kernel
theorem dX4_rateOf_10 : decode cX4_rateOf 10 = .ok (.aload_n 1, 1) := by decide +kernel
theorem dX4_rateOf_11 : decode cX4_rateOf 11 = .ok (.getfield 201, 3) := by decide +kernel
theorem dX4_rateOf_14 : decode cX4_rateOf 14 = .ok (.aload_n 0, 1) := by decide +kernel
theorem dX4_rateOf_15 : decode cX4_rateOf 15 = .ok (.arraylength, 1) := by decide +kernel
theorem dX4_rateOf_16 : decode cX4_rateOf 16 = .ok (.if_icmp .ge 12, 3) := by decide +kernel
theorem dX4_rateOf_19 : decode cX4_rateOf 19 = .ok (.aload_n 0, 1) := by decide +kernel
theorem dX4_rateOf_20 : decode cX4_rateOf 20 = .ok (.aload_n 1, 1) := by decide +kernel
theorem dX4_rateOf_21 : decode cX4_rateOf 21 = .ok (.getfield 201, 3) := by decide +kernel
theorem dX4_rateOf_24 : decode cX4_rateOf 24 = .ok (.iaload, 1) := by decide +kernel
theorem dX4_rateOf_25 : decode cX4_rateOf 25 = .ok (.goto 5, 3) := by decide +kernel
theorem dX4_rateOf_28 : decode cX4_rateOf 28 = .ok (.bipush 30, 2) := by decide +kernel
theorem dX4_rateOf_30 : decode cX4_rateOf 30 = .ok (.ireturn, 1) := by decide +kernel
set_option maxRecDepth 20000 in
theorem ggX4_ownRate_X4_rateOf : GoodIn wsX4_ownRate wsX4_rateOf := goodIn_r _ [11, 12, 13, 10, 14, 15, 16, 17, 32, 33, 34, 35, 36, 37] (by decide +kernel) (by decide +kernel)
set_option maxRecDepth 20000 in
theorem gX4_ownRate_X4_rateOf : GoodIn wsX4_ownRate (va_wsS RX4 204 yX4_rateOf wsX4_rateOf) := goodIn_app (goodIn_of _ (by decide +kernel)) ggX4_ownRate_X4_rateOf
set_option maxRecDepth 20000 in
theorem ggX4_ownRate_X1_hasLargeHoldingOn : GoodIn wsX4_ownRate wsX1_hasLargeHoldingOn := goodIn_r _ [21, 22, 23, 24, 25, 32, 33, 34, 35, 36, 37] (by decide +kernel) (by decide +kernel)
set_option maxRecDepth 20000 in
theorem gX4_ownRate_X1_hasLargeHoldingOn_n116 : GoodIn wsX4_ownRate (wsX1_hasLargeHoldingOn) := ggX4_ownRate_X1_hasLargeHoldingOn
theorem dX4_ownRate_0 : decode cX4_ownRate 0 = .ok (.aload_n 0, 1) := by decide +kernel
theorem dX4_ownRate_1 : decode cX4_ownRate 1 = .ok (.getfield 9, 3) := by decide +kernel
theorem dX4_ownRate_4 : decode cX4_ownRate 4 = .ok (.aload_n 1, 1) := by decide +kernel
theorem dX4_ownRate_5 : decode cX4_ownRate 5 = .ok (.invokestatic 204, 3) := by decide +kernel
theorem dX4_ownRate_8 : decode cX4_ownRate 8 = .ok (.istore_n 2, 1) := by decide +kernel
theorem dX4_ownRate_9 : decode cX4_ownRate 9 = .ok (.aload_n 1, 1) := by decide +kernel
theorem dX4_ownRate_10 : decode cX4_ownRate 10 = .ok (.aload_n 0, 1) := by decide +kernel
theorem dX4_ownRate_11 : decode cX4_ownRate 11 = .ok (.getfield 26, 3) := by decide +kernel
theorem dX4_ownRate_14 : decode cX4_ownRate 14 = .ok (.invokevirtual 116, 3) := by decide +kernel
theorem dX4_ownRate_17 : decode cX4_ownRate 17 = .ok (.ifCond .ne 5, 3) := by decide +kernel
theorem dX4_ownRate_20 : decode cX4_ownRate 20 = .ok (.iload_n 2, 1) := by decide +kernel
theorem dX4_ownRate_21 : decode cX4_ownRate 21 = .ok (.ireturn, 1) := by decide +kernel
theorem dX4_ownRate_22 : decode cX4_ownRate 22 = .ok (.iload_n 2, 1) := by decide +kernel
theorem dX4_ownRate_23 : decode cX4_ownRate 23 = .ok (.aload_n 0, 1) := by decide +kernel
theorem dX4_ownRate_24 : decode cX4_ownRate 24 = .ok (.getfield 13, 3) := by decide +kernel
theorem dX4_ownRate_27 : decode cX4_ownRate 27 = .ok (.aload_n 1, 1) := by decide +kernel
theorem dX4_ownRate_28 : decode cX4_ownRate 28 = .ok (.invokestatic 204, 3) := by decide +kernel
theorem dX4_ownRate_31 : decode cX4_ownRate 31 = .ok (.invokestatic 208, 3) := by decide +kernel
theorem dX4_ownRate_34 : decode cX4_ownRate 34 = .ok (.ireturn, 1) := by decide +kernel
set_option maxRecDepth 20000 in
theorem ggX4_makePayment_X2_init : GoodIn wsX4_makePayment wsX2_init := goodIn_r _ [8, 9, 10, 11, 12, 13, 14, 15, 16, 17, 18, 19, 20, 21, 22, 23, 24, 25, 26, 27, 28, 29, 30, 31, 32, 172, 173, 174, 160, 161, 162] (by decide +kernel) (by decide +kernel)
set_option maxRecDepth 20000 in
theorem gX4_makePayment_X2_init_n214 : GoodIn wsX4_makePayment (wsX2_init) := ggX4_makePayment_X2_init
set_option maxRecDepth 20000 in
theorem ggX4_makePayment_X4_addPortions : GoodIn wsX4_makePayment wsX4_addPortions := goodIn_r _ [37, 4, 5, 6, 38, 39, 40, 41, 42, 43, 44, 45, 46, 47, 48, 10, 11, 49, 50, 51, 52, 3, 53, 54, 15, 55, 56, 57, 14, 58, 59, 60, 22, 61, 62, 63, 64, 65, 66, 67, 68, 69, 70, 71, 72, 73, 21, 74, 75, 76, 77, 78, 79, 80, 81, 82, 83, 84, 85, 86, 87, 88, 89, 90, 91, 92, 93, 94, 95, 96, 97, 98, 99, 100, 101, 102, 103, 104, 105, 106, 107, 108, 109, 110, 111, 112, 113, 114, 115, 116, 36, 117, 118, 119, 120, 121, 122, 123, 124, 125, 126, 127, 128, 129, 130, 131, 132, 133, 134, 135, 136, 137, 138, 139, 140, 141, 142, 143, 144, 145, 169, 170, 171, 160, 161, 162, 175, 176, 177, 178, 179, 180, 163, 164, 165, 166, 167, 168, 172, 173, 174] (by decide +kernel) (by decide +kernel)
set_option maxRecDepth 20000 in
theorem gX4_makePayment_X4_addPortions : GoodIn wsX4_makePayment (wsV RX4 216 RX4 yX4_addPortions wsX4_addPortions) := goodIn_app (goodIn_of _ (by decide +kernel)) ggX4_makePayment_X4_addPortions
set_option maxRecDepth 20000 in
theorem ggX4_makePayment_X4_ownRate : GoodIn wsX4_makePayment wsX4_ownRate := goodIn_r _ [149, 39, 150, 151, 152, 102, 76, 103, 134, 135, 36, 136, 137, 138, 139, 140, 141, 142, 153, 42, 154, 155, 156, 157, 158, 159, 175, 176, 177, 178, 179, 180, 163, 164, 165, 166, 167, 168] (by decide +kernel) (by decide +kernel)
set_option maxRecDepth 20000 in
theorem gX4_makePayment_X4_ownRate : GoodIn wsX4_makePayment (wsV RX4 121 RX4 yX4_ownRate wsX4_ownRate) := goodIn_app (goodIn_of _ (by decide +kernel)) ggX4_makePayment_X4_ownRate
set_option maxRecDepth 20000 in
theorem ggX4_makePayment_X4_formOf : GoodIn wsX4_makePayment wsX4_formOf := goodIn_r _ [145] (by decide +kernel) (by decide +kernel)
set_option maxRecDepth 20000 in
theorem gX4_makePayment_X4_formOf : GoodIn wsX4_makePayment (va_wsS RX4 198 yX4_formOf wsX4_formOf) := goodIn_app (goodIn_of _ (by decide +kernel)) ggX4_makePayment_X4_formOf
set_option maxRecDepth 20000 in
theorem ggX4_makePayment_X3_init : GoodIn wsX4_makePayment wsX3_init := goodIn_r _ [47, 48, 10, 11, 49, 50, 51, 169, 170, 171] (by decide +kernel) (by decide +kernel)
set_option maxRecDepth 20000 in
theorem gX4_makePayment_X3_init_n222 : GoodIn wsX4_makePayment (wsX3_init) := ggX4_makePayment_X3_init
set_option maxRecDepth 20000 in
theorem ggX4_makePayment_X2_add : GoodIn wsX4_makePayment wsX2_add := goodIn_r _ [54, 15, 55, 56, 57, 14, 58, 59, 60, 22, 61, 62, 63, 64, 65, 66, 67, 68, 69, 70, 71, 72, 73, 21, 74, 75, 76, 77, 78, 79, 80, 81, 82, 83, 84, 85, 86, 87, 88, 89, 90, 91, 92, 93, 94, 95, 96, 97, 98, 99, 100, 101, 102, 103, 104, 105, 106, 107, 160, 161, 162, 172, 173, 174] (by decide +kernel) (by decide +kernel)
set_option maxRecDepth 20000 in
theorem gX4_makePayment_X2_add_n225 : GoodIn wsX4_makePayment (wsX2_add) := ggX4_makePayment_X2_add
theorem dX4_makePayment_0 : decode cX4_makePayment 0 = .ok (.new 148, 3) := by decide +kernel
theorem dX4_makePayment_3 : decode cX4_makePayment 3 = .ok (.dup, 1) := by decide +kernel
theorem dX4_makePayment_4 : decode cX4_makePayment 4 = .ok (.aload_n 2, 1) := by decide +kernel
theorem dX4_makePayment_5 : decode cX4_makePayment 5 = .ok (.getfield 90, 3) := by decide +kernel
theorem dX4_makePayment_8 : decode cX4_makePayment 8 = .ok (.iload_n 3, 1) := by decide +kernel
theorem dX4_makePayment_9 : decode cX4_makePayment 9 = .ok (.imul, 1) := by decide +kernel
theorem dX4_makePayment_10 : decode cX4_makePayment 10 = .ok (.invokespecial 214, 3) := by decide +kernel
theorem dX4_makePayment_13 : decode cX4_makePayment 13 = .ok (.astore 4, 2) := by decide +kernel
theorem dX4_makePayment_15 : decode cX4_makePayment 15 = .ok (.aload_n 2, 1) := by decide +kernel
theorem dX4_makePayment_16 : decode cX4_makePayment 16 = .ok (.getfield 75, 3) := by decide +kernel
theorem dX4_makePayment_19 : decode cX4_makePayment 19 = .ok (.iconst 2, 1) := by decide +kernel
theorem dX4_makePayment_20 : decode cX4_makePayment 20 = .ok (.if_icmp .ne 14, 3) := by decide +kernel
theorem dX4_makePayment_23 : decode cX4_makePayment 23 = .ok (.aload_n 0, 1) := by decide +kernel
theorem dX4_makePayment_24 : decode cX4_makePayment 24 = .ok (.aload 4, 2) := by decide +kernel
theorem dX4_makePayment_26 : decode cX4_makePayment 26 = .ok (.iload_n 1, 1) := by decide +kernel
theorem dX4_makePayment_27 : decode cX4_makePayment 27 = .ok (.aload_n 2, 1) := by decide +kernel
theorem dX4_makePayment_28 : decode cX4_makePayment 28 = .ok (.invokevirtual 216, 3) := by decide +kernel
theorem dX4_makePayment_31 : decode cX4_makePayment 31 = .ok (.goto 29, 3) := by decide +kernel
theorem dX4_makePayment_34 : decode cX4_makePayment 34 = .ok (.aload 4, 2) := by decide +kernel
theorem dX4_makePayment_36 : decode cX4_makePayment 36 = .ok (.new 220, 3) := by decide +kernel
theorem dX4_makePayment_39 : decode cX4_makePayment 39 = .ok (.dup, 1) := by decide +kernel
theorem dX4_makePayment_40 : decode cX4_makePayment 40 = .ok (.aload 4, 2) := by decide +kernel
theorem dX4_makePayment_42 : decode cX4_makePayment 42 = .ok (.getfield 147, 3) := by decide +kernel
theorem dX4_makePayment_45 : decode cX4_makePayment 45 = .ok (.aload_n 0, 1) := by decide +kernel
theorem dX4_makePayment_46 : decode cX4_makePayment 46 = .ok (.aload_n 2, 1) := by decide +kernel
theorem dX4_makePayment_47 : decode cX4_makePayment 47 = .ok (.invokevirtual 121, 3) := by decide +kernel
theorem dX4_makePayment_50 : decode cX4_makePayment 50 = .ok (.iload_n 1, 1) := by decide +kernel
theorem dX4_makePayment_51 : decode cX4_makePayment 51 = .ok (.invokestatic 198, 3) := by decide +kernel
theorem dX4_makePayment_54 : decode cX4_makePayment 54 = .ok (.invokespecial 222, 3) := by decide +kernel
theorem dX4_makePayment_57 : decode cX4_makePayment 57 = .ok (.invokevirtual 225, 3) := by decide +kernel
theorem dX4_makePayment_60 : decode cX4_makePayment 60 = .ok (.aload 4, 2) := by decide +kernel
theorem dX4_makePayment_62 : decode cX4_makePayment 62 = .ok (.areturn, 1) := by decide +kernel
set_option maxRecDepth 20000 in
theorem ggX4_addPortions_X1_partsInAll : GoodIn wsX4_addPortions wsX1_partsInAll := goodIn_r _ [10, 11, 132, 133, 134, 135, 136, 137] (by decide +kernel) (by decide +kernel)
set_option maxRecDepth 20000 in
theorem gX4_addPortions_X1_partsInAll_n228 : GoodIn wsX4_addPortions (wsX1_partsInAll) := ggX4_addPortions_X1_partsInAll
set_option maxRecDepth 20000 in
theorem ggX4_addPortions_X3_init : GoodIn wsX4_addPortions wsX3_init := goodIn_r _ [13, 14, 15, 16, 17, 18, 19, 120, 121, 122] (by decide +kernel) (by decide +kernel)
set_option maxRecDepth 20000 in
theorem gX4_addPortions_X3_init_n222 : GoodIn wsX4_addPortions (wsX3_init) := ggX4_addPortions_X3_init
set_option maxRecDepth 20000 in
theorem ggX4_addPortions_X2_add : GoodIn wsX4_addPortions wsX2_add := goodIn_r _ [23, 24, 25, 26, 27, 28, 29, 30, 31, 32, 33, 34, 35, 36, 37, 38, 39, 40, 41, 42, 43, 44, 45, 46, 47, 48, 49, 50, 51, 52, 53, 54, 55, 56, 57, 58, 59, 60, 61, 62, 63, 64, 65, 66, 67, 68, 69, 70, 71, 72, 73, 74, 75, 76, 77, 78, 79, 80, 123, 124, 125, 138, 139, 140] (by decide +kernel) (by decide +kernel)
set_option maxRecDepth 20000 in
theorem gX4_addPortions_X2_add_n225 : GoodIn wsX4_addPortions (wsX2_add) := ggX4_addPortions_X2_add
set_option maxRecDepth 20000 in
theorem ggX4_addPortions_Jx4a65c_size_8abf5 : GoodIn wsX4_addPortions wsJx4a65c_size_8abf5 := goodIn_r _ [84, 33, 138, 139, 140] (by decide +kernel) (by decide +kernel)
set_option maxRecDepth 20000 in
theorem gX4_addPortions_Jx4a65c_size_8abf5 : GoodIn wsX4_addPortions (wsV RX4 53 RJx4a65c yJx4a65c_size_8abf5 wsJx4a65c_size_8abf5) := goodIn_app (goodIn_of _ (by decide +kernel)) ggX4_addPortions_Jx4a65c_size_8abf5
set_option maxRecDepth 20000 in
theorem ggX4_addPortions_X1_partsOf : GoodIn wsX4_addPortions wsX1_partsOf := goodIn_r _ [87, 11, 132, 133, 134, 135, 136, 137] (by decide +kernel) (by decide +kernel)
set_option maxRecDepth 20000 in
theorem gX4_addPortions_X1_partsOf_n80 : GoodIn wsX4_addPortions (wsX1_partsOf) := ggX4_addPortions_X1_partsOf
set_option maxRecDepth 20000 in
theorem ggX4_addPortions_X4_proportion : GoodIn wsX4_addPortions wsX4_proportion := goodIn_r _ [91] (by decide +kernel) (by decide +kernel)
set_option maxRecDepth 20000 in
theorem gX4_addPortions_X4_proportion : GoodIn wsX4_addPortions (va_wsS RX4 231 yX4_proportion wsX4_proportion) := goodIn_app (goodIn_of _ (by decide +kernel)) ggX4_addPortions_X4_proportion
set_option maxRecDepth 20000 in
theorem ggX4_addPortions_Jx4a65c_get_915e3 : GoodIn wsX4_addPortions wsJx4a65c_get_915e3 := goodIn_r _ [95, 33, 96, 97, 98, 99, 100, 101, 102, 103, 104, 105, 106, 28, 107, 32, 138, 139, 140] (by decide +kernel) (by decide +kernel)
set_option maxRecDepth 20000 in
theorem gX4_addPortions_Jx4a65c_get_915e3 : GoodIn wsX4_addPortions (wsV RX4 105 RJx4a65c yJx4a65c_get_915e3 wsJx4a65c_get_915e3) := goodIn_app (goodIn_of _ (by decide +kernel)) ggX4_addPortions_Jx4a65c_get_915e3
set_option maxRecDepth 20000 in
theorem ggX4_addPortions_X4_rateOf : GoodIn wsX4_addPortions wsX4_rateOf := goodIn_r _ [110, 111, 112, 90, 113, 114, 115, 116, 132, 133, 134, 135, 136, 137] (by decide +kernel) (by decide +kernel)
set_option maxRecDepth 20000 in
theorem gX4_addPortions_X4_rateOf : GoodIn wsX4_addPortions (va_wsS RX4 204 yX4_rateOf wsX4_rateOf) := goodIn_app (goodIn_of _ (by decide +kernel)) ggX4_addPortions_X4_rateOf
set_option maxRecDepth 20000 in
theorem ggX4_addPortions_X4_formOf : GoodIn wsX4_addPortions wsX4_formOf := goodIn_r _ [119] (by decide +kernel) (by decide +kernel)
set_option maxRecDepth 20000 in
theorem gX4_addPortions_X4_formOf : GoodIn wsX4_addPortions (va_wsS RX4 198 yX4_formOf wsX4_formOf) := goodIn_app (goodIn_of _ (by decide +kernel)) ggX4_addPortions_X4_formOf
theorem dX4_addPortions_0 : decode cX4_addPortions 0 = .ok (.aload_n 3, 1) := by decide +kernel
theorem dX4_addPortions_1 : decode cX4_addPortions 1 = .ok (.invokevirtual 228, 3) := by decide +kernel
theorem dX4_addPortions_4 : decode cX4_addPortions 4 = .ok (.istore 4, 2) := by decide +kernel
theorem dX4_addPortions_6 : decode cX4_addPortions 6 = .ok (.iload 4, 2) := by decide +kernel
theorem dX4_addPortions_8 : decode cX4_addPortions 8 = .ok (.ifCond .ne 22, 3) := by decide +kernel
theorem dX4_addPortions_11 : decode cX4_addPortions 11 = .ok (.aload_n 1, 1) := by decide +kernel
theorem dX4_addPortions_12 : decode cX4_addPortions 12 = .ok (.new 220, 3) := by decide +kernel
theorem dX4_addPortions_15 : decode cX4_addPortions 15 = .ok (.dup, 1) := by decide +kernel
theorem dX4_addPortions_16 : decode cX4_addPortions 16 = .ok (.aload_n 1, 1) := by decide +kernel
theorem dX4_addPortions_17 : decode cX4_addPortions 17 = .ok (.getfield 147, 3) := by decide +kernel
theorem dX4_addPortions_20 : decode cX4_addPortions 20 = .ok (.bipush 30, 2) := by decide +kernel
theorem dX4_addPortions_22 : decode cX4_addPortions 22 = .ok (.iconst 0, 1) := by decide +kernel
theorem dX4_addPortions_23 : decode cX4_addPortions 23 = .ok (.invokespecial 222, 3) := by decide +kernel
theorem dX4_addPortions_26 : decode cX4_addPortions 26 = .ok (.invokevirtual 225, 3) := by decide +kernel
theorem dX4_addPortions_29 : decode cX4_addPortions 29 = .ok (.return_, 1) := by decide +kernel
theorem dX4_addPortions_30 : decode cX4_addPortions 30 = .ok (.aload_n 1, 1) := by decide +kernel
theorem dX4_addPortions_31 : decode cX4_addPortions 31 = .ok (.getfield 147, 3) := by decide +kernel
theorem dX4_addPortions_34 : decode cX4_addPortions 34 = .ok (.istore 5, 2) := by decide +kernel
theorem dX4_addPortions_36 : decode cX4_addPortions 36 = .ok (.iconst 0, 1) := by decide +kernel
theorem dX4_addPortions_37 : decode cX4_addPortions 37 = .ok (.istore 6, 2) := by decide +kernel
theorem dX4_addPortions_39 : decode cX4_addPortions 39 = .ok (.iload 6, 2) := by decide +kernel
theorem dX4_addPortions_41 : decode cX4_addPortions 41 = .ok (.aload_n 0, 1) := by decide +kernel
theorem dX4_addPortions_42 : decode cX4_addPortions 42 = .ok (.getfield 19, 3) := by decide +kernel
theorem dX4_addPortions_45 : decode cX4_addPortions 45 = .ok (.invokevirtual 53, 3) := by decide +kernel
theorem dX4_addPortions_48 : decode cX4_addPortions 48 = .ok (.if_icmp .ge 29, 3) := by decide +kernel
theorem dX4_addPortions_51 : decode cX4_addPortions 51 = .ok (.iload 5, 2) := by decide +kernel
theorem dX4_addPortions_53 : decode cX4_addPortions 53 = .ok (.aload_n 1, 1) := by decide +kernel
theorem dX4_addPortions_54 : decode cX4_addPortions 54 = .ok (.getfield 147, 3) := by decide +kernel
theorem dX4_addPortions_57 : decode cX4_addPortions 57 = .ok (.aload_n 3, 1) := by decide +kernel
theorem dX4_addPortions_58 : decode cX4_addPortions 58 = .ok (.iload 6, 2) := by decide +kernel
theorem dX4_addPortions_60 : decode cX4_addPortions 60 = .ok (.invokevirtual 80, 3) := by decide +kernel
theorem dX4_addPortions_63 : decode cX4_addPortions 63 = .ok (.iload 4, 2) := by decide +kernel
theorem dX4_addPortions_65 : decode cX4_addPortions 65 = .ok (.invokestatic 231, 3) := by decide +kernel
theorem dX4_addPortions_68 : decode cX4_addPortions 68 = .ok (.isub, 1) := by decide +kernel
theorem dX4_addPortions_69 : decode cX4_addPortions 69 = .ok (.istore 5, 2) := by decide +kernel
theorem dX4_addPortions_71 : decode cX4_addPortions 71 = .ok (.iinc 6 1, 3) := by decide +kernel
theorem dX4_addPortions_74 : decode cX4_addPortions 74 = .ok (.goto (-35), 3) := by decide +kernel
theorem dX4_addPortions_77 : decode cX4_addPortions 77 = .ok (.iconst 0, 1) := by decide +kernel
theorem dX4_addPortions_78 : decode cX4_addPortions 78 = .ok (.istore 6, 2) := by decide +kernel
theorem dX4_addPortions_80 : decode cX4_addPortions 80 = .ok (.iload 6, 2) := by decide +kernel
theorem dX4_addPortions_82 : decode cX4_addPortions 82 = .ok (.aload_n 0, 1) := by decide +kernel
theorem dX4_addPortions_83 : decode cX4_addPortions 83 = .ok (.getfield 19, 3) := by decide +kernel
theorem dX4_addPortions_86 : decode cX4_addPortions 86 = .ok (.invokevirtual 53, 3) := by decide +kernel
theorem dX4_addPortions_89 : decode cX4_addPortions 89 = .ok (.if_icmp .ge 87, 3) := by decide +kernel
theorem dX4_addPortions_92 : decode cX4_addPortions 92 = .ok (.aload_n 3, 1) := by decide +kernel
theorem dX4_addPortions_93 : decode cX4_addPortions 93 = .ok (.iload 6, 2) := by decide +kernel
theorem dX4_addPortions_95 : decode cX4_addPortions 95 = .ok (.invokevirtual 80, 3) := by decide +kernel
theorem dX4_addPortions_98 : decode cX4_addPortions 98 = .ok (.istore 7, 2) := by decide +kernel
theorem dX4_addPortions_100 : decode cX4_addPortions 100 = .ok (.iload 7, 2) := by decide +kernel
theorem dX4_addPortions_102 : decode cX4_addPortions 102 = .ok (.ifCond .le 68, 3) := by decide +kernel
theorem dX4_addPortions_105 : decode cX4_addPortions 105 = .ok (.aload_n 1, 1) := by decide +kernel
theorem dX4_addPortions_106 : decode cX4_addPortions 106 = .ok (.getfield 147, 3) := by decide +kernel
theorem dX4_addPortions_109 : decode cX4_addPortions 109 = .ok (.iload 7, 2) := by decide +kernel
theorem dX4_addPortions_111 : decode cX4_addPortions 111 = .ok (.iload 4, 2) := by decide +kernel
theorem dX4_addPortions_113 : decode cX4_addPortions 113 = .ok (.invokestatic 231, 3) := by decide +kernel
theorem dX4_addPortions_116 : decode cX4_addPortions 116 = .ok (.iload 5, 2) := by decide +kernel
theorem dX4_addPortions_118 : decode cX4_addPortions 118 = .ok (.iadd, 1) := by decide +kernel
theorem dX4_addPortions_119 : decode cX4_addPortions 119 = .ok (.istore 8, 2) := by decide +kernel
theorem dX4_addPortions_121 : decode cX4_addPortions 121 = .ok (.iconst 0, 1) := by decide +kernel
theorem dX4_addPortions_122 : decode cX4_addPortions 122 = .ok (.istore 5, 2) := by decide +kernel
theorem dX4_addPortions_124 : decode cX4_addPortions 124 = .ok (.aload_n 0, 1) := by decide +kernel
theorem dX4_addPortions_125 : decode cX4_addPortions 125 = .ok (.getfield 9, 3) := by decide +kernel
theorem dX4_addPortions_128 : decode cX4_addPortions 128 = .ok (.aload_n 0, 1) := by decide +kernel
theorem dX4_addPortions_129 : decode cX4_addPortions 129 = .ok (.getfield 19, 3) := by decide +kernel
theorem dX4_addPortions_132 : decode cX4_addPortions 132 = .ok (.iload 6, 2) := by decide +kernel
theorem dX4_addPortions_134 : decode cX4_addPortions 134 = .ok (.invokevirtual 105, 3) := by decide +kernel
theorem dX4_addPortions_137 : decode cX4_addPortions 137 = .ok (.checkcast 62, 3) := by decide +kernel
theorem dX4_addPortions_140 : decode cX4_addPortions 140 = .ok (.invokestatic 204, 3) := by decide +kernel
theorem dX4_addPortions_143 : decode cX4_addPortions 143 = .ok (.istore 9, 2) := by decide +kernel
theorem dX4_addPortions_145 : decode cX4_addPortions 145 = .ok (.aload_n 1, 1) := by decide +kernel
theorem dX4_addPortions_146 : decode cX4_addPortions 146 = .ok (.new 220, 3) := by decide +kernel
theorem dX4_addPortions_149 : decode cX4_addPortions 149 = .ok (.dup, 1) := by decide +kernel
theorem dX4_addPortions_150 : decode cX4_addPortions 150 = .ok (.iload 8, 2) := by decide +kernel
theorem dX4_addPortions_152 : decode cX4_addPortions 152 = .ok (.iload 9, 2) := by decide +kernel
theorem dX4_addPortions_154 : decode cX4_addPortions 154 = .ok (.iload_n 2, 1) := by decide +kernel
theorem dX4_addPortions_155 : decode cX4_addPortions 155 = .ok (.invokestatic 198, 3) := by decide +kernel
theorem dX4_addPortions_158 : decode cX4_addPortions 158 = .ok (.iload 6, 2) := by decide +kernel
theorem dX4_addPortions_160 : decode cX4_addPortions 160 = .ok (.invokestatic 198, 3) := by decide +kernel
theorem dX4_addPortions_163 : decode cX4_addPortions 163 = .ok (.ior, 1) := by decide +kernel
theorem dX4_addPortions_164 : decode cX4_addPortions 164 = .ok (.invokespecial 222, 3) := by decide +kernel
theorem dX4_addPortions_167 : decode cX4_addPortions 167 = .ok (.invokevirtual 225, 3) := by decide +kernel
theorem dX4_addPortions_170 : decode cX4_addPortions 170 = .ok (.iinc 6 1, 3) := by decide +kernel
theorem dX4_addPortions_173 : decode cX4_addPortions 173 = .ok (.goto (-93), 3) := by decide +kernel
theorem dX4_addPortions_176 : decode cX4_addPortions 176 = .ok (.return_, 1) := by decide +kernel
theorem dX4_proportion_0 : decode cX4_proportion 0 = .ok (.iload_n 2, 1) := by decide +kernel
theorem dX4_proportion_1 : decode cX4_proportion 1 = .ok (.ifCond .ne 7, 3) := by decide +kernel
theorem dX4_proportion_4 : decode cX4_proportion 4 = .ok (.iconst 0, 1) := by decide +kernel
theorem dX4_proportion_5 : decode cX4_proportion 5 = .ok (.goto 12, 3) := by decide +kernel
theorem dX4_proportion_8 : decode cX4_proportion 8 = .ok (.iload_n 0, 1) := by decide +kernel
theorem dX4_proportion_9 : decode cX4_proportion 9 = .ok (.i2l, 1) := by decide +kernel
theorem dX4_proportion_10 : decode cX4_proportion 10 = .ok (.iload_n 1, 1) := by decide +kernel
theorem dX4_proportion_11 : decode cX4_proportion 11 = .ok (.i2l, 1) := by decide +kernel
theorem dX4_proportion_12 : decode cX4_proportion 12 = .ok (.lmul, 1) := by decide +kernel
theorem dX4_proportion_13 : decode cX4_proportion 13 = .ok (.iload_n 2, 1) := by decide +kernel
theorem dX4_proportion_14 : decode cX4_proportion 14 = .ok (.i2l, 1) := by decide +kernel
theorem dX4_proportion_15 : decode cX4_proportion 15 = .ok (.ldiv, 1) := by decide +kernel
theorem dX4_proportion_16 : decode cX4_proportion 16 = .ok (.l2i, 1) := by decide +kernel
theorem dX4_proportion_17 : decode cX4_proportion 17 = .ok (.ireturn, 1) := by decide +kernel
set_option maxRecDepth 20000 in
theorem ggX4_giveBack_X2_lowerTo : GoodIn wsX4_giveBack wsX2_lowerTo := goodIn_r _ [5, 6, 7, 8, 9, 10, 17, 18, 19] (by decide +kernel) (by decide +kernel)
set_option maxRecDepth 20000 in
theorem gX4_giveBack_X2_lowerTo_n235 : GoodIn wsX4_giveBack (wsX2_lowerTo) := ggX4_giveBack_X2_lowerTo
theorem dX4_giveBack_0 : decode cX4_giveBack 0 = .ok (.aload_n 1, 1) := by decide +kernel
theorem dX4_giveBack_1 : decode cX4_giveBack 1 = .ok (.iload_n 2, 1) := by decide +kernel
theorem dX4_giveBack_2 : decode cX4_giveBack 2 = .ok (.invokevirtual 235, 3) := by decide +kernel
theorem dX4_giveBack_5 : decode cX4_giveBack 5 = .ok (.istore_n 3, 1) := by decide +kernel
theorem dX4_giveBack_6 : decode cX4_giveBack 6 = .ok (.aload_n 0, 1) := by decide +kernel
theorem dX4_giveBack_7 : decode cX4_giveBack 7 = .ok (.dup, 1) := by decide +kernel
theorem dX4_giveBack_8 : decode cX4_giveBack 8 = .ok (.getfield 30, 3) := by decide +kernel
theorem dX4_giveBack_11 : decode cX4_giveBack 11 = .ok (.iload_n 3, 1) := by decide +kernel
theorem dX4_giveBack_12 : decode cX4_giveBack 12 = .ok (.i2l, 1) := by decide +kernel
theorem dX4_giveBack_13 : decode cX4_giveBack 13 = .ok (.ladd, 1) := by decide +kernel
theorem dX4_giveBack_14 : decode cX4_giveBack 14 = .ok (.putfield 30, 3) := by decide +kernel
theorem dX4_giveBack_17 : decode cX4_giveBack 17 = .ok (.iload_n 3, 1) := by decide +kernel
theorem dX4_giveBack_18 : decode cX4_giveBack 18 = .ok (.ireturn, 1) := by decide +kernel
