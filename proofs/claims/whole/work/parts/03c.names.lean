theorem dX5_init_0 : decode cX5_init 0 = .ok (.aload_n 0, 1) := by decide +kernel
theorem dX5_init_1 : decode cX5_init 1 = .ok (.invokespecial 1, 3) := by decide +kernel
theorem dX5_init_4 : decode cX5_init 4 = .ok (.aload_n 0, 1) := by decide +kernel
theorem dX5_init_5 : decode cX5_init 5 = .ok (.bipush 6, 2) := by decide +kernel
theorem dX5_init_7 : decode cX5_init 7 = .ok (.newarray .int, 2) := by decide +kernel
theorem dX5_init_9 : decode cX5_init 9 = .ok (.putfield 7, 3) := by decide +kernel
theorem dX5_init_12 : decode cX5_init 12 = .ok (.aload_n 0, 1) := by decide +kernel
theorem dX5_init_13 : decode cX5_init 13 = .ok (.bipush 6, 2) := by decide +kernel
theorem dX5_init_15 : decode cX5_init 15 = .ok (.newarray .int, 2) := by decide +kernel
theorem dX5_init_17 : decode cX5_init 17 = .ok (.putfield 13, 3) := by decide +kernel
theorem dX5_init_20 : decode cX5_init 20 = .ok (.aload_n 0, 1) := by decide +kernel
theorem dX5_init_21 : decode cX5_init 21 = .ok (.bipush 20, 2) := by decide +kernel
theorem dX5_init_23 : decode cX5_init 23 = .ok (.newarray .int, 2) := by decide +kernel
theorem dX5_init_25 : decode cX5_init 25 = .ok (.putfield 16, 3) := by decide +kernel
theorem dX5_init_28 : decode cX5_init 28 = .ok (.aload_n 0, 1) := by decide +kernel
theorem dX5_init_29 : decode cX5_init 29 = .ok (.bipush 20, 2) := by decide +kernel
theorem dX5_init_31 : decode cX5_init 31 = .ok (.newarray .int, 2) := by decide +kernel
theorem dX5_init_33 : decode cX5_init 33 = .ok (.putfield 19, 3) := by decide +kernel
theorem dX5_init_36 : decode cX5_init 36 = .ok (.aload_n 0, 1) := by decide +kernel
theorem dX5_init_37 : decode cX5_init 37 = .ok (.bipush 20, 2) := by decide +kernel
theorem dX5_init_39 : decode cX5_init 39 = .ok (.newarray .int, 2) := by decide +kernel
theorem dX5_init_41 : decode cX5_init 41 = .ok (.putfield 22, 3) := by decide +kernel
theorem dX5_init_44 : decode cX5_init 44 = .ok (.aload_n 0, 1) := by decide +kernel
theorem dX5_init_45 : decode cX5_init 45 = .ok (.bipush 20, 2) := by decide +kernel
theorem dX5_init_47 : decode cX5_init 47 = .ok (.newarray .int, 2) := by decide +kernel
theorem dX5_init_49 : decode cX5_init 49 = .ok (.putfield 25, 3) := by decide +kernel
theorem dX5_init_52 : decode cX5_init 52 = .ok (.aload_n 0, 1) := by decide +kernel
theorem dX5_init_53 : decode cX5_init 53 = .ok (.bipush 20, 2) := by decide +kernel
theorem dX5_init_55 : decode cX5_init 55 = .ok (.newarray .int, 2) := by decide +kernel
theorem dX5_init_57 : decode cX5_init 57 = .ok (.putfield 28, 3) := by decide +kernel
theorem dX5_init_60 : decode cX5_init 60 = .ok (.aload_n 0, 1) := by decide +kernel
theorem dX5_init_61 : decode cX5_init 61 = .ok (.sipush 400, 3) := by decide +kernel
theorem dX5_init_64 : decode cX5_init 64 = .ok (.newarray .int, 2) := by decide +kernel
theorem dX5_init_66 : decode cX5_init 66 = .ok (.putfield 31, 3) := by decide +kernel
theorem dX5_init_69 : decode cX5_init 69 = .ok (.aload_n 0, 1) := by decide +kernel
theorem dX5_init_70 : decode cX5_init 70 = .ok (.bipush 40, 2) := by decide +kernel
theorem dX5_init_72 : decode cX5_init 72 = .ok (.newarray .int, 2) := by decide +kernel
theorem dX5_init_74 : decode cX5_init 74 = .ok (.putfield 34, 3) := by decide +kernel
theorem dX5_init_77 : decode cX5_init 77 = .ok (.aload_n 0, 1) := by decide +kernel
theorem dX5_init_78 : decode cX5_init 78 = .ok (.sipush 800, 3) := by decide +kernel
theorem dX5_init_81 : decode cX5_init 81 = .ok (.newarray .int, 2) := by decide +kernel
theorem dX5_init_83 : decode cX5_init 83 = .ok (.putfield 37, 3) := by decide +kernel
theorem dX5_init_86 : decode cX5_init 86 = .ok (.aload_n 0, 1) := by decide +kernel
theorem dX5_init_87 : decode cX5_init 87 = .ok (.sipush 800, 3) := by decide +kernel
theorem dX5_init_90 : decode cX5_init 90 = .ok (.newarray .int, 2) := by decide +kernel
theorem dX5_init_92 : decode cX5_init 92 = .ok (.putfield 40, 3) := by decide +kernel
theorem dX5_init_95 : decode cX5_init 95 = .ok (.aload_n 0, 1) := by decide +kernel
theorem dX5_init_96 : decode cX5_init 96 = .ok (.sipush 800, 3) := by decide +kernel
theorem dX5_init_99 : decode cX5_init 99 = .ok (.newarray .int, 2) := by decide +kernel
theorem dX5_init_101 : decode cX5_init 101 = .ok (.putfield 43, 3) := by decide +kernel
theorem dX5_init_104 : decode cX5_init 104 = .ok (.aload_n 0, 1) := by decide +kernel
theorem dX5_init_105 : decode cX5_init 105 = .ok (.sipush 800, 3) := by decide +kernel
theorem dX5_init_108 : decode cX5_init 108 = .ok (.newarray .int, 2) := by decide +kernel
theorem dX5_init_110 : decode cX5_init 110 = .ok (.putfield 46, 3) := by decide +kernel
theorem dX5_init_113 : decode cX5_init 113 = .ok (.aload_n 0, 1) := by decide +kernel
theorem dX5_init_114 : decode cX5_init 114 = .ok (.sipush 800, 3) := by decide +kernel
theorem dX5_init_117 : decode cX5_init 117 = .ok (.newarray .int, 2) := by decide +kernel
theorem dX5_init_119 : decode cX5_init 119 = .ok (.putfield 49, 3) := by decide +kernel
theorem dX5_init_122 : decode cX5_init 122 = .ok (.aload_n 0, 1) := by decide +kernel
theorem dX5_init_123 : decode cX5_init 123 = .ok (.sipush 800, 3) := by decide +kernel
theorem dX5_init_126 : decode cX5_init 126 = .ok (.newarray .boolean, 2) := by decide +kernel
theorem dX5_init_128 : decode cX5_init 128 = .ok (.putfield 52, 3) := by decide +kernel
theorem dX5_init_131 : decode cX5_init 131 = .ok (.aload_n 0, 1) := by decide +kernel
theorem dX5_init_132 : decode cX5_init 132 = .ok (.sipush 16000, 3) := by decide +kernel
theorem dX5_init_135 : decode cX5_init 135 = .ok (.newarray .int, 2) := by decide +kernel
theorem dX5_init_137 : decode cX5_init 137 = .ok (.putfield 56, 3) := by decide +kernel
theorem dX5_init_140 : decode cX5_init 140 = .ok (.iconst 0, 1) := by decide +kernel
theorem dX5_init_141 : decode cX5_init 141 = .ok (.istore_n 1, 1) := by decide +kernel
theorem dX5_init_142 : decode cX5_init 142 = .ok (.iload_n 1, 1) := by decide +kernel
theorem dX5_init_143 : decode cX5_init 143 = .ok (.bipush 6, 2) := by decide +kernel
theorem dX5_init_145 : decode cX5_init 145 = .ok (.if_icmp .ge 25, 3) := by decide +kernel
theorem dX5_init_148 : decode cX5_init 148 = .ok (.aload_n 0, 1) := by decide +kernel
theorem dX5_init_149 : decode cX5_init 149 = .ok (.getfield 7, 3) := by decide +kernel
theorem dX5_init_152 : decode cX5_init 152 = .ok (.iload_n 1, 1) := by decide +kernel
theorem dX5_init_153 : decode cX5_init 153 = .ok (.bipush 30, 2) := by decide +kernel
theorem dX5_init_155 : decode cX5_init 155 = .ok (.iastore, 1) := by decide +kernel
theorem dX5_init_156 : decode cX5_init 156 = .ok (.aload_n 0, 1) := by decide +kernel
theorem dX5_init_157 : decode cX5_init 157 = .ok (.getfield 13, 3) := by decide +kernel
theorem dX5_init_160 : decode cX5_init 160 = .ok (.iload_n 1, 1) := by decide +kernel
theorem dX5_init_161 : decode cX5_init 161 = .ok (.bipush 30, 2) := by decide +kernel
theorem dX5_init_163 : decode cX5_init 163 = .ok (.iastore, 1) := by decide +kernel
theorem dX5_init_164 : decode cX5_init 164 = .ok (.iinc 1 1, 3) := by decide +kernel
theorem dX5_init_167 : decode cX5_init 167 = .ok (.goto (-25), 3) := by decide +kernel
theorem dX5_init_170 : decode cX5_init 170 = .ok (.iconst 0, 1) := by decide +kernel
theorem dX5_init_171 : decode cX5_init 171 = .ok (.istore_n 1, 1) := by decide +kernel
theorem dX5_init_172 : decode cX5_init 172 = .ok (.iload_n 1, 1) := by decide +kernel
theorem dX5_init_173 : decode cX5_init 173 = .ok (.bipush 20, 2) := by decide +kernel
theorem dX5_init_175 : decode cX5_init 175 = .ok (.if_icmp .ge 23, 3) := by decide +kernel
theorem dX5_init_178 : decode cX5_init 178 = .ok (.aload_n 0, 1) := by decide +kernel
theorem dX5_init_179 : decode cX5_init 179 = .ok (.getfield 25, 3) := by decide +kernel
theorem dX5_init_182 : decode cX5_init 182 = .ok (.iload_n 1, 1) := by decide +kernel
theorem dX5_init_183 : decode cX5_init 183 = .ok (.iconst (-1), 1) := by decide +kernel
theorem dX5_init_184 : decode cX5_init 184 = .ok (.iastore, 1) := by decide +kernel
theorem dX5_init_185 : decode cX5_init 185 = .ok (.aload_n 0, 1) := by decide +kernel
theorem dX5_init_186 : decode cX5_init 186 = .ok (.getfield 28, 3) := by decide +kernel
theorem dX5_init_189 : decode cX5_init 189 = .ok (.iload_n 1, 1) := by decide +kernel
theorem dX5_init_190 : decode cX5_init 190 = .ok (.iconst (-1), 1) := by decide +kernel
theorem dX5_init_191 : decode cX5_init 191 = .ok (.iastore, 1) := by decide +kernel
theorem dX5_init_192 : decode cX5_init 192 = .ok (.iinc 1 1, 3) := by decide +kernel
theorem dX5_init_195 : decode cX5_init 195 = .ok (.goto (-23), 3) := by decide +kernel
theorem dX5_init_198 : decode cX5_init 198 = .ok (.return_, 1) := by decide +kernel
theorem dX5_thrown_0 : decode cX5_thrown 0 = .ok (.aload_n 0, 1) := by decide +kernel
theorem dX5_thrown_1 : decode cX5_thrown 1 = .ok (.getfield 59, 3) := by decide +kernel
theorem dX5_thrown_4 : decode cX5_thrown 4 = .ok (.ireturn, 1) := by decide +kernel
theorem dX5_can_0 : decode cX5_can 0 = .ok (.aload_n 0, 1) := by decide +kernel
theorem dX5_can_1 : decode cX5_can 1 = .ok (.iload_n 1, 1) := by decide +kernel
theorem dX5_can_2 : decode cX5_can 2 = .ok (.putfield 59, 3) := by decide +kernel
theorem dX5_can_5 : decode cX5_can 5 = .ok (.iload_n 1, 1) := by decide +kernel
theorem dX5_can_6 : decode cX5_can 6 = .ok (.ifCond .ne 7, 3) := by decide +kernel
theorem dX5_can_9 : decode cX5_can 9 = .ok (.iconst 1, 1) := by decide +kernel
theorem dX5_can_10 : decode cX5_can 10 = .ok (.goto 4, 3) := by decide +kernel
theorem dX5_can_13 : decode cX5_can 13 = .ok (.iconst 0, 1) := by decide +kernel
theorem dX5_can_14 : decode cX5_can 14 = .ok (.ireturn, 1) := by decide +kernel
theorem dX5_isIn_0 : decode cX5_isIn 0 = .ok (.iload_n 0, 1) := by decide +kernel
theorem dX5_isIn_1 : decode cX5_isIn 1 = .ok (.iload_n 1, 1) := by decide +kernel
theorem dX5_isIn_2 : decode cX5_isIn 2 = .ok (.if_icmp .lt 12, 3) := by decide +kernel
theorem dX5_isIn_5 : decode cX5_isIn 5 = .ok (.iload_n 0, 1) := by decide +kernel
theorem dX5_isIn_6 : decode cX5_isIn 6 = .ok (.iload_n 2, 1) := by decide +kernel
theorem dX5_isIn_7 : decode cX5_isIn 7 = .ok (.if_icmp .gt 7, 3) := by decide +kernel
theorem dX5_isIn_10 : decode cX5_isIn 10 = .ok (.iconst 1, 1) := by decide +kernel
theorem dX5_isIn_11 : decode cX5_isIn 11 = .ok (.goto 4, 3) := by decide +kernel
theorem dX5_isIn_14 : decode cX5_isIn 14 = .ok (.iconst 0, 1) := by decide +kernel
theorem dX5_isIn_15 : decode cX5_isIn 15 = .ok (.ireturn, 1) := by decide +kernel
set_option maxRecDepth 20000 in
theorem ggX5_isHolder_X5_isIn : GoodIn wsX5_isHolder wsX5_isIn := goodIn_r _ [5] (by decide +kernel) (by decide +kernel)
set_option maxRecDepth 20000 in
theorem gX5_isHolder_X5_isIn : GoodIn wsX5_isHolder (va_wsS RX5 66 yX5_isIn wsX5_isIn) := goodIn_app (goodIn_of _ (by decide +kernel)) ggX5_isHolder_X5_isIn
theorem dX5_isHolder_0 : decode cX5_isHolder 0 = .ok (.iload_n 1, 1) := by decide +kernel
theorem dX5_isHolder_1 : decode cX5_isHolder 1 = .ok (.iconst 0, 1) := by decide +kernel
theorem dX5_isHolder_2 : decode cX5_isHolder 2 = .ok (.aload_n 0, 1) := by decide +kernel
theorem dX5_isHolder_3 : decode cX5_isHolder 3 = .ok (.getfield 63, 3) := by decide +kernel
theorem dX5_isHolder_6 : decode cX5_isHolder 6 = .ok (.iconst 1, 1) := by decide +kernel
theorem dX5_isHolder_7 : decode cX5_isHolder 7 = .ok (.isub, 1) := by decide +kernel
theorem dX5_isHolder_8 : decode cX5_isHolder 8 = .ok (.invokestatic 66, 3) := by decide +kernel
theorem dX5_isHolder_11 : decode cX5_isHolder 11 = .ok (.ireturn, 1) := by decide +kernel
set_option maxRecDepth 20000 in
theorem ggX5_isDividend_X5_isIn : GoodIn wsX5_isDividend wsX5_isIn := goodIn_r _ [5] (by decide +kernel) (by decide +kernel)
set_option maxRecDepth 20000 in
theorem gX5_isDividend_X5_isIn : GoodIn wsX5_isDividend (va_wsS RX5 66 yX5_isIn wsX5_isIn) := goodIn_app (goodIn_of _ (by decide +kernel)) ggX5_isDividend_X5_isIn
theorem dX5_isDividend_0 : decode cX5_isDividend 0 = .ok (.iload_n 1, 1) := by decide +kernel
theorem dX5_isDividend_1 : decode cX5_isDividend 1 = .ok (.iconst 0, 1) := by decide +kernel
theorem dX5_isDividend_2 : decode cX5_isDividend 2 = .ok (.aload_n 0, 1) := by decide +kernel
theorem dX5_isDividend_3 : decode cX5_isDividend 3 = .ok (.getfield 70, 3) := by decide +kernel
theorem dX5_isDividend_6 : decode cX5_isDividend 6 = .ok (.iconst 1, 1) := by decide +kernel
theorem dX5_isDividend_7 : decode cX5_isDividend 7 = .ok (.isub, 1) := by decide +kernel
theorem dX5_isDividend_8 : decode cX5_isDividend 8 = .ok (.invokestatic 66, 3) := by decide +kernel
theorem dX5_isDividend_11 : decode cX5_isDividend 11 = .ok (.ireturn, 1) := by decide +kernel
set_option maxRecDepth 20000 in
theorem ggX5_setTreaty_X5_isIn : GoodIn wsX5_setTreaty wsX5_isIn := goodIn_r _ [6] (by decide +kernel) (by decide +kernel)
set_option maxRecDepth 20000 in
theorem gX5_setTreaty_X5_isIn : GoodIn wsX5_setTreaty (va_wsS RX5 66 yX5_isIn wsX5_isIn) := goodIn_app (goodIn_of _ (by decide +kernel)) ggX5_setTreaty_X5_isIn
set_option maxRecDepth 20000 in
theorem ggX5_setTreaty_X5_can : GoodIn wsX5_setTreaty wsX5_can := goodIn_r _ [10, 11, 12, 13, 14, 15, 16, 17, 18, 19, 20, 21, 22, 23, 24, 25, 26, 27, 28, 29, 30, 31, 32] (by decide +kernel) (by decide +kernel)
set_option maxRecDepth 20000 in
theorem gX5_setTreaty_X5_can : GoodIn wsX5_setTreaty (wsV RX5 73 RX5 yX5_can wsX5_can) := goodIn_app (goodIn_of _ (by decide +kernel)) ggX5_setTreaty_X5_can
theorem dX5_setTreaty_0 : decode cX5_setTreaty 0 = .ok (.aload_n 0, 1) := by decide +kernel
theorem dX5_setTreaty_1 : decode cX5_setTreaty 1 = .ok (.iload_n 1, 1) := by decide +kernel
theorem dX5_setTreaty_2 : decode cX5_setTreaty 2 = .ok (.iconst 0, 1) := by decide +kernel
theorem dX5_setTreaty_3 : decode cX5_setTreaty 3 = .ok (.iconst 5, 1) := by decide +kernel
theorem dX5_setTreaty_4 : decode cX5_setTreaty 4 = .ok (.invokestatic 66, 3) := by decide +kernel
theorem dX5_setTreaty_7 : decode cX5_setTreaty 7 = .ok (.ifCond .eq 27, 3) := by decide +kernel
theorem dX5_setTreaty_10 : decode cX5_setTreaty 10 = .ok (.iload_n 2, 1) := by decide +kernel
theorem dX5_setTreaty_11 : decode cX5_setTreaty 11 = .ok (.iconst 0, 1) := by decide +kernel
theorem dX5_setTreaty_12 : decode cX5_setTreaty 12 = .ok (.bipush 30, 2) := by decide +kernel
theorem dX5_setTreaty_14 : decode cX5_setTreaty 14 = .ok (.invokestatic 66, 3) := by decide +kernel
theorem dX5_setTreaty_17 : decode cX5_setTreaty 17 = .ok (.ifCond .eq 17, 3) := by decide +kernel
theorem dX5_setTreaty_20 : decode cX5_setTreaty 20 = .ok (.iload_n 3, 1) := by decide +kernel
theorem dX5_setTreaty_21 : decode cX5_setTreaty 21 = .ok (.iconst 0, 1) := by decide +kernel
theorem dX5_setTreaty_22 : decode cX5_setTreaty 22 = .ok (.bipush 30, 2) := by decide +kernel
theorem dX5_setTreaty_24 : decode cX5_setTreaty 24 = .ok (.invokestatic 66, 3) := by decide +kernel
theorem dX5_setTreaty_27 : decode cX5_setTreaty 27 = .ok (.ifCond .eq 7, 3) := by decide +kernel
theorem dX5_setTreaty_30 : decode cX5_setTreaty 30 = .ok (.iconst 0, 1) := by decide +kernel
theorem dX5_setTreaty_31 : decode cX5_setTreaty 31 = .ok (.goto 4, 3) := by decide +kernel
theorem dX5_setTreaty_34 : decode cX5_setTreaty 34 = .ok (.iconst 1, 1) := by decide +kernel
theorem dX5_setTreaty_35 : decode cX5_setTreaty 35 = .ok (.invokevirtual 73, 3) := by decide +kernel
theorem dX5_setTreaty_38 : decode cX5_setTreaty 38 = .ok (.ifCond .ne 5, 3) := by decide +kernel
theorem dX5_setTreaty_41 : decode cX5_setTreaty 41 = .ok (.iconst 0, 1) := by decide +kernel
theorem dX5_setTreaty_42 : decode cX5_setTreaty 42 = .ok (.ireturn, 1) := by decide +kernel
theorem dX5_setTreaty_43 : decode cX5_setTreaty 43 = .ok (.aload_n 0, 1) := by decide +kernel
theorem dX5_setTreaty_44 : decode cX5_setTreaty 44 = .ok (.getfield 7, 3) := by decide +kernel
theorem dX5_setTreaty_47 : decode cX5_setTreaty 47 = .ok (.iload_n 1, 1) := by decide +kernel
theorem dX5_setTreaty_48 : decode cX5_setTreaty 48 = .ok (.iaload, 1) := by decide +kernel
theorem dX5_setTreaty_49 : decode cX5_setTreaty 49 = .ok (.istore 4, 2) := by decide +kernel
theorem dX5_setTreaty_51 : decode cX5_setTreaty 51 = .ok (.aload_n 0, 1) := by decide +kernel
theorem dX5_setTreaty_52 : decode cX5_setTreaty 52 = .ok (.getfield 7, 3) := by decide +kernel
theorem dX5_setTreaty_55 : decode cX5_setTreaty 55 = .ok (.iload_n 1, 1) := by decide +kernel
theorem dX5_setTreaty_56 : decode cX5_setTreaty 56 = .ok (.iload_n 2, 1) := by decide +kernel
theorem dX5_setTreaty_57 : decode cX5_setTreaty 57 = .ok (.iastore, 1) := by decide +kernel
theorem dX5_setTreaty_58 : decode cX5_setTreaty 58 = .ok (.aload_n 0, 1) := by decide +kernel
theorem dX5_setTreaty_59 : decode cX5_setTreaty 59 = .ok (.getfield 13, 3) := by decide +kernel
theorem dX5_setTreaty_62 : decode cX5_setTreaty 62 = .ok (.iload_n 1, 1) := by decide +kernel
theorem dX5_setTreaty_63 : decode cX5_setTreaty 63 = .ok (.iload_n 3, 1) := by decide +kernel
theorem dX5_setTreaty_64 : decode cX5_setTreaty 64 = .ok (.iastore, 1) := by decide +kernel
theorem dX5_setTreaty_65 : decode cX5_setTreaty 65 = .ok (.iload 4, 2) := by decide +kernel
theorem dX5_setTreaty_67 : decode cX5_setTreaty 67 = .ok (.ireturn, 1) := by decide +kernel
set_option maxRecDepth 20000 in
theorem ggX5_addHolder_X5_isIn : GoodIn wsX5_addHolder wsX5_isIn := goodIn_r _ [7] (by decide +kernel) (by decide +kernel)
set_option maxRecDepth 20000 in
theorem gX5_addHolder_X5_isIn : GoodIn wsX5_addHolder (va_wsS RX5 66 yX5_isIn wsX5_isIn) := goodIn_app (goodIn_of _ (by decide +kernel)) ggX5_addHolder_X5_isIn
set_option maxRecDepth 20000 in
theorem ggX5_addHolder_X5_can : GoodIn wsX5_addHolder wsX5_can := goodIn_r _ [11, 12, 13, 14, 15, 16, 17, 18, 19, 20, 21, 22, 23, 24, 25, 26, 27, 28, 29, 30, 31, 32, 33] (by decide +kernel) (by decide +kernel)
set_option maxRecDepth 20000 in
theorem gX5_addHolder_X5_can : GoodIn wsX5_addHolder (wsV RX5 73 RX5 yX5_can wsX5_can) := goodIn_app (goodIn_of _ (by decide +kernel)) ggX5_addHolder_X5_can
theorem dX5_addHolder_0 : decode cX5_addHolder 0 = .ok (.iload_n 1, 1) := by decide +kernel
theorem dX5_addHolder_1 : decode cX5_addHolder 1 = .ok (.iconst 0, 1) := by decide +kernel
theorem dX5_addHolder_2 : decode cX5_addHolder 2 = .ok (.iconst 2, 1) := by decide +kernel
theorem dX5_addHolder_3 : decode cX5_addHolder 3 = .ok (.invokestatic 66, 3) := by decide +kernel
theorem dX5_addHolder_6 : decode cX5_addHolder 6 = .ok (.ifCond .eq 29, 3) := by decide +kernel
theorem dX5_addHolder_9 : decode cX5_addHolder 9 = .ok (.iload_n 1, 1) := by decide +kernel
theorem dX5_addHolder_10 : decode cX5_addHolder 10 = .ok (.iconst 2, 1) := by decide +kernel
theorem dX5_addHolder_11 : decode cX5_addHolder 11 = .ok (.if_icmp .ne 11, 3) := by decide +kernel
theorem dX5_addHolder_14 : decode cX5_addHolder 14 = .ok (.iload_n 2, 1) := by decide +kernel
theorem dX5_addHolder_15 : decode cX5_addHolder 15 = .ok (.iconst (-1), 1) := by decide +kernel
theorem dX5_addHolder_16 : decode cX5_addHolder 16 = .ok (.if_icmp .ne 19, 3) := by decide +kernel
theorem dX5_addHolder_19 : decode cX5_addHolder 19 = .ok (.goto 12, 3) := by decide +kernel
theorem dX5_addHolder_22 : decode cX5_addHolder 22 = .ok (.iload_n 2, 1) := by decide +kernel
theorem dX5_addHolder_23 : decode cX5_addHolder 23 = .ok (.iconst 0, 1) := by decide +kernel
theorem dX5_addHolder_24 : decode cX5_addHolder 24 = .ok (.iconst 5, 1) := by decide +kernel
theorem dX5_addHolder_25 : decode cX5_addHolder 25 = .ok (.invokestatic 66, 3) := by decide +kernel
theorem dX5_addHolder_28 : decode cX5_addHolder 28 = .ok (.ifCond .eq 7, 3) := by decide +kernel
theorem dX5_addHolder_31 : decode cX5_addHolder 31 = .ok (.iconst 1, 1) := by decide +kernel
theorem dX5_addHolder_32 : decode cX5_addHolder 32 = .ok (.goto 4, 3) := by decide +kernel
theorem dX5_addHolder_35 : decode cX5_addHolder 35 = .ok (.iconst 0, 1) := by decide +kernel
theorem dX5_addHolder_36 : decode cX5_addHolder 36 = .ok (.istore_n 3, 1) := by decide +kernel
theorem dX5_addHolder_37 : decode cX5_addHolder 37 = .ok (.aload_n 0, 1) := by decide +kernel
theorem dX5_addHolder_38 : decode cX5_addHolder 38 = .ok (.iload_n 3, 1) := by decide +kernel
theorem dX5_addHolder_39 : decode cX5_addHolder 39 = .ok (.ifCond .ne 7, 3) := by decide +kernel
theorem dX5_addHolder_42 : decode cX5_addHolder 42 = .ok (.iconst 1, 1) := by decide +kernel
theorem dX5_addHolder_43 : decode cX5_addHolder 43 = .ok (.goto 17, 3) := by decide +kernel
theorem dX5_addHolder_46 : decode cX5_addHolder 46 = .ok (.aload_n 0, 1) := by decide +kernel
theorem dX5_addHolder_47 : decode cX5_addHolder 47 = .ok (.getfield 63, 3) := by decide +kernel
theorem dX5_addHolder_50 : decode cX5_addHolder 50 = .ok (.bipush 20, 2) := by decide +kernel
theorem dX5_addHolder_52 : decode cX5_addHolder 52 = .ok (.if_icmp .ne 7, 3) := by decide +kernel
theorem dX5_addHolder_55 : decode cX5_addHolder 55 = .ok (.iconst 2, 1) := by decide +kernel
theorem dX5_addHolder_56 : decode cX5_addHolder 56 = .ok (.goto 4, 3) := by decide +kernel
theorem dX5_addHolder_59 : decode cX5_addHolder 59 = .ok (.iconst 0, 1) := by decide +kernel
theorem dX5_addHolder_60 : decode cX5_addHolder 60 = .ok (.invokevirtual 73, 3) := by decide +kernel
theorem dX5_addHolder_63 : decode cX5_addHolder 63 = .ok (.ifCond .ne 5, 3) := by decide +kernel
theorem dX5_addHolder_66 : decode cX5_addHolder 66 = .ok (.iconst 0, 1) := by decide +kernel
theorem dX5_addHolder_67 : decode cX5_addHolder 67 = .ok (.ireturn, 1) := by decide +kernel
theorem dX5_addHolder_68 : decode cX5_addHolder 68 = .ok (.aload_n 0, 1) := by decide +kernel
theorem dX5_addHolder_69 : decode cX5_addHolder 69 = .ok (.getfield 16, 3) := by decide +kernel
theorem dX5_addHolder_72 : decode cX5_addHolder 72 = .ok (.aload_n 0, 1) := by decide +kernel
theorem dX5_addHolder_73 : decode cX5_addHolder 73 = .ok (.getfield 63, 3) := by decide +kernel
theorem dX5_addHolder_76 : decode cX5_addHolder 76 = .ok (.iload_n 1, 1) := by decide +kernel
theorem dX5_addHolder_77 : decode cX5_addHolder 77 = .ok (.iastore, 1) := by decide +kernel
theorem dX5_addHolder_78 : decode cX5_addHolder 78 = .ok (.aload_n 0, 1) := by decide +kernel
theorem dX5_addHolder_79 : decode cX5_addHolder 79 = .ok (.getfield 19, 3) := by decide +kernel
theorem dX5_addHolder_82 : decode cX5_addHolder 82 = .ok (.aload_n 0, 1) := by decide +kernel
theorem dX5_addHolder_83 : decode cX5_addHolder 83 = .ok (.getfield 63, 3) := by decide +kernel
theorem dX5_addHolder_86 : decode cX5_addHolder 86 = .ok (.iload_n 2, 1) := by decide +kernel
theorem dX5_addHolder_87 : decode cX5_addHolder 87 = .ok (.iastore, 1) := by decide +kernel
theorem dX5_addHolder_88 : decode cX5_addHolder 88 = .ok (.aload_n 0, 1) := by decide +kernel
theorem dX5_addHolder_89 : decode cX5_addHolder 89 = .ok (.dup, 1) := by decide +kernel
theorem dX5_addHolder_90 : decode cX5_addHolder 90 = .ok (.getfield 63, 3) := by decide +kernel
theorem dX5_addHolder_93 : decode cX5_addHolder 93 = .ok (.iconst 1, 1) := by decide +kernel
theorem dX5_addHolder_94 : decode cX5_addHolder 94 = .ok (.iadd, 1) := by decide +kernel
theorem dX5_addHolder_95 : decode cX5_addHolder 95 = .ok (.putfield 63, 3) := by decide +kernel
theorem dX5_addHolder_98 : decode cX5_addHolder 98 = .ok (.aload_n 0, 1) := by decide +kernel
theorem dX5_addHolder_99 : decode cX5_addHolder 99 = .ok (.getfield 63, 3) := by decide +kernel
theorem dX5_addHolder_102 : decode cX5_addHolder 102 = .ok (.iconst 1, 1) := by decide +kernel
theorem dX5_addHolder_103 : decode cX5_addHolder 103 = .ok (.isub, 1) := by decide +kernel
theorem dX5_addHolder_104 : decode cX5_addHolder 104 = .ok (.ireturn, 1) := by decide +kernel
set_option maxRecDepth 20000 in
theorem ggX5_setParts_X5_isHolder : GoodIn wsX5_setParts wsX5_isHolder := goodIn_r _ [7, 8, 9, 10, 6, 11, 17, 18, 19, 20, 21, 22, 23, 24, 25, 26, 27, 28, 29, 30, 31, 32, 33, 34, 35, 36, 37] (by decide +kernel) (by decide +kernel)
set_option maxRecDepth 20000 in
theorem gX5_setParts_X5_isHolder : GoodIn wsX5_setParts (wsV RX5 77 RX5 yX5_isHolder wsX5_isHolder) := goodIn_app (goodIn_of _ (by decide +kernel)) ggX5_setParts_X5_isHolder
set_option maxRecDepth 20000 in
theorem ggX5_setParts_X5_isIn : GoodIn wsX5_setParts wsX5_isIn := goodIn_r _ [11] (by decide +kernel) (by decide +kernel)
set_option maxRecDepth 20000 in
theorem gX5_setParts_X5_isIn : GoodIn wsX5_setParts (va_wsS RX5 66 yX5_isIn wsX5_isIn) := goodIn_app (goodIn_of _ (by decide +kernel)) ggX5_setParts_X5_isIn
set_option maxRecDepth 20000 in
theorem ggX5_setParts_X5_can : GoodIn wsX5_setParts wsX5_can := goodIn_r _ [15, 16, 17, 18, 19, 20, 21, 22, 23, 24, 25, 26, 27, 28, 29, 30, 31, 32, 33, 34, 35, 36, 37] (by decide +kernel) (by decide +kernel)
set_option maxRecDepth 20000 in
theorem gX5_setParts_X5_can : GoodIn wsX5_setParts (wsV RX5 73 RX5 yX5_can wsX5_can) := goodIn_app (goodIn_of _ (by decide +kernel)) ggX5_setParts_X5_can
theorem dX5_setParts_0 : decode cX5_setParts 0 = .ok (.aload_n 0, 1) := by decide +kernel
theorem dX5_setParts_1 : decode cX5_setParts 1 = .ok (.iload_n 1, 1) := by decide +kernel
theorem dX5_setParts_2 : decode cX5_setParts 2 = .ok (.invokevirtual 77, 3) := by decide +kernel
theorem dX5_setParts_5 : decode cX5_setParts 5 = .ok (.ifCond .eq 15, 3) := by decide +kernel
theorem dX5_setParts_8 : decode cX5_setParts 8 = .ok (.aload_n 0, 1) := by decide +kernel
theorem dX5_setParts_9 : decode cX5_setParts 9 = .ok (.iload_n 2, 1) := by decide +kernel
theorem dX5_setParts_10 : decode cX5_setParts 10 = .ok (.invokevirtual 77, 3) := by decide +kernel
theorem dX5_setParts_13 : decode cX5_setParts 13 = .ok (.ifCond .eq 7, 3) := by decide +kernel
theorem dX5_setParts_16 : decode cX5_setParts 16 = .ok (.iconst 1, 1) := by decide +kernel
theorem dX5_setParts_17 : decode cX5_setParts 17 = .ok (.goto 4, 3) := by decide +kernel
theorem dX5_setParts_20 : decode cX5_setParts 20 = .ok (.iconst 0, 1) := by decide +kernel
theorem dX5_setParts_21 : decode cX5_setParts 21 = .ok (.istore 4, 2) := by decide +kernel
theorem dX5_setParts_23 : decode cX5_setParts 23 = .ok (.iload 4, 2) := by decide +kernel
theorem dX5_setParts_25 : decode cX5_setParts 25 = .ok (.ifCond .eq 37, 3) := by decide +kernel
theorem dX5_setParts_28 : decode cX5_setParts 28 = .ok (.aload_n 0, 1) := by decide +kernel
theorem dX5_setParts_29 : decode cX5_setParts 29 = .ok (.getfield 16, 3) := by decide +kernel
theorem dX5_setParts_32 : decode cX5_setParts 32 = .ok (.iload_n 1, 1) := by decide +kernel
theorem dX5_setParts_33 : decode cX5_setParts 33 = .ok (.iaload, 1) := by decide +kernel
theorem dX5_setParts_34 : decode cX5_setParts 34 = .ok (.iconst 2, 1) := by decide +kernel
theorem dX5_setParts_35 : decode cX5_setParts 35 = .ok (.if_icmp .ne 27, 3) := by decide +kernel
theorem dX5_setParts_38 : decode cX5_setParts 38 = .ok (.aload_n 0, 1) := by decide +kernel
theorem dX5_setParts_39 : decode cX5_setParts 39 = .ok (.getfield 16, 3) := by decide +kernel
theorem dX5_setParts_42 : decode cX5_setParts 42 = .ok (.iload_n 2, 1) := by decide +kernel
theorem dX5_setParts_43 : decode cX5_setParts 43 = .ok (.iaload, 1) := by decide +kernel
theorem dX5_setParts_44 : decode cX5_setParts 44 = .ok (.iconst 2, 1) := by decide +kernel
theorem dX5_setParts_45 : decode cX5_setParts 45 = .ok (.if_icmp .eq 17, 3) := by decide +kernel
theorem dX5_setParts_48 : decode cX5_setParts 48 = .ok (.iload_n 3, 1) := by decide +kernel
theorem dX5_setParts_49 : decode cX5_setParts 49 = .ok (.iconst 0, 1) := by decide +kernel
theorem dX5_setParts_50 : decode cX5_setParts 50 = .ok (.bipush 100, 2) := by decide +kernel
theorem dX5_setParts_52 : decode cX5_setParts 52 = .ok (.invokestatic 66, 3) := by decide +kernel
theorem dX5_setParts_55 : decode cX5_setParts 55 = .ok (.ifCond .eq 7, 3) := by decide +kernel
theorem dX5_setParts_58 : decode cX5_setParts 58 = .ok (.iconst 1, 1) := by decide +kernel
theorem dX5_setParts_59 : decode cX5_setParts 59 = .ok (.goto 4, 3) := by decide +kernel
theorem dX5_setParts_62 : decode cX5_setParts 62 = .ok (.iconst 0, 1) := by decide +kernel
theorem dX5_setParts_63 : decode cX5_setParts 63 = .ok (.istore 5, 2) := by decide +kernel
theorem dX5_setParts_65 : decode cX5_setParts 65 = .ok (.aload_n 0, 1) := by decide +kernel
theorem dX5_setParts_66 : decode cX5_setParts 66 = .ok (.iload 4, 2) := by decide +kernel
theorem dX5_setParts_68 : decode cX5_setParts 68 = .ok (.ifCond .ne 7, 3) := by decide +kernel
theorem dX5_setParts_71 : decode cX5_setParts 71 = .ok (.iconst 1, 1) := by decide +kernel
theorem dX5_setParts_72 : decode cX5_setParts 72 = .ok (.goto 13, 3) := by decide +kernel
theorem dX5_setParts_75 : decode cX5_setParts 75 = .ok (.iload 5, 2) := by decide +kernel
theorem dX5_setParts_77 : decode cX5_setParts 77 = .ok (.ifCond .eq 7, 3) := by decide +kernel
theorem dX5_setParts_80 : decode cX5_setParts 80 = .ok (.iconst 0, 1) := by decide +kernel
theorem dX5_setParts_81 : decode cX5_setParts 81 = .ok (.goto 4, 3) := by decide +kernel
theorem dX5_setParts_84 : decode cX5_setParts 84 = .ok (.iconst 2, 1) := by decide +kernel
theorem dX5_setParts_85 : decode cX5_setParts 85 = .ok (.invokevirtual 73, 3) := by decide +kernel
theorem dX5_setParts_88 : decode cX5_setParts 88 = .ok (.ifCond .ne 5, 3) := by decide +kernel
theorem dX5_setParts_91 : decode cX5_setParts 91 = .ok (.iconst 0, 1) := by decide +kernel
theorem dX5_setParts_92 : decode cX5_setParts 92 = .ok (.ireturn, 1) := by decide +kernel
theorem dX5_setParts_93 : decode cX5_setParts 93 = .ok (.aload_n 0, 1) := by decide +kernel
theorem dX5_setParts_94 : decode cX5_setParts 94 = .ok (.getfield 31, 3) := by decide +kernel
theorem dX5_setParts_97 : decode cX5_setParts 97 = .ok (.bipush 20, 2) := by decide +kernel
theorem dX5_setParts_99 : decode cX5_setParts 99 = .ok (.iload_n 1, 1) := by decide +kernel
theorem dX5_setParts_100 : decode cX5_setParts 100 = .ok (.imul, 1) := by decide +kernel
theorem dX5_setParts_101 : decode cX5_setParts 101 = .ok (.iload_n 2, 1) := by decide +kernel
theorem dX5_setParts_102 : decode cX5_setParts 102 = .ok (.iadd, 1) := by decide +kernel
theorem dX5_setParts_103 : decode cX5_setParts 103 = .ok (.iaload, 1) := by decide +kernel
theorem dX5_setParts_104 : decode cX5_setParts 104 = .ok (.istore 6, 2) := by decide +kernel
theorem dX5_setParts_106 : decode cX5_setParts 106 = .ok (.aload_n 0, 1) := by decide +kernel
theorem dX5_setParts_107 : decode cX5_setParts 107 = .ok (.getfield 31, 3) := by decide +kernel
theorem dX5_setParts_110 : decode cX5_setParts 110 = .ok (.bipush 20, 2) := by decide +kernel
theorem dX5_setParts_112 : decode cX5_setParts 112 = .ok (.iload_n 1, 1) := by decide +kernel
theorem dX5_setParts_113 : decode cX5_setParts 113 = .ok (.imul, 1) := by decide +kernel
theorem dX5_setParts_114 : decode cX5_setParts 114 = .ok (.iload_n 2, 1) := by decide +kernel
theorem dX5_setParts_115 : decode cX5_setParts 115 = .ok (.iadd, 1) := by decide +kernel
theorem dX5_setParts_116 : decode cX5_setParts 116 = .ok (.iload_n 3, 1) := by decide +kernel
theorem dX5_setParts_117 : decode cX5_setParts 117 = .ok (.iastore, 1) := by decide +kernel
theorem dX5_setParts_118 : decode cX5_setParts 118 = .ok (.iload 6, 2) := by decide +kernel
theorem dX5_setParts_120 : decode cX5_setParts 120 = .ok (.ireturn, 1) := by decide +kernel
theorem dX5_allShares_0 : decode cX5_allShares 0 = .ok (.iconst 0, 1) := by decide +kernel
theorem dX5_allShares_1 : decode cX5_allShares 1 = .ok (.istore_n 1, 1) := by decide +kernel
theorem dX5_allShares_2 : decode cX5_allShares 2 = .ok (.iconst 0, 1) := by decide +kernel
theorem dX5_allShares_3 : decode cX5_allShares 3 = .ok (.istore_n 2, 1) := by decide +kernel
theorem dX5_allShares_4 : decode cX5_allShares 4 = .ok (.iload_n 2, 1) := by decide +kernel
theorem dX5_allShares_5 : decode cX5_allShares 5 = .ok (.aload_n 0, 1) := by decide +kernel
theorem dX5_allShares_6 : decode cX5_allShares 6 = .ok (.getfield 63, 3) := by decide +kernel
theorem dX5_allShares_9 : decode cX5_allShares 9 = .ok (.if_icmp .ge 18, 3) := by decide +kernel
theorem dX5_allShares_12 : decode cX5_allShares 12 = .ok (.iload_n 1, 1) := by decide +kernel
theorem dX5_allShares_13 : decode cX5_allShares 13 = .ok (.aload_n 0, 1) := by decide +kernel
theorem dX5_allShares_14 : decode cX5_allShares 14 = .ok (.getfield 22, 3) := by decide +kernel
theorem dX5_allShares_17 : decode cX5_allShares 17 = .ok (.iload_n 2, 1) := by decide +kernel
theorem dX5_allShares_18 : decode cX5_allShares 18 = .ok (.iaload, 1) := by decide +kernel
theorem dX5_allShares_19 : decode cX5_allShares 19 = .ok (.iadd, 1) := by decide +kernel
theorem dX5_allShares_20 : decode cX5_allShares 20 = .ok (.istore_n 1, 1) := by decide +kernel
theorem dX5_allShares_21 : decode cX5_allShares 21 = .ok (.iinc 2 1, 3) := by decide +kernel
theorem dX5_allShares_24 : decode cX5_allShares 24 = .ok (.goto (-20), 3) := by decide +kernel
theorem dX5_allShares_27 : decode cX5_allShares 27 = .ok (.iload_n 1, 1) := by decide +kernel
theorem dX5_allShares_28 : decode cX5_allShares 28 = .ok (.ireturn, 1) := by decide +kernel
set_option maxRecDepth 20000 in
theorem ggX5_setShares_X5_isHolder : GoodIn wsX5_setShares wsX5_isHolder := goodIn_r _ [7, 8, 9, 10, 6, 11, 21, 22, 23, 24, 25, 26, 27, 28, 29, 30, 31, 32, 33, 34, 35, 36, 37, 38, 39, 40, 41] (by decide +kernel) (by decide +kernel)
set_option maxRecDepth 20000 in
theorem gX5_setShares_X5_isHolder : GoodIn wsX5_setShares (wsV RX5 77 RX5 yX5_isHolder wsX5_isHolder) := goodIn_app (goodIn_of _ (by decide +kernel)) ggX5_setShares_X5_isHolder
set_option maxRecDepth 20000 in
theorem ggX5_setShares_X5_isIn : GoodIn wsX5_setShares wsX5_isIn := goodIn_r _ [11] (by decide +kernel) (by decide +kernel)
set_option maxRecDepth 20000 in
theorem gX5_setShares_X5_isIn : GoodIn wsX5_setShares (va_wsS RX5 66 yX5_isIn wsX5_isIn) := goodIn_app (goodIn_of _ (by decide +kernel)) ggX5_setShares_X5_isIn
set_option maxRecDepth 20000 in
theorem ggX5_setShares_X5_allShares : GoodIn wsX5_setShares wsX5_allShares := goodIn_r _ [15, 8, 2, 21, 22, 23, 24, 25, 26, 27, 28, 29, 30, 31, 32, 33, 34, 35, 36, 37, 38, 39, 40, 41] (by decide +kernel) (by decide +kernel)
set_option maxRecDepth 20000 in
theorem gX5_setShares_X5_allShares : GoodIn wsX5_setShares (wsV RX5 81 RX5 yX5_allShares wsX5_allShares) := goodIn_app (goodIn_of _ (by decide +kernel)) ggX5_setShares_X5_allShares
set_option maxRecDepth 20000 in
theorem ggX5_setShares_X5_can : GoodIn wsX5_setShares wsX5_can := goodIn_r _ [19, 20, 21, 22, 23, 24, 25, 26, 27, 28, 29, 30, 31, 32, 33, 34, 35, 36, 37, 38, 39, 40, 41] (by decide +kernel) (by decide +kernel)
set_option maxRecDepth 20000 in
theorem gX5_setShares_X5_can : GoodIn wsX5_setShares (wsV RX5 73 RX5 yX5_can wsX5_can) := goodIn_app (goodIn_of _ (by decide +kernel)) ggX5_setShares_X5_can
theorem dX5_setShares_0 : decode cX5_setShares 0 = .ok (.aload_n 0, 1) := by decide +kernel
theorem dX5_setShares_1 : decode cX5_setShares 1 = .ok (.aload_n 0, 1) := by decide +kernel
theorem dX5_setShares_2 : decode cX5_setShares 2 = .ok (.iload_n 1, 1) := by decide +kernel
theorem dX5_setShares_3 : decode cX5_setShares 3 = .ok (.invokevirtual 77, 3) := by decide +kernel
theorem dX5_setShares_6 : decode cX5_setShares 6 = .ok (.ifCond .ne 7, 3) := by decide +kernel
theorem dX5_setShares_9 : decode cX5_setShares 9 = .ok (.iconst 1, 1) := by decide +kernel
theorem dX5_setShares_10 : decode cX5_setShares 10 = .ok (.goto 40, 3) := by decide +kernel
theorem dX5_setShares_13 : decode cX5_setShares 13 = .ok (.iload_n 2, 1) := by decide +kernel
theorem dX5_setShares_14 : decode cX5_setShares 14 = .ok (.iconst 0, 1) := by decide +kernel
theorem dX5_setShares_15 : decode cX5_setShares 15 = .ok (.ldc 80, 2) := by decide +kernel
theorem dX5_setShares_17 : decode cX5_setShares 17 = .ok (.invokestatic 66, 3) := by decide +kernel
theorem dX5_setShares_20 : decode cX5_setShares 20 = .ok (.ifCond .ne 7, 3) := by decide +kernel
theorem dX5_setShares_23 : decode cX5_setShares 23 = .ok (.iconst 2, 1) := by decide +kernel
theorem dX5_setShares_24 : decode cX5_setShares 24 = .ok (.goto 26, 3) := by decide +kernel
theorem dX5_setShares_27 : decode cX5_setShares 27 = .ok (.aload_n 0, 1) := by decide +kernel
theorem dX5_setShares_28 : decode cX5_setShares 28 = .ok (.invokevirtual 81, 3) := by decide +kernel
theorem dX5_setShares_31 : decode cX5_setShares 31 = .ok (.aload_n 0, 1) := by decide +kernel
theorem dX5_setShares_32 : decode cX5_setShares 32 = .ok (.getfield 22, 3) := by decide +kernel
theorem dX5_setShares_35 : decode cX5_setShares 35 = .ok (.iload_n 1, 1) := by decide +kernel
theorem dX5_setShares_36 : decode cX5_setShares 36 = .ok (.iaload, 1) := by decide +kernel
theorem dX5_setShares_37 : decode cX5_setShares 37 = .ok (.isub, 1) := by decide +kernel
theorem dX5_setShares_38 : decode cX5_setShares 38 = .ok (.iload_n 2, 1) := by decide +kernel
theorem dX5_setShares_39 : decode cX5_setShares 39 = .ok (.iadd, 1) := by decide +kernel
theorem dX5_setShares_40 : decode cX5_setShares 40 = .ok (.ldc 80, 2) := by decide +kernel
theorem dX5_setShares_42 : decode cX5_setShares 42 = .ok (.if_icmp .le 7, 3) := by decide +kernel
theorem dX5_setShares_45 : decode cX5_setShares 45 = .ok (.iconst 3, 1) := by decide +kernel
theorem dX5_setShares_46 : decode cX5_setShares 46 = .ok (.goto 4, 3) := by decide +kernel
theorem dX5_setShares_49 : decode cX5_setShares 49 = .ok (.iconst 0, 1) := by decide +kernel
theorem dX5_setShares_50 : decode cX5_setShares 50 = .ok (.invokevirtual 73, 3) := by decide +kernel
theorem dX5_setShares_53 : decode cX5_setShares 53 = .ok (.ifCond .ne 5, 3) := by decide +kernel
theorem dX5_setShares_56 : decode cX5_setShares 56 = .ok (.iconst 0, 1) := by decide +kernel
theorem dX5_setShares_57 : decode cX5_setShares 57 = .ok (.ireturn, 1) := by decide +kernel
theorem dX5_setShares_58 : decode cX5_setShares 58 = .ok (.aload_n 0, 1) := by decide +kernel
theorem dX5_setShares_59 : decode cX5_setShares 59 = .ok (.getfield 22, 3) := by decide +kernel
theorem dX5_setShares_62 : decode cX5_setShares 62 = .ok (.iload_n 1, 1) := by decide +kernel
theorem dX5_setShares_63 : decode cX5_setShares 63 = .ok (.iaload, 1) := by decide +kernel
theorem dX5_setShares_64 : decode cX5_setShares 64 = .ok (.istore_n 3, 1) := by decide +kernel
theorem dX5_setShares_65 : decode cX5_setShares 65 = .ok (.aload_n 0, 1) := by decide +kernel
theorem dX5_setShares_66 : decode cX5_setShares 66 = .ok (.getfield 22, 3) := by decide +kernel
theorem dX5_setShares_69 : decode cX5_setShares 69 = .ok (.iload_n 1, 1) := by decide +kernel
theorem dX5_setShares_70 : decode cX5_setShares 70 = .ok (.iload_n 2, 1) := by decide +kernel
theorem dX5_setShares_71 : decode cX5_setShares 71 = .ok (.iastore, 1) := by decide +kernel
theorem dX5_setShares_72 : decode cX5_setShares 72 = .ok (.iload_n 3, 1) := by decide +kernel
theorem dX5_setShares_73 : decode cX5_setShares 73 = .ok (.ireturn, 1) := by decide +kernel
set_option maxRecDepth 20000 in
theorem ggX5_giveForm_X5_isHolder : GoodIn wsX5_giveForm wsX5_isHolder := goodIn_r _ [7, 8, 9, 10, 6, 11, 17, 18, 19, 20, 21, 22, 23, 24, 25, 26, 27, 28, 29, 30, 31, 32, 33, 34, 35, 36, 37] (by decide +kernel) (by decide +kernel)
set_option maxRecDepth 20000 in
theorem gX5_giveForm_X5_isHolder : GoodIn wsX5_giveForm (wsV RX5 77 RX5 yX5_isHolder wsX5_isHolder) := goodIn_app (goodIn_of _ (by decide +kernel)) ggX5_giveForm_X5_isHolder
set_option maxRecDepth 20000 in
theorem ggX5_giveForm_X5_can : GoodIn wsX5_giveForm wsX5_can := goodIn_r _ [15, 16, 17, 18, 19, 20, 21, 22, 23, 24, 25, 26, 27, 28, 29, 30, 31, 32, 33, 34, 35, 36, 37] (by decide +kernel) (by decide +kernel)
set_option maxRecDepth 20000 in
theorem gX5_giveForm_X5_can : GoodIn wsX5_giveForm (wsV RX5 73 RX5 yX5_can wsX5_can) := goodIn_app (goodIn_of _ (by decide +kernel)) ggX5_giveForm_X5_can
theorem dX5_giveForm_0 : decode cX5_giveForm 0 = .ok (.aload_n 0, 1) := by decide +kernel
theorem dX5_giveForm_1 : decode cX5_giveForm 1 = .ok (.aload_n 0, 1) := by decide +kernel
theorem dX5_giveForm_2 : decode cX5_giveForm 2 = .ok (.iload_n 1, 1) := by decide +kernel
theorem dX5_giveForm_3 : decode cX5_giveForm 3 = .ok (.invokevirtual 77, 3) := by decide +kernel
theorem dX5_giveForm_6 : decode cX5_giveForm 6 = .ok (.ifCond .eq 7, 3) := by decide +kernel
theorem dX5_giveForm_9 : decode cX5_giveForm 9 = .ok (.iconst 0, 1) := by decide +kernel
theorem dX5_giveForm_10 : decode cX5_giveForm 10 = .ok (.goto 4, 3) := by decide +kernel
theorem dX5_giveForm_13 : decode cX5_giveForm 13 = .ok (.iconst 1, 1) := by decide +kernel
theorem dX5_giveForm_14 : decode cX5_giveForm 14 = .ok (.invokevirtual 73, 3) := by decide +kernel
theorem dX5_giveForm_17 : decode cX5_giveForm 17 = .ok (.ifCond .ne 5, 3) := by decide +kernel
theorem dX5_giveForm_20 : decode cX5_giveForm 20 = .ok (.iconst 0, 1) := by decide +kernel
theorem dX5_giveForm_21 : decode cX5_giveForm 21 = .ok (.ireturn, 1) := by decide +kernel
theorem dX5_giveForm_22 : decode cX5_giveForm 22 = .ok (.aload_n 0, 1) := by decide +kernel
theorem dX5_giveForm_23 : decode cX5_giveForm 23 = .ok (.getfield 25, 3) := by decide +kernel
theorem dX5_giveForm_26 : decode cX5_giveForm 26 = .ok (.iload_n 1, 1) := by decide +kernel
theorem dX5_giveForm_27 : decode cX5_giveForm 27 = .ok (.aload_n 0, 1) := by decide +kernel
theorem dX5_giveForm_28 : decode cX5_giveForm 28 = .ok (.getfield 85, 3) := by decide +kernel
theorem dX5_giveForm_31 : decode cX5_giveForm 31 = .ok (.sipush 1080, 3) := by decide +kernel
theorem dX5_giveForm_34 : decode cX5_giveForm 34 = .ok (.iadd, 1) := by decide +kernel
theorem dX5_giveForm_35 : decode cX5_giveForm 35 = .ok (.iastore, 1) := by decide +kernel
theorem dX5_giveForm_36 : decode cX5_giveForm 36 = .ok (.aload_n 0, 1) := by decide +kernel
theorem dX5_giveForm_37 : decode cX5_giveForm 37 = .ok (.getfield 25, 3) := by decide +kernel
theorem dX5_giveForm_40 : decode cX5_giveForm 40 = .ok (.iload_n 1, 1) := by decide +kernel
theorem dX5_giveForm_41 : decode cX5_giveForm 41 = .ok (.iaload, 1) := by decide +kernel
theorem dX5_giveForm_42 : decode cX5_giveForm 42 = .ok (.ireturn, 1) := by decide +kernel
set_option maxRecDepth 20000 in
theorem ggX5_pass_X5_isIn : GoodIn wsX5_pass wsX5_isIn := goodIn_r _ [9] (by decide +kernel) (by decide +kernel)
set_option maxRecDepth 20000 in
theorem gX5_pass_X5_isIn : GoodIn wsX5_pass (va_wsS RX5 66 yX5_isIn wsX5_isIn) := goodIn_app (goodIn_of _ (by decide +kernel)) ggX5_pass_X5_isIn
set_option maxRecDepth 20000 in
theorem ggX5_pass_X5_can : GoodIn wsX5_pass wsX5_can := goodIn_r _ [13, 14, 15, 16, 17, 18, 19, 20, 21, 22, 23, 24, 25, 26, 27, 28, 29, 30, 31, 32, 33, 34, 35] (by decide +kernel) (by decide +kernel)
set_option maxRecDepth 20000 in
theorem gX5_pass_X5_can : GoodIn wsX5_pass (wsV RX5 73 RX5 yX5_can wsX5_can) := goodIn_app (goodIn_of _ (by decide +kernel)) ggX5_pass_X5_can
theorem dX5_pass_0 : decode cX5_pass 0 = .ok (.aload_n 0, 1) := by decide +kernel
theorem dX5_pass_1 : decode cX5_pass 1 = .ok (.iload_n 1, 1) := by decide +kernel
theorem dX5_pass_2 : decode cX5_pass 2 = .ok (.iconst 1, 1) := by decide +kernel
theorem dX5_pass_3 : decode cX5_pass 3 = .ok (.sipush 2000, 3) := by decide +kernel
theorem dX5_pass_6 : decode cX5_pass 6 = .ok (.invokestatic 66, 3) := by decide +kernel
theorem dX5_pass_9 : decode cX5_pass 9 = .ok (.ifCond .ne 7, 3) := by decide +kernel
theorem dX5_pass_12 : decode cX5_pass 12 = .ok (.iconst 1, 1) := by decide +kernel
theorem dX5_pass_13 : decode cX5_pass 13 = .ok (.goto 20, 3) := by decide +kernel
theorem dX5_pass_16 : decode cX5_pass 16 = .ok (.aload_n 0, 1) := by decide +kernel
theorem dX5_pass_17 : decode cX5_pass 17 = .ok (.getfield 85, 3) := by decide +kernel
theorem dX5_pass_20 : decode cX5_pass 20 = .ok (.iload_n 1, 1) := by decide +kernel
theorem dX5_pass_21 : decode cX5_pass 21 = .ok (.iadd, 1) := by decide +kernel
theorem dX5_pass_22 : decode cX5_pass 22 = .ok (.sipush 20000, 3) := by decide +kernel
theorem dX5_pass_25 : decode cX5_pass 25 = .ok (.if_icmp .le 7, 3) := by decide +kernel
theorem dX5_pass_28 : decode cX5_pass 28 = .ok (.iconst 2, 1) := by decide +kernel
theorem dX5_pass_29 : decode cX5_pass 29 = .ok (.goto 4, 3) := by decide +kernel
theorem dX5_pass_32 : decode cX5_pass 32 = .ok (.iconst 0, 1) := by decide +kernel
theorem dX5_pass_33 : decode cX5_pass 33 = .ok (.invokevirtual 73, 3) := by decide +kernel
theorem dX5_pass_36 : decode cX5_pass 36 = .ok (.ifCond .ne 5, 3) := by decide +kernel
theorem dX5_pass_39 : decode cX5_pass 39 = .ok (.iconst 0, 1) := by decide +kernel
theorem dX5_pass_40 : decode cX5_pass 40 = .ok (.ireturn, 1) := by decide +kernel
theorem dX5_pass_41 : decode cX5_pass 41 = .ok (.iconst 0, 1) := by decide +kernel
theorem dX5_pass_42 : decode cX5_pass 42 = .ok (.istore_n 2, 1) := by decide +kernel
theorem dX5_pass_43 : decode cX5_pass 43 = .ok (.iload_n 2, 1) := by decide +kernel
theorem dX5_pass_44 : decode cX5_pass 44 = .ok (.aload_n 0, 1) := by decide +kernel
theorem dX5_pass_45 : decode cX5_pass 45 = .ok (.getfield 63, 3) := by decide +kernel
theorem dX5_pass_48 : decode cX5_pass 48 = .ok (.if_icmp .ge 53, 3) := by decide +kernel
theorem dX5_pass_51 : decode cX5_pass 51 = .ok (.aload_n 0, 1) := by decide +kernel
theorem dX5_pass_52 : decode cX5_pass 52 = .ok (.getfield 28, 3) := by decide +kernel
theorem dX5_pass_55 : decode cX5_pass 55 = .ok (.iload_n 2, 1) := by decide +kernel
theorem dX5_pass_56 : decode cX5_pass 56 = .ok (.aload_n 0, 1) := by decide +kernel
theorem dX5_pass_57 : decode cX5_pass 57 = .ok (.getfield 22, 3) := by decide +kernel
theorem dX5_pass_60 : decode cX5_pass 60 = .ok (.iload_n 2, 1) := by decide +kernel
theorem dX5_pass_61 : decode cX5_pass 61 = .ok (.iaload, 1) := by decide +kernel
theorem dX5_pass_62 : decode cX5_pass 62 = .ok (.ldc 88, 2) := by decide +kernel
theorem dX5_pass_64 : decode cX5_pass 64 = .ok (.if_icmp .ge 7, 3) := by decide +kernel
theorem dX5_pass_67 : decode cX5_pass 67 = .ok (.iconst (-1), 1) := by decide +kernel
theorem dX5_pass_68 : decode cX5_pass 68 = .ok (.goto 26, 3) := by decide +kernel
theorem dX5_pass_71 : decode cX5_pass 71 = .ok (.aload_n 0, 1) := by decide +kernel
theorem dX5_pass_72 : decode cX5_pass 72 = .ok (.getfield 28, 3) := by decide +kernel
theorem dX5_pass_75 : decode cX5_pass 75 = .ok (.iload_n 2, 1) := by decide +kernel
theorem dX5_pass_76 : decode cX5_pass 76 = .ok (.iaload, 1) := by decide +kernel
theorem dX5_pass_77 : decode cX5_pass 77 = .ok (.iconst (-1), 1) := by decide +kernel
theorem dX5_pass_78 : decode cX5_pass 78 = .ok (.if_icmp .ne 10, 3) := by decide +kernel
theorem dX5_pass_81 : decode cX5_pass 81 = .ok (.aload_n 0, 1) := by decide +kernel
theorem dX5_pass_82 : decode cX5_pass 82 = .ok (.getfield 85, 3) := by decide +kernel
theorem dX5_pass_85 : decode cX5_pass 85 = .ok (.goto 9, 3) := by decide +kernel
theorem dX5_pass_88 : decode cX5_pass 88 = .ok (.aload_n 0, 1) := by decide +kernel
theorem dX5_pass_89 : decode cX5_pass 89 = .ok (.getfield 28, 3) := by decide +kernel
theorem dX5_pass_92 : decode cX5_pass 92 = .ok (.iload_n 2, 1) := by decide +kernel
theorem dX5_pass_93 : decode cX5_pass 93 = .ok (.iaload, 1) := by decide +kernel
theorem dX5_pass_94 : decode cX5_pass 94 = .ok (.iastore, 1) := by decide +kernel
theorem dX5_pass_95 : decode cX5_pass 95 = .ok (.iinc 2 1, 3) := by decide +kernel
theorem dX5_pass_98 : decode cX5_pass 98 = .ok (.goto (-55), 3) := by decide +kernel
theorem dX5_pass_101 : decode cX5_pass 101 = .ok (.aload_n 0, 1) := by decide +kernel
theorem dX5_pass_102 : decode cX5_pass 102 = .ok (.dup, 1) := by decide +kernel
theorem dX5_pass_103 : decode cX5_pass 103 = .ok (.getfield 85, 3) := by decide +kernel
theorem dX5_pass_106 : decode cX5_pass 106 = .ok (.iload_n 1, 1) := by decide +kernel
theorem dX5_pass_107 : decode cX5_pass 107 = .ok (.iadd, 1) := by decide +kernel
theorem dX5_pass_108 : decode cX5_pass 108 = .ok (.putfield 85, 3) := by decide +kernel
theorem dX5_pass_111 : decode cX5_pass 111 = .ok (.aload_n 0, 1) := by decide +kernel
theorem dX5_pass_112 : decode cX5_pass 112 = .ok (.getfield 85, 3) := by decide +kernel
theorem dX5_pass_115 : decode cX5_pass 115 = .ok (.ireturn, 1) := by decide +kernel
theorem dX5_day_0 : decode cX5_day 0 = .ok (.aload_n 0, 1) := by decide +kernel
theorem dX5_day_1 : decode cX5_day 1 = .ok (.iconst 0, 1) := by decide +kernel
theorem dX5_day_2 : decode cX5_day 2 = .ok (.putfield 59, 3) := by decide +kernel
theorem dX5_day_5 : decode cX5_day 5 = .ok (.aload_n 0, 1) := by decide +kernel
theorem dX5_day_6 : decode cX5_day 6 = .ok (.getfield 85, 3) := by decide +kernel
theorem dX5_day_9 : decode cX5_day 9 = .ok (.ireturn, 1) := by decide +kernel
set_option maxRecDepth 20000 in
theorem ggX5_isAsked_X5_isHolder : GoodIn wsX5_isAsked wsX5_isHolder := goodIn_r _ [5, 6, 7, 8, 4, 9, 15, 16, 17, 18, 19, 20, 21, 22, 23, 24, 25, 26, 27, 28, 29, 30, 31, 32, 33, 34, 35] (by decide +kernel) (by decide +kernel)
set_option maxRecDepth 20000 in
theorem gX5_isAsked_X5_isHolder : GoodIn wsX5_isAsked (wsV RX5 77 RX5 yX5_isHolder wsX5_isHolder) := goodIn_app (goodIn_of _ (by decide +kernel)) ggX5_isAsked_X5_isHolder
set_option maxRecDepth 20000 in
theorem ggX5_isAsked_X5_can : GoodIn wsX5_isAsked wsX5_can := goodIn_r _ [13, 14, 15, 16, 17, 18, 19, 20, 21, 22, 23, 24, 25, 26, 27, 28, 29, 30, 31, 32, 33, 34, 35] (by decide +kernel) (by decide +kernel)
set_option maxRecDepth 20000 in
theorem gX5_isAsked_X5_can : GoodIn wsX5_isAsked (wsV RX5 73 RX5 yX5_can wsX5_can) := goodIn_app (goodIn_of _ (by decide +kernel)) ggX5_isAsked_X5_can
theorem dX5_isAsked_0 : decode cX5_isAsked 0 = .ok (.aload_n 0, 1) := by decide +kernel
theorem dX5_isAsked_1 : decode cX5_isAsked 1 = .ok (.aload_n 0, 1) := by decide +kernel
theorem dX5_isAsked_2 : decode cX5_isAsked 2 = .ok (.iload_n 1, 1) := by decide +kernel
theorem dX5_isAsked_3 : decode cX5_isAsked 3 = .ok (.invokevirtual 77, 3) := by decide +kernel
theorem dX5_isAsked_6 : decode cX5_isAsked 6 = .ok (.ifCond .eq 7, 3) := by decide +kernel
theorem dX5_isAsked_9 : decode cX5_isAsked 9 = .ok (.iconst 0, 1) := by decide +kernel
theorem dX5_isAsked_10 : decode cX5_isAsked 10 = .ok (.goto 4, 3) := by decide +kernel
theorem dX5_isAsked_13 : decode cX5_isAsked 13 = .ok (.iconst 1, 1) := by decide +kernel
theorem dX5_isAsked_14 : decode cX5_isAsked 14 = .ok (.invokevirtual 73, 3) := by decide +kernel
theorem dX5_isAsked_17 : decode cX5_isAsked 17 = .ok (.ireturn, 1) := by decide +kernel
set_option maxRecDepth 20000 in
theorem ggX5_shares_X5_isAsked : GoodIn wsX5_shares wsX5_isAsked := goodIn_r _ [6, 7, 8, 9, 5, 10, 11, 12, 13, 14, 15, 16, 17, 18, 19, 20, 21, 22, 23, 24, 25, 26, 27, 28, 29, 30, 31, 32, 33, 34, 35, 36, 37, 38, 39, 40] (by decide +kernel) (by decide +kernel)
set_option maxRecDepth 20000 in
theorem gX5_shares_X5_isAsked : GoodIn wsX5_shares (wsV RX5 89 RX5 yX5_isAsked wsX5_isAsked) := goodIn_app (goodIn_of _ (by decide +kernel)) ggX5_shares_X5_isAsked
theorem dX5_shares_0 : decode cX5_shares 0 = .ok (.aload_n 0, 1) := by decide +kernel
theorem dX5_shares_1 : decode cX5_shares 1 = .ok (.iload_n 1, 1) := by decide +kernel
theorem dX5_shares_2 : decode cX5_shares 2 = .ok (.invokevirtual 89, 3) := by decide +kernel
theorem dX5_shares_5 : decode cX5_shares 5 = .ok (.ifCond .eq 12, 3) := by decide +kernel
theorem dX5_shares_8 : decode cX5_shares 8 = .ok (.aload_n 0, 1) := by decide +kernel
theorem dX5_shares_9 : decode cX5_shares 9 = .ok (.getfield 22, 3) := by decide +kernel
theorem dX5_shares_12 : decode cX5_shares 12 = .ok (.iload_n 1, 1) := by decide +kernel
theorem dX5_shares_13 : decode cX5_shares 13 = .ok (.iaload, 1) := by decide +kernel
theorem dX5_shares_14 : decode cX5_shares 14 = .ok (.goto 4, 3) := by decide +kernel
theorem dX5_shares_17 : decode cX5_shares 17 = .ok (.iconst 0, 1) := by decide +kernel
theorem dX5_shares_18 : decode cX5_shares 18 = .ok (.ireturn, 1) := by decide +kernel
theorem dX5_hasForm_0 : decode cX5_hasForm 0 = .ok (.aload_n 0, 1) := by decide +kernel
theorem dX5_hasForm_1 : decode cX5_hasForm 1 = .ok (.getfield 25, 3) := by decide +kernel
theorem dX5_hasForm_4 : decode cX5_hasForm 4 = .ok (.iload_n 1, 1) := by decide +kernel
theorem dX5_hasForm_5 : decode cX5_hasForm 5 = .ok (.iaload, 1) := by decide +kernel
theorem dX5_hasForm_6 : decode cX5_hasForm 6 = .ok (.aload_n 0, 1) := by decide +kernel
theorem dX5_hasForm_7 : decode cX5_hasForm 7 = .ok (.getfield 85, 3) := by decide +kernel
theorem dX5_hasForm_10 : decode cX5_hasForm 10 = .ok (.if_icmp .lt 7, 3) := by decide +kernel
theorem dX5_hasForm_13 : decode cX5_hasForm 13 = .ok (.iconst 1, 1) := by decide +kernel
theorem dX5_hasForm_14 : decode cX5_hasForm 14 = .ok (.goto 4, 3) := by decide +kernel
theorem dX5_hasForm_17 : decode cX5_hasForm 17 = .ok (.iconst 0, 1) := by decide +kernel
theorem dX5_hasForm_18 : decode cX5_hasForm 18 = .ok (.ireturn, 1) := by decide +kernel
set_option maxRecDepth 20000 in
theorem ggX5_isValid_X5_isAsked : GoodIn wsX5_isValid wsX5_isAsked := goodIn_r _ [5, 6, 7, 8, 4, 9, 10, 11, 12, 13, 14, 15, 16, 17, 18, 25, 26, 27, 28, 29, 30, 31, 32, 33, 34, 35, 36, 37, 38, 39, 40, 41, 42, 43, 44, 45] (by decide +kernel) (by decide +kernel)
set_option maxRecDepth 20000 in
theorem gX5_isValid_X5_isAsked : GoodIn wsX5_isValid (wsV RX5 89 RX5 yX5_isAsked wsX5_isAsked) := goodIn_app (goodIn_of _ (by decide +kernel)) ggX5_isValid_X5_isAsked
set_option maxRecDepth 20000 in
theorem ggX5_isValid_X5_hasForm : GoodIn wsX5_isValid wsX5_hasForm := goodIn_r _ [22, 23, 24, 25, 26, 27, 28, 29, 30, 31, 32, 33, 34, 35, 36, 37, 38, 39, 40, 41, 42, 43, 44, 45] (by decide +kernel) (by decide +kernel)
set_option maxRecDepth 20000 in
theorem gX5_isValid_X5_hasForm : GoodIn wsX5_isValid (wsV RX5 92 RX5 yX5_hasForm wsX5_hasForm) := goodIn_app (goodIn_of _ (by decide +kernel)) ggX5_isValid_X5_hasForm
theorem dX5_isValid_0 : decode cX5_isValid 0 = .ok (.aload_n 0, 1) := by decide +kernel
theorem dX5_isValid_1 : decode cX5_isValid 1 = .ok (.iload_n 1, 1) := by decide +kernel
theorem dX5_isValid_2 : decode cX5_isValid 2 = .ok (.invokevirtual 89, 3) := by decide +kernel
theorem dX5_isValid_5 : decode cX5_isValid 5 = .ok (.ifCond .eq 15, 3) := by decide +kernel
theorem dX5_isValid_8 : decode cX5_isValid 8 = .ok (.aload_n 0, 1) := by decide +kernel
theorem dX5_isValid_9 : decode cX5_isValid 9 = .ok (.iload_n 1, 1) := by decide +kernel
theorem dX5_isValid_10 : decode cX5_isValid 10 = .ok (.invokevirtual 92, 3) := by decide +kernel
theorem dX5_isValid_13 : decode cX5_isValid 13 = .ok (.ifCond .eq 7, 3) := by decide +kernel
theorem dX5_isValid_16 : decode cX5_isValid 16 = .ok (.iconst 1, 1) := by decide +kernel
theorem dX5_isValid_17 : decode cX5_isValid 17 = .ok (.goto 4, 3) := by decide +kernel
theorem dX5_isValid_20 : decode cX5_isValid 20 = .ok (.iconst 0, 1) := by decide +kernel
theorem dX5_isValid_21 : decode cX5_isValid 21 = .ok (.ireturn, 1) := by decide +kernel
theorem dX5_holdsLarge_0 : decode cX5_holdsLarge 0 = .ok (.aload_n 0, 1) := by decide +kernel
theorem dX5_holdsLarge_1 : decode cX5_holdsLarge 1 = .ok (.getfield 16, 3) := by decide +kernel
theorem dX5_holdsLarge_4 : decode cX5_holdsLarge 4 = .ok (.iload_n 1, 1) := by decide +kernel
theorem dX5_holdsLarge_5 : decode cX5_holdsLarge 5 = .ok (.iaload, 1) := by decide +kernel
theorem dX5_holdsLarge_6 : decode cX5_holdsLarge 6 = .ok (.iconst 1, 1) := by decide +kernel
theorem dX5_holdsLarge_7 : decode cX5_holdsLarge 7 = .ok (.if_icmp .ne 45, 3) := by decide +kernel
theorem dX5_holdsLarge_10 : decode cX5_holdsLarge 10 = .ok (.aload_n 0, 1) := by decide +kernel
theorem dX5_holdsLarge_11 : decode cX5_holdsLarge 11 = .ok (.getfield 22, 3) := by decide +kernel
theorem dX5_holdsLarge_14 : decode cX5_holdsLarge 14 = .ok (.iload_n 1, 1) := by decide +kernel
theorem dX5_holdsLarge_15 : decode cX5_holdsLarge 15 = .ok (.iaload, 1) := by decide +kernel
theorem dX5_holdsLarge_16 : decode cX5_holdsLarge 16 = .ok (.ldc 88, 2) := by decide +kernel
theorem dX5_holdsLarge_18 : decode cX5_holdsLarge 18 = .ok (.if_icmp .lt 34, 3) := by decide +kernel
theorem dX5_holdsLarge_21 : decode cX5_holdsLarge 21 = .ok (.aload_n 0, 1) := by decide +kernel
theorem dX5_holdsLarge_22 : decode cX5_holdsLarge 22 = .ok (.getfield 28, 3) := by decide +kernel
theorem dX5_holdsLarge_25 : decode cX5_holdsLarge 25 = .ok (.iload_n 1, 1) := by decide +kernel
theorem dX5_holdsLarge_26 : decode cX5_holdsLarge 26 = .ok (.iaload, 1) := by decide +kernel
theorem dX5_holdsLarge_27 : decode cX5_holdsLarge 27 = .ok (.iconst (-1), 1) := by decide +kernel
theorem dX5_holdsLarge_28 : decode cX5_holdsLarge 28 = .ok (.if_icmp .eq 24, 3) := by decide +kernel
theorem dX5_holdsLarge_31 : decode cX5_holdsLarge 31 = .ok (.aload_n 0, 1) := by decide +kernel
theorem dX5_holdsLarge_32 : decode cX5_holdsLarge 32 = .ok (.getfield 85, 3) := by decide +kernel
theorem dX5_holdsLarge_35 : decode cX5_holdsLarge 35 = .ok (.aload_n 0, 1) := by decide +kernel
theorem dX5_holdsLarge_36 : decode cX5_holdsLarge 36 = .ok (.getfield 28, 3) := by decide +kernel
theorem dX5_holdsLarge_39 : decode cX5_holdsLarge 39 = .ok (.iload_n 1, 1) := by decide +kernel
theorem dX5_holdsLarge_40 : decode cX5_holdsLarge 40 = .ok (.iaload, 1) := by decide +kernel
theorem dX5_holdsLarge_41 : decode cX5_holdsLarge 41 = .ok (.isub, 1) := by decide +kernel
theorem dX5_holdsLarge_42 : decode cX5_holdsLarge 42 = .ok (.sipush 365, 3) := by decide +kernel
theorem dX5_holdsLarge_45 : decode cX5_holdsLarge 45 = .ok (.if_icmp .lt 7, 3) := by decide +kernel
theorem dX5_holdsLarge_48 : decode cX5_holdsLarge 48 = .ok (.iconst 1, 1) := by decide +kernel
theorem dX5_holdsLarge_49 : decode cX5_holdsLarge 49 = .ok (.goto 4, 3) := by decide +kernel
theorem dX5_holdsLarge_52 : decode cX5_holdsLarge 52 = .ok (.iconst 0, 1) := by decide +kernel
theorem dX5_holdsLarge_53 : decode cX5_holdsLarge 53 = .ok (.ireturn, 1) := by decide +kernel
set_option maxRecDepth 20000 in
theorem ggX5_isLarge_X5_isAsked : GoodIn wsX5_isLarge wsX5_isAsked := goodIn_r _ [5, 6, 7, 8, 4, 9, 10, 11, 12, 13, 14, 15, 16, 17, 18, 28, 29, 30, 31, 32, 33, 34, 35, 36, 37, 38, 39, 40, 41, 42, 43, 44, 45, 46, 47, 48] (by decide +kernel) (by decide +kernel)
set_option maxRecDepth 20000 in
theorem gX5_isLarge_X5_isAsked : GoodIn wsX5_isLarge (wsV RX5 89 RX5 yX5_isAsked wsX5_isAsked) := goodIn_app (goodIn_of _ (by decide +kernel)) ggX5_isLarge_X5_isAsked
set_option maxRecDepth 20000 in
theorem ggX5_isLarge_X5_holdsLarge : GoodIn wsX5_isLarge wsX5_holdsLarge := goodIn_r _ [22, 23, 24, 25, 26, 27, 28, 29, 30, 31, 32, 33, 34, 35, 36, 37, 38, 39, 40, 41, 42, 43, 44, 45, 46, 47, 48] (by decide +kernel) (by decide +kernel)
set_option maxRecDepth 20000 in
theorem gX5_isLarge_X5_holdsLarge : GoodIn wsX5_isLarge (wsV RX5 95 RX5 yX5_holdsLarge wsX5_holdsLarge) := goodIn_app (goodIn_of _ (by decide +kernel)) ggX5_isLarge_X5_holdsLarge
theorem dX5_isLarge_0 : decode cX5_isLarge 0 = .ok (.aload_n 0, 1) := by decide +kernel
theorem dX5_isLarge_1 : decode cX5_isLarge 1 = .ok (.iload_n 1, 1) := by decide +kernel
theorem dX5_isLarge_2 : decode cX5_isLarge 2 = .ok (.invokevirtual 89, 3) := by decide +kernel
theorem dX5_isLarge_5 : decode cX5_isLarge 5 = .ok (.ifCond .eq 15, 3) := by decide +kernel
theorem dX5_isLarge_8 : decode cX5_isLarge 8 = .ok (.aload_n 0, 1) := by decide +kernel
theorem dX5_isLarge_9 : decode cX5_isLarge 9 = .ok (.iload_n 1, 1) := by decide +kernel
theorem dX5_isLarge_10 : decode cX5_isLarge 10 = .ok (.invokevirtual 95, 3) := by decide +kernel
theorem dX5_isLarge_13 : decode cX5_isLarge 13 = .ok (.ifCond .eq 7, 3) := by decide +kernel
theorem dX5_isLarge_16 : decode cX5_isLarge 16 = .ok (.iconst 1, 1) := by decide +kernel
theorem dX5_isLarge_17 : decode cX5_isLarge 17 = .ok (.goto 4, 3) := by decide +kernel
theorem dX5_isLarge_20 : decode cX5_isLarge 20 = .ok (.iconst 0, 1) := by decide +kernel
theorem dX5_isLarge_21 : decode cX5_isLarge 21 = .ok (.ireturn, 1) := by decide +kernel
set_option maxRecDepth 20000 in
theorem ggX5_rateOf_X5_holdsLarge : GoodIn wsX5_rateOf wsX5_holdsLarge := goodIn_r _ [8, 9, 10, 11, 12, 13, 14, 15, 16, 17, 18, 19, 20, 21, 22, 23, 24, 25, 26, 27, 28, 29, 30, 31, 32, 33, 34] (by decide +kernel) (by decide +kernel)
set_option maxRecDepth 20000 in
theorem gX5_rateOf_X5_holdsLarge : GoodIn wsX5_rateOf (wsV RX5 95 RX5 yX5_holdsLarge wsX5_holdsLarge) := goodIn_app (goodIn_of _ (by decide +kernel)) ggX5_rateOf_X5_holdsLarge
theorem dX5_rateOf_0 : decode cX5_rateOf 0 = .ok (.aload_n 0, 1) := by decide +kernel
theorem dX5_rateOf_1 : decode cX5_rateOf 1 = .ok (.getfield 7, 3) := by decide +kernel
theorem dX5_rateOf_4 : decode cX5_rateOf 4 = .ok (.aload_n 0, 1) := by decide +kernel
theorem dX5_rateOf_5 : decode cX5_rateOf 5 = .ok (.getfield 19, 3) := by decide +kernel
theorem dX5_rateOf_8 : decode cX5_rateOf 8 = .ok (.iload_n 1, 1) := by decide +kernel
theorem dX5_rateOf_9 : decode cX5_rateOf 9 = .ok (.iaload, 1) := by decide +kernel
theorem dX5_rateOf_10 : decode cX5_rateOf 10 = .ok (.iaload, 1) := by decide +kernel
theorem dX5_rateOf_11 : decode cX5_rateOf 11 = .ok (.istore_n 2, 1) := by decide +kernel
theorem dX5_rateOf_12 : decode cX5_rateOf 12 = .ok (.aload_n 0, 1) := by decide +kernel
theorem dX5_rateOf_13 : decode cX5_rateOf 13 = .ok (.iload_n 1, 1) := by decide +kernel
theorem dX5_rateOf_14 : decode cX5_rateOf 14 = .ok (.invokevirtual 95, 3) := by decide +kernel
theorem dX5_rateOf_17 : decode cX5_rateOf 17 = .ok (.ifCond .eq 32, 3) := by decide +kernel
theorem dX5_rateOf_20 : decode cX5_rateOf 20 = .ok (.aload_n 0, 1) := by decide +kernel
theorem dX5_rateOf_21 : decode cX5_rateOf 21 = .ok (.getfield 13, 3) := by decide +kernel
theorem dX5_rateOf_24 : decode cX5_rateOf 24 = .ok (.aload_n 0, 1) := by decide +kernel
theorem dX5_rateOf_25 : decode cX5_rateOf 25 = .ok (.getfield 19, 3) := by decide +kernel
theorem dX5_rateOf_28 : decode cX5_rateOf 28 = .ok (.iload_n 1, 1) := by decide +kernel
theorem dX5_rateOf_29 : decode cX5_rateOf 29 = .ok (.iaload, 1) := by decide +kernel
theorem dX5_rateOf_30 : decode cX5_rateOf 30 = .ok (.iaload, 1) := by decide +kernel
theorem dX5_rateOf_31 : decode cX5_rateOf 31 = .ok (.iload_n 2, 1) := by decide +kernel
theorem dX5_rateOf_32 : decode cX5_rateOf 32 = .ok (.if_icmp .ge 17, 3) := by decide +kernel
theorem dX5_rateOf_35 : decode cX5_rateOf 35 = .ok (.aload_n 0, 1) := by decide +kernel
theorem dX5_rateOf_36 : decode cX5_rateOf 36 = .ok (.getfield 13, 3) := by decide +kernel
theorem dX5_rateOf_39 : decode cX5_rateOf 39 = .ok (.aload_n 0, 1) := by decide +kernel
theorem dX5_rateOf_40 : decode cX5_rateOf 40 = .ok (.getfield 19, 3) := by decide +kernel
theorem dX5_rateOf_43 : decode cX5_rateOf 43 = .ok (.iload_n 1, 1) := by decide +kernel
theorem dX5_rateOf_44 : decode cX5_rateOf 44 = .ok (.iaload, 1) := by decide +kernel
theorem dX5_rateOf_45 : decode cX5_rateOf 45 = .ok (.iaload, 1) := by decide +kernel
theorem dX5_rateOf_46 : decode cX5_rateOf 46 = .ok (.goto 4, 3) := by decide +kernel
theorem dX5_rateOf_49 : decode cX5_rateOf 49 = .ok (.iload_n 2, 1) := by decide +kernel
theorem dX5_rateOf_50 : decode cX5_rateOf 50 = .ok (.ireturn, 1) := by decide +kernel
set_option maxRecDepth 20000 in
theorem ggX5_treatyRate_X5_isHolder : GoodIn wsX5_treatyRate wsX5_isHolder := goodIn_r _ [6, 7, 8, 9, 5, 10, 31, 32, 33, 34, 35, 36, 37, 38, 39, 40, 41, 42, 43, 44, 45, 46, 47, 48, 49, 50, 51] (by decide +kernel) (by decide +kernel)
set_option maxRecDepth 20000 in
theorem gX5_treatyRate_X5_isHolder : GoodIn wsX5_treatyRate (wsV RX5 77 RX5 yX5_isHolder wsX5_isHolder) := goodIn_app (goodIn_of _ (by decide +kernel)) ggX5_treatyRate_X5_isHolder
set_option maxRecDepth 20000 in
theorem ggX5_treatyRate_X5_can : GoodIn wsX5_treatyRate wsX5_can := goodIn_r _ [14, 15, 31, 32, 33, 34, 35, 36, 37, 38, 39, 40, 41, 42, 43, 44, 45, 46, 47, 48, 49, 50, 51] (by decide +kernel) (by decide +kernel)
set_option maxRecDepth 20000 in
theorem gX5_treatyRate_X5_can : GoodIn wsX5_treatyRate (wsV RX5 73 RX5 yX5_can wsX5_can) := goodIn_app (goodIn_of _ (by decide +kernel)) ggX5_treatyRate_X5_can
set_option maxRecDepth 20000 in
theorem ggX5_treatyRate_X5_rateOf : GoodIn wsX5_treatyRate wsX5_rateOf := goodIn_r _ [19, 20, 21, 22, 23, 24, 25, 5, 26, 1, 27, 28, 29, 30, 31, 32, 33, 34, 35, 36, 37, 38, 39, 40, 41, 42, 43, 44, 45, 46, 47, 48, 49, 50, 51] (by decide +kernel) (by decide +kernel)
set_option maxRecDepth 20000 in
theorem gX5_treatyRate_X5_rateOf : GoodIn wsX5_treatyRate (wsV RX5 98 RX5 yX5_rateOf wsX5_rateOf) := goodIn_app (goodIn_of _ (by decide +kernel)) ggX5_treatyRate_X5_rateOf
theorem dX5_treatyRate_0 : decode cX5_treatyRate 0 = .ok (.aload_n 0, 1) := by decide +kernel
theorem dX5_treatyRate_1 : decode cX5_treatyRate 1 = .ok (.aload_n 0, 1) := by decide +kernel
theorem dX5_treatyRate_2 : decode cX5_treatyRate 2 = .ok (.iload_n 1, 1) := by decide +kernel
theorem dX5_treatyRate_3 : decode cX5_treatyRate 3 = .ok (.invokevirtual 77, 3) := by decide +kernel
theorem dX5_treatyRate_6 : decode cX5_treatyRate 6 = .ok (.ifCond .ne 7, 3) := by decide +kernel
theorem dX5_treatyRate_9 : decode cX5_treatyRate 9 = .ok (.iconst 1, 1) := by decide +kernel
theorem dX5_treatyRate_10 : decode cX5_treatyRate 10 = .ok (.goto 18, 3) := by decide +kernel
theorem dX5_treatyRate_13 : decode cX5_treatyRate 13 = .ok (.aload_n 0, 1) := by decide +kernel
theorem dX5_treatyRate_14 : decode cX5_treatyRate 14 = .ok (.getfield 16, 3) := by decide +kernel
theorem dX5_treatyRate_17 : decode cX5_treatyRate 17 = .ok (.iload_n 1, 1) := by decide +kernel
theorem dX5_treatyRate_18 : decode cX5_treatyRate 18 = .ok (.iaload, 1) := by decide +kernel
theorem dX5_treatyRate_19 : decode cX5_treatyRate 19 = .ok (.iconst 2, 1) := by decide +kernel
theorem dX5_treatyRate_20 : decode cX5_treatyRate 20 = .ok (.if_icmp .ne 7, 3) := by decide +kernel
theorem dX5_treatyRate_23 : decode cX5_treatyRate 23 = .ok (.iconst 2, 1) := by decide +kernel
theorem dX5_treatyRate_24 : decode cX5_treatyRate 24 = .ok (.goto 4, 3) := by decide +kernel
theorem dX5_treatyRate_27 : decode cX5_treatyRate 27 = .ok (.iconst 0, 1) := by decide +kernel
theorem dX5_treatyRate_28 : decode cX5_treatyRate 28 = .ok (.invokevirtual 73, 3) := by decide +kernel
theorem dX5_treatyRate_31 : decode cX5_treatyRate 31 = .ok (.ifCond .eq 11, 3) := by decide +kernel
theorem dX5_treatyRate_34 : decode cX5_treatyRate 34 = .ok (.aload_n 0, 1) := by decide +kernel
theorem dX5_treatyRate_35 : decode cX5_treatyRate 35 = .ok (.iload_n 1, 1) := by decide +kernel
theorem dX5_treatyRate_36 : decode cX5_treatyRate 36 = .ok (.invokevirtual 98, 3) := by decide +kernel
theorem dX5_treatyRate_39 : decode cX5_treatyRate 39 = .ok (.goto 4, 3) := by decide +kernel
theorem dX5_treatyRate_42 : decode cX5_treatyRate 42 = .ok (.iconst 0, 1) := by decide +kernel
theorem dX5_treatyRate_43 : decode cX5_treatyRate 43 = .ok (.ireturn, 1) := by decide +kernel
theorem dX5_taxOf_0 : decode cX5_taxOf 0 = .ok (.lload_n 0, 1) := by decide +kernel
theorem dX5_taxOf_1 : decode cX5_taxOf 1 = .ok (.iload_n 2, 1) := by decide +kernel
theorem dX5_taxOf_2 : decode cX5_taxOf 2 = .ok (.i2l, 1) := by decide +kernel
theorem dX5_taxOf_3 : decode cX5_taxOf 3 = .ok (.lmul, 1) := by decide +kernel
theorem dX5_taxOf_4 : decode cX5_taxOf 4 = .ok (.ldc2_w 102, 3) := by decide +kernel
theorem dX5_taxOf_7 : decode cX5_taxOf 7 = .ok (.ldiv, 1) := by decide +kernel
theorem dX5_taxOf_8 : decode cX5_taxOf 8 = .ok (.l2i, 1) := by decide +kernel
theorem dX5_taxOf_9 : decode cX5_taxOf 9 = .ok (.ireturn, 1) := by decide +kernel
set_option maxRecDepth 20000 in
theorem ggX5_counts_X5_hasForm : GoodIn wsX5_counts wsX5_hasForm := goodIn_r _ [6, 7, 8, 9, 10, 11, 12, 13, 14, 15, 16, 17, 18, 19, 20, 21, 22, 23, 24, 25, 26, 27, 28, 29] (by decide +kernel) (by decide +kernel)
set_option maxRecDepth 20000 in
theorem gX5_counts_X5_hasForm : GoodIn wsX5_counts (wsV RX5 92 RX5 yX5_hasForm wsX5_hasForm) := goodIn_app (goodIn_of _ (by decide +kernel)) ggX5_counts_X5_hasForm
theorem dX5_counts_0 : decode cX5_counts 0 = .ok (.iload 4, 2) := by decide +kernel
theorem dX5_counts_2 : decode cX5_counts 2 = .ok (.ifCond .ne 29, 3) := by decide +kernel
theorem dX5_counts_5 : decode cX5_counts 5 = .ok (.aload_n 0, 1) := by decide +kernel
theorem dX5_counts_6 : decode cX5_counts 6 = .ok (.getfield 52, 3) := by decide +kernel
theorem dX5_counts_9 : decode cX5_counts 9 = .ok (.bipush 20, 2) := by decide +kernel
theorem dX5_counts_11 : decode cX5_counts 11 = .ok (.iload_n 1, 1) := by decide +kernel
theorem dX5_counts_12 : decode cX5_counts 12 = .ok (.imul, 1) := by decide +kernel
theorem dX5_counts_13 : decode cX5_counts 13 = .ok (.iload_n 2, 1) := by decide +kernel
theorem dX5_counts_14 : decode cX5_counts 14 = .ok (.iadd, 1) := by decide +kernel
theorem dX5_counts_15 : decode cX5_counts 15 = .ok (.baload, 1) := by decide +kernel
theorem dX5_counts_16 : decode cX5_counts 16 = .ok (.ifCond .ne 15, 3) := by decide +kernel
theorem dX5_counts_19 : decode cX5_counts 19 = .ok (.iload_n 3, 1) := by decide +kernel
theorem dX5_counts_20 : decode cX5_counts 20 = .ok (.ifCond .eq 15, 3) := by decide +kernel
theorem dX5_counts_23 : decode cX5_counts 23 = .ok (.aload_n 0, 1) := by decide +kernel
theorem dX5_counts_24 : decode cX5_counts 24 = .ok (.iload_n 2, 1) := by decide +kernel
theorem dX5_counts_25 : decode cX5_counts 25 = .ok (.invokevirtual 92, 3) := by decide +kernel
theorem dX5_counts_28 : decode cX5_counts 28 = .ok (.ifCond .eq 7, 3) := by decide +kernel
theorem dX5_counts_31 : decode cX5_counts 31 = .ok (.iconst 1, 1) := by decide +kernel
theorem dX5_counts_32 : decode cX5_counts 32 = .ok (.goto 4, 3) := by decide +kernel
theorem dX5_counts_35 : decode cX5_counts 35 = .ok (.iconst 0, 1) := by decide +kernel
theorem dX5_counts_36 : decode cX5_counts 36 = .ok (.ireturn, 1) := by decide +kernel
set_option maxRecDepth 20000 in
theorem ggX5_partnersTax_X5_taxOf : GoodIn wsX5_partnersTax wsX5_taxOf := goodIn_r _ [8, 9] (by decide +kernel) (by decide +kernel)
set_option maxRecDepth 20000 in
theorem gX5_partnersTax_X5_taxOf : GoodIn wsX5_partnersTax (va_wsS RX5 104 yX5_taxOf wsX5_taxOf) := goodIn_app (goodIn_of _ (by decide +kernel)) ggX5_partnersTax_X5_taxOf
set_option maxRecDepth 20000 in
theorem ggX5_partnersTax_X5_counts : GoodIn wsX5_partnersTax wsX5_counts := goodIn_r _ [13, 14, 15, 16, 17, 7, 18, 19, 20, 21, 22, 23, 24, 25, 26, 27, 28, 29, 30, 31, 32, 33, 34, 35, 36, 37, 38, 39, 40, 41] (by decide +kernel) (by decide +kernel)
set_option maxRecDepth 20000 in
theorem gX5_partnersTax_X5_counts : GoodIn wsX5_partnersTax (wsV RX5 108 RX5 yX5_counts wsX5_counts) := goodIn_app (goodIn_of _ (by decide +kernel)) ggX5_partnersTax_X5_counts
theorem dX5_partnersTax_0 : decode cX5_partnersTax 0 = .ok (.bipush 20, 2) := by decide +kernel
theorem dX5_partnersTax_2 : decode cX5_partnersTax 2 = .ok (.bipush 20, 2) := by decide +kernel
theorem dX5_partnersTax_4 : decode cX5_partnersTax 4 = .ok (.iload_n 1, 1) := by decide +kernel
theorem dX5_partnersTax_5 : decode cX5_partnersTax 5 = .ok (.imul, 1) := by decide +kernel
theorem dX5_partnersTax_6 : decode cX5_partnersTax 6 = .ok (.iload_n 2, 1) := by decide +kernel
theorem dX5_partnersTax_7 : decode cX5_partnersTax 7 = .ok (.iadd, 1) := by decide +kernel
theorem dX5_partnersTax_8 : decode cX5_partnersTax 8 = .ok (.imul, 1) := by decide +kernel
theorem dX5_partnersTax_9 : decode cX5_partnersTax 9 = .ok (.istore 5, 2) := by decide +kernel
theorem dX5_partnersTax_11 : decode cX5_partnersTax 11 = .ok (.aload_n 0, 1) := by decide +kernel
theorem dX5_partnersTax_12 : decode cX5_partnersTax 12 = .ok (.getfield 37, 3) := by decide +kernel
theorem dX5_partnersTax_15 : decode cX5_partnersTax 15 = .ok (.bipush 20, 2) := by decide +kernel
theorem dX5_partnersTax_17 : decode cX5_partnersTax 17 = .ok (.iload_n 1, 1) := by decide +kernel
theorem dX5_partnersTax_18 : decode cX5_partnersTax 18 = .ok (.imul, 1) := by decide +kernel
theorem dX5_partnersTax_19 : decode cX5_partnersTax 19 = .ok (.iload_n 2, 1) := by decide +kernel
theorem dX5_partnersTax_20 : decode cX5_partnersTax 20 = .ok (.iadd, 1) := by decide +kernel
theorem dX5_partnersTax_21 : decode cX5_partnersTax 21 = .ok (.iaload, 1) := by decide +kernel
theorem dX5_partnersTax_22 : decode cX5_partnersTax 22 = .ok (.i2l, 1) := by decide +kernel
theorem dX5_partnersTax_23 : decode cX5_partnersTax 23 = .ok (.lstore 6, 2) := by decide +kernel
theorem dX5_partnersTax_25 : decode cX5_partnersTax 25 = .ok (.iconst 0, 1) := by decide +kernel
theorem dX5_partnersTax_26 : decode cX5_partnersTax 26 = .ok (.istore 8, 2) := by decide +kernel
theorem dX5_partnersTax_28 : decode cX5_partnersTax 28 = .ok (.iconst (-1), 1) := by decide +kernel
theorem dX5_partnersTax_29 : decode cX5_partnersTax 29 = .ok (.istore 9, 2) := by decide +kernel
theorem dX5_partnersTax_31 : decode cX5_partnersTax 31 = .ok (.bipush 19, 2) := by decide +kernel
theorem dX5_partnersTax_33 : decode cX5_partnersTax 33 = .ok (.istore 10, 2) := by decide +kernel
theorem dX5_partnersTax_35 : decode cX5_partnersTax 35 = .ok (.iload 10, 2) := by decide +kernel
theorem dX5_partnersTax_37 : decode cX5_partnersTax 37 = .ok (.ifCond .lt 46, 3) := by decide +kernel
theorem dX5_partnersTax_40 : decode cX5_partnersTax 40 = .ok (.iload 8, 2) := by decide +kernel
theorem dX5_partnersTax_42 : decode cX5_partnersTax 42 = .ok (.aload_n 0, 1) := by decide +kernel
theorem dX5_partnersTax_43 : decode cX5_partnersTax 43 = .ok (.getfield 56, 3) := by decide +kernel
theorem dX5_partnersTax_46 : decode cX5_partnersTax 46 = .ok (.iload 5, 2) := by decide +kernel
theorem dX5_partnersTax_48 : decode cX5_partnersTax 48 = .ok (.iload 10, 2) := by decide +kernel
theorem dX5_partnersTax_50 : decode cX5_partnersTax 50 = .ok (.iadd, 1) := by decide +kernel
theorem dX5_partnersTax_51 : decode cX5_partnersTax 51 = .ok (.iaload, 1) := by decide +kernel
theorem dX5_partnersTax_52 : decode cX5_partnersTax 52 = .ok (.iadd, 1) := by decide +kernel
theorem dX5_partnersTax_53 : decode cX5_partnersTax 53 = .ok (.istore 8, 2) := by decide +kernel
theorem dX5_partnersTax_55 : decode cX5_partnersTax 55 = .ok (.aload_n 0, 1) := by decide +kernel
theorem dX5_partnersTax_56 : decode cX5_partnersTax 56 = .ok (.getfield 56, 3) := by decide +kernel
theorem dX5_partnersTax_59 : decode cX5_partnersTax 59 = .ok (.iload 5, 2) := by decide +kernel
theorem dX5_partnersTax_61 : decode cX5_partnersTax 61 = .ok (.iload 10, 2) := by decide +kernel
theorem dX5_partnersTax_63 : decode cX5_partnersTax 63 = .ok (.iadd, 1) := by decide +kernel
theorem dX5_partnersTax_64 : decode cX5_partnersTax 64 = .ok (.iaload, 1) := by decide +kernel
theorem dX5_partnersTax_65 : decode cX5_partnersTax 65 = .ok (.ifCond .le 8, 3) := by decide +kernel
theorem dX5_partnersTax_68 : decode cX5_partnersTax 68 = .ok (.iload 10, 2) := by decide +kernel
theorem dX5_partnersTax_70 : decode cX5_partnersTax 70 = .ok (.goto 5, 3) := by decide +kernel
theorem dX5_partnersTax_73 : decode cX5_partnersTax 73 = .ok (.iload 9, 2) := by decide +kernel
theorem dX5_partnersTax_75 : decode cX5_partnersTax 75 = .ok (.istore 9, 2) := by decide +kernel
theorem dX5_partnersTax_77 : decode cX5_partnersTax 77 = .ok (.iinc 10 (-1), 3) := by decide +kernel
theorem dX5_partnersTax_80 : decode cX5_partnersTax 80 = .ok (.goto (-45), 3) := by decide +kernel
theorem dX5_partnersTax_83 : decode cX5_partnersTax 83 = .ok (.iload 8, 2) := by decide +kernel
theorem dX5_partnersTax_85 : decode cX5_partnersTax 85 = .ok (.ifCond .ne 11, 3) := by decide +kernel
theorem dX5_partnersTax_88 : decode cX5_partnersTax 88 = .ok (.lload 6, 2) := by decide +kernel
theorem dX5_partnersTax_90 : decode cX5_partnersTax 90 = .ok (.bipush 30, 2) := by decide +kernel
theorem dX5_partnersTax_92 : decode cX5_partnersTax 92 = .ok (.invokestatic 104, 3) := by decide +kernel
theorem dX5_partnersTax_95 : decode cX5_partnersTax 95 = .ok (.ireturn, 1) := by decide +kernel
theorem dX5_partnersTax_96 : decode cX5_partnersTax 96 = .ok (.lload 6, 2) := by decide +kernel
theorem dX5_partnersTax_98 : decode cX5_partnersTax 98 = .ok (.lstore 10, 2) := by decide +kernel
theorem dX5_partnersTax_100 : decode cX5_partnersTax 100 = .ok (.iconst 0, 1) := by decide +kernel
theorem dX5_partnersTax_101 : decode cX5_partnersTax 101 = .ok (.istore 12, 2) := by decide +kernel
theorem dX5_partnersTax_103 : decode cX5_partnersTax 103 = .ok (.iload 12, 2) := by decide +kernel
theorem dX5_partnersTax_105 : decode cX5_partnersTax 105 = .ok (.bipush 20, 2) := by decide +kernel
theorem dX5_partnersTax_107 : decode cX5_partnersTax 107 = .ok (.if_icmp .ge 32, 3) := by decide +kernel
theorem dX5_partnersTax_110 : decode cX5_partnersTax 110 = .ok (.lload 10, 2) := by decide +kernel
theorem dX5_partnersTax_112 : decode cX5_partnersTax 112 = .ok (.lload 6, 2) := by decide +kernel
theorem dX5_partnersTax_114 : decode cX5_partnersTax 114 = .ok (.aload_n 0, 1) := by decide +kernel
theorem dX5_partnersTax_115 : decode cX5_partnersTax 115 = .ok (.getfield 56, 3) := by decide +kernel
theorem dX5_partnersTax_118 : decode cX5_partnersTax 118 = .ok (.iload 5, 2) := by decide +kernel
theorem dX5_partnersTax_120 : decode cX5_partnersTax 120 = .ok (.iload 12, 2) := by decide +kernel
theorem dX5_partnersTax_122 : decode cX5_partnersTax 122 = .ok (.iadd, 1) := by decide +kernel
theorem dX5_partnersTax_123 : decode cX5_partnersTax 123 = .ok (.iaload, 1) := by decide +kernel
theorem dX5_partnersTax_124 : decode cX5_partnersTax 124 = .ok (.i2l, 1) := by decide +kernel
theorem dX5_partnersTax_125 : decode cX5_partnersTax 125 = .ok (.lmul, 1) := by decide +kernel
theorem dX5_partnersTax_126 : decode cX5_partnersTax 126 = .ok (.iload 8, 2) := by decide +kernel
theorem dX5_partnersTax_128 : decode cX5_partnersTax 128 = .ok (.i2l, 1) := by decide +kernel
theorem dX5_partnersTax_129 : decode cX5_partnersTax 129 = .ok (.ldiv, 1) := by decide +kernel
theorem dX5_partnersTax_130 : decode cX5_partnersTax 130 = .ok (.lsub, 1) := by decide +kernel
theorem dX5_partnersTax_131 : decode cX5_partnersTax 131 = .ok (.lstore 10, 2) := by decide +kernel
theorem dX5_partnersTax_133 : decode cX5_partnersTax 133 = .ok (.iinc 12 1, 3) := by decide +kernel
theorem dX5_partnersTax_136 : decode cX5_partnersTax 136 = .ok (.goto (-33), 3) := by decide +kernel
theorem dX5_partnersTax_139 : decode cX5_partnersTax 139 = .ok (.iconst 0, 1) := by decide +kernel
theorem dX5_partnersTax_140 : decode cX5_partnersTax 140 = .ok (.istore 12, 2) := by decide +kernel
theorem dX5_partnersTax_142 : decode cX5_partnersTax 142 = .ok (.iconst 0, 1) := by decide +kernel
theorem dX5_partnersTax_143 : decode cX5_partnersTax 143 = .ok (.istore 13, 2) := by decide +kernel
theorem dX5_partnersTax_145 : decode cX5_partnersTax 145 = .ok (.iload 13, 2) := by decide +kernel
theorem dX5_partnersTax_147 : decode cX5_partnersTax 147 = .ok (.aload_n 0, 1) := by decide +kernel
theorem dX5_partnersTax_148 : decode cX5_partnersTax 148 = .ok (.getfield 63, 3) := by decide +kernel
theorem dX5_partnersTax_151 : decode cX5_partnersTax 151 = .ok (.if_icmp .ge 124, 3) := by decide +kernel
theorem dX5_partnersTax_154 : decode cX5_partnersTax 154 = .ok (.lload 6, 2) := by decide +kernel
theorem dX5_partnersTax_156 : decode cX5_partnersTax 156 = .ok (.aload_n 0, 1) := by decide +kernel
theorem dX5_partnersTax_157 : decode cX5_partnersTax 157 = .ok (.getfield 56, 3) := by decide +kernel
theorem dX5_partnersTax_160 : decode cX5_partnersTax 160 = .ok (.iload 5, 2) := by decide +kernel
theorem dX5_partnersTax_162 : decode cX5_partnersTax 162 = .ok (.iload 13, 2) := by decide +kernel
theorem dX5_partnersTax_164 : decode cX5_partnersTax 164 = .ok (.iadd, 1) := by decide +kernel
theorem dX5_partnersTax_165 : decode cX5_partnersTax 165 = .ok (.iaload, 1) := by decide +kernel
theorem dX5_partnersTax_166 : decode cX5_partnersTax 166 = .ok (.i2l, 1) := by decide +kernel
theorem dX5_partnersTax_167 : decode cX5_partnersTax 167 = .ok (.lmul, 1) := by decide +kernel
theorem dX5_partnersTax_168 : decode cX5_partnersTax 168 = .ok (.iload 8, 2) := by decide +kernel
theorem dX5_partnersTax_170 : decode cX5_partnersTax 170 = .ok (.i2l, 1) := by decide +kernel
theorem dX5_partnersTax_171 : decode cX5_partnersTax 171 = .ok (.ldiv, 1) := by decide +kernel
theorem dX5_partnersTax_172 : decode cX5_partnersTax 172 = .ok (.iload 13, 2) := by decide +kernel
theorem dX5_partnersTax_174 : decode cX5_partnersTax 174 = .ok (.iload 9, 2) := by decide +kernel
theorem dX5_partnersTax_176 : decode cX5_partnersTax 176 = .ok (.if_icmp .ne 8, 3) := by decide +kernel
theorem dX5_partnersTax_179 : decode cX5_partnersTax 179 = .ok (.lload 10, 2) := by decide +kernel
theorem dX5_partnersTax_181 : decode cX5_partnersTax 181 = .ok (.goto 4, 3) := by decide +kernel
theorem dX5_partnersTax_184 : decode cX5_partnersTax 184 = .ok (.lconst 0, 1) := by decide +kernel
theorem dX5_partnersTax_185 : decode cX5_partnersTax 185 = .ok (.ladd, 1) := by decide +kernel
theorem dX5_partnersTax_186 : decode cX5_partnersTax 186 = .ok (.lstore 14, 2) := by decide +kernel
theorem dX5_partnersTax_188 : decode cX5_partnersTax 188 = .ok (.aload_n 0, 1) := by decide +kernel
theorem dX5_partnersTax_189 : decode cX5_partnersTax 189 = .ok (.iload_n 1, 1) := by decide +kernel
theorem dX5_partnersTax_190 : decode cX5_partnersTax 190 = .ok (.iload_n 2, 1) := by decide +kernel
theorem dX5_partnersTax_191 : decode cX5_partnersTax 191 = .ok (.iload_n 3, 1) := by decide +kernel
theorem dX5_partnersTax_192 : decode cX5_partnersTax 192 = .ok (.iload 4, 2) := by decide +kernel
theorem dX5_partnersTax_194 : decode cX5_partnersTax 194 = .ok (.invokevirtual 108, 3) := by decide +kernel
theorem dX5_partnersTax_197 : decode cX5_partnersTax 197 = .ok (.ifCond .eq 20, 3) := by decide +kernel
theorem dX5_partnersTax_200 : decode cX5_partnersTax 200 = .ok (.aload_n 0, 1) := by decide +kernel
theorem dX5_partnersTax_201 : decode cX5_partnersTax 201 = .ok (.iload_n 1, 1) := by decide +kernel
theorem dX5_partnersTax_202 : decode cX5_partnersTax 202 = .ok (.iload 13, 2) := by decide +kernel
theorem dX5_partnersTax_204 : decode cX5_partnersTax 204 = .ok (.iload_n 3, 1) := by decide +kernel
theorem dX5_partnersTax_205 : decode cX5_partnersTax 205 = .ok (.iload 4, 2) := by decide +kernel
theorem dX5_partnersTax_207 : decode cX5_partnersTax 207 = .ok (.invokevirtual 108, 3) := by decide +kernel
theorem dX5_partnersTax_210 : decode cX5_partnersTax 210 = .ok (.ifCond .eq 7, 3) := by decide +kernel
theorem dX5_partnersTax_213 : decode cX5_partnersTax 213 = .ok (.iconst 1, 1) := by decide +kernel
theorem dX5_partnersTax_214 : decode cX5_partnersTax 214 = .ok (.goto 4, 3) := by decide +kernel
theorem dX5_partnersTax_217 : decode cX5_partnersTax 217 = .ok (.iconst 0, 1) := by decide +kernel
theorem dX5_partnersTax_218 : decode cX5_partnersTax 218 = .ok (.istore 16, 2) := by decide +kernel
theorem dX5_partnersTax_220 : decode cX5_partnersTax 220 = .ok (.iload 12, 2) := by decide +kernel
theorem dX5_partnersTax_222 : decode cX5_partnersTax 222 = .ok (.aload_n 0, 1) := by decide +kernel
theorem dX5_partnersTax_223 : decode cX5_partnersTax 223 = .ok (.getfield 56, 3) := by decide +kernel
theorem dX5_partnersTax_226 : decode cX5_partnersTax 226 = .ok (.iload 5, 2) := by decide +kernel
theorem dX5_partnersTax_228 : decode cX5_partnersTax 228 = .ok (.iload 13, 2) := by decide +kernel
theorem dX5_partnersTax_230 : decode cX5_partnersTax 230 = .ok (.iadd, 1) := by decide +kernel
theorem dX5_partnersTax_231 : decode cX5_partnersTax 231 = .ok (.iaload, 1) := by decide +kernel
theorem dX5_partnersTax_232 : decode cX5_partnersTax 232 = .ok (.ifCond .ne 7, 3) := by decide +kernel
theorem dX5_partnersTax_235 : decode cX5_partnersTax 235 = .ok (.iconst 0, 1) := by decide +kernel
theorem dX5_partnersTax_236 : decode cX5_partnersTax 236 = .ok (.goto 30, 3) := by decide +kernel
theorem dX5_partnersTax_239 : decode cX5_partnersTax 239 = .ok (.lload 14, 2) := by decide +kernel
theorem dX5_partnersTax_241 : decode cX5_partnersTax 241 = .ok (.iload 16, 2) := by decide +kernel
theorem dX5_partnersTax_243 : decode cX5_partnersTax 243 = .ok (.ifCond .eq 18, 3) := by decide +kernel
theorem dX5_partnersTax_246 : decode cX5_partnersTax 246 = .ok (.aload_n 0, 1) := by decide +kernel
theorem dX5_partnersTax_247 : decode cX5_partnersTax 247 = .ok (.getfield 46, 3) := by decide +kernel
theorem dX5_partnersTax_250 : decode cX5_partnersTax 250 = .ok (.bipush 20, 2) := by decide +kernel
theorem dX5_partnersTax_252 : decode cX5_partnersTax 252 = .ok (.iload_n 1, 1) := by decide +kernel
theorem dX5_partnersTax_253 : decode cX5_partnersTax 253 = .ok (.imul, 1) := by decide +kernel
theorem dX5_partnersTax_254 : decode cX5_partnersTax 254 = .ok (.iload 13, 2) := by decide +kernel
theorem dX5_partnersTax_256 : decode cX5_partnersTax 256 = .ok (.iadd, 1) := by decide +kernel
theorem dX5_partnersTax_257 : decode cX5_partnersTax 257 = .ok (.iaload, 1) := by decide +kernel
theorem dX5_partnersTax_258 : decode cX5_partnersTax 258 = .ok (.goto 5, 3) := by decide +kernel
theorem dX5_partnersTax_261 : decode cX5_partnersTax 261 = .ok (.bipush 30, 2) := by decide +kernel
theorem dX5_partnersTax_263 : decode cX5_partnersTax 263 = .ok (.invokestatic 104, 3) := by decide +kernel
theorem dX5_partnersTax_266 : decode cX5_partnersTax 266 = .ok (.iadd, 1) := by decide +kernel
theorem dX5_partnersTax_267 : decode cX5_partnersTax 267 = .ok (.istore 12, 2) := by decide +kernel
theorem dX5_partnersTax_269 : decode cX5_partnersTax 269 = .ok (.iinc 13 1, 3) := by decide +kernel
theorem dX5_partnersTax_272 : decode cX5_partnersTax 272 = .ok (.goto (-127), 3) := by decide +kernel
theorem dX5_partnersTax_275 : decode cX5_partnersTax 275 = .ok (.iload 12, 2) := by decide +kernel
theorem dX5_partnersTax_277 : decode cX5_partnersTax 277 = .ok (.ireturn, 1) := by decide +kernel
set_option maxRecDepth 20000 in
theorem ggX5_tax_X5_partnersTax : GoodIn wsX5_tax wsX5_partnersTax := goodIn_r _ [8, 2, 9, 10, 11, 12, 13, 7, 14, 15, 16, 17, 18, 19, 20, 21, 22, 23, 24, 25, 26, 27, 28, 29, 30, 31, 32, 33, 34, 35, 36, 37, 38, 39, 40, 41, 42, 43, 44, 45, 46, 47] (by decide +kernel) (by decide +kernel)
set_option maxRecDepth 20000 in
theorem gX5_tax_X5_partnersTax : GoodIn wsX5_tax (wsV RX5 112 RX5 yX5_partnersTax wsX5_partnersTax) := goodIn_app (goodIn_of _ (by decide +kernel)) ggX5_tax_X5_partnersTax
set_option maxRecDepth 20000 in
theorem ggX5_tax_X5_counts : GoodIn wsX5_tax wsX5_counts := goodIn_r _ [19, 20, 21, 22, 23, 7, 24, 25, 26, 27, 28, 29, 30, 31, 32, 33, 34, 35, 36, 37, 38, 39, 40, 41, 42, 43, 44, 45, 46, 47] (by decide +kernel) (by decide +kernel)
set_option maxRecDepth 20000 in
theorem gX5_tax_X5_counts : GoodIn wsX5_tax (wsV RX5 108 RX5 yX5_counts wsX5_counts) := goodIn_app (goodIn_of _ (by decide +kernel)) ggX5_tax_X5_counts
set_option maxRecDepth 20000 in
theorem ggX5_tax_X5_taxOf : GoodIn wsX5_tax wsX5_taxOf := goodIn_r _ [14, 15] (by decide +kernel) (by decide +kernel)
set_option maxRecDepth 20000 in
theorem gX5_tax_X5_taxOf : GoodIn wsX5_tax (va_wsS RX5 104 yX5_taxOf wsX5_taxOf) := goodIn_app (goodIn_of _ (by decide +kernel)) ggX5_tax_X5_taxOf
theorem dX5_tax_0 : decode cX5_tax 0 = .ok (.aload_n 0, 1) := by decide +kernel
theorem dX5_tax_1 : decode cX5_tax 1 = .ok (.getfield 16, 3) := by decide +kernel
theorem dX5_tax_4 : decode cX5_tax 4 = .ok (.iload_n 2, 1) := by decide +kernel
theorem dX5_tax_5 : decode cX5_tax 5 = .ok (.iaload, 1) := by decide +kernel
theorem dX5_tax_6 : decode cX5_tax 6 = .ok (.iconst 2, 1) := by decide +kernel
theorem dX5_tax_7 : decode cX5_tax 7 = .ok (.if_icmp .ne 13, 3) := by decide +kernel
theorem dX5_tax_10 : decode cX5_tax 10 = .ok (.aload_n 0, 1) := by decide +kernel
theorem dX5_tax_11 : decode cX5_tax 11 = .ok (.iload_n 1, 1) := by decide +kernel
theorem dX5_tax_12 : decode cX5_tax 12 = .ok (.iload_n 2, 1) := by decide +kernel
theorem dX5_tax_13 : decode cX5_tax 13 = .ok (.iload_n 3, 1) := by decide +kernel
theorem dX5_tax_14 : decode cX5_tax 14 = .ok (.iload 4, 2) := by decide +kernel
theorem dX5_tax_16 : decode cX5_tax 16 = .ok (.invokevirtual 112, 3) := by decide +kernel
theorem dX5_tax_19 : decode cX5_tax 19 = .ok (.ireturn, 1) := by decide +kernel
theorem dX5_tax_20 : decode cX5_tax 20 = .ok (.bipush 20, 2) := by decide +kernel
theorem dX5_tax_22 : decode cX5_tax 22 = .ok (.iload_n 1, 1) := by decide +kernel
theorem dX5_tax_23 : decode cX5_tax 23 = .ok (.imul, 1) := by decide +kernel
theorem dX5_tax_24 : decode cX5_tax 24 = .ok (.iload_n 2, 1) := by decide +kernel
theorem dX5_tax_25 : decode cX5_tax 25 = .ok (.iadd, 1) := by decide +kernel
theorem dX5_tax_26 : decode cX5_tax 26 = .ok (.istore 5, 2) := by decide +kernel
theorem dX5_tax_28 : decode cX5_tax 28 = .ok (.aload_n 0, 1) := by decide +kernel
theorem dX5_tax_29 : decode cX5_tax 29 = .ok (.getfield 37, 3) := by decide +kernel
theorem dX5_tax_32 : decode cX5_tax 32 = .ok (.iload 5, 2) := by decide +kernel
theorem dX5_tax_34 : decode cX5_tax 34 = .ok (.iaload, 1) := by decide +kernel
theorem dX5_tax_35 : decode cX5_tax 35 = .ok (.i2l, 1) := by decide +kernel
theorem dX5_tax_36 : decode cX5_tax 36 = .ok (.aload_n 0, 1) := by decide +kernel
theorem dX5_tax_37 : decode cX5_tax 37 = .ok (.iload_n 1, 1) := by decide +kernel
theorem dX5_tax_38 : decode cX5_tax 38 = .ok (.iload_n 2, 1) := by decide +kernel
theorem dX5_tax_39 : decode cX5_tax 39 = .ok (.iload_n 3, 1) := by decide +kernel
theorem dX5_tax_40 : decode cX5_tax 40 = .ok (.iload 4, 2) := by decide +kernel
theorem dX5_tax_42 : decode cX5_tax 42 = .ok (.invokevirtual 108, 3) := by decide +kernel
theorem dX5_tax_45 : decode cX5_tax 45 = .ok (.ifCond .eq 13, 3) := by decide +kernel
theorem dX5_tax_48 : decode cX5_tax 48 = .ok (.aload_n 0, 1) := by decide +kernel
theorem dX5_tax_49 : decode cX5_tax 49 = .ok (.getfield 49, 3) := by decide +kernel
theorem dX5_tax_52 : decode cX5_tax 52 = .ok (.iload 5, 2) := by decide +kernel
theorem dX5_tax_54 : decode cX5_tax 54 = .ok (.iaload, 1) := by decide +kernel
theorem dX5_tax_55 : decode cX5_tax 55 = .ok (.goto 5, 3) := by decide +kernel
theorem dX5_tax_58 : decode cX5_tax 58 = .ok (.bipush 30, 2) := by decide +kernel
theorem dX5_tax_60 : decode cX5_tax 60 = .ok (.invokestatic 104, 3) := by decide +kernel
theorem dX5_tax_63 : decode cX5_tax 63 = .ok (.ireturn, 1) := by decide +kernel
set_option maxRecDepth 20000 in
theorem ggX5_pay_X5_isIn : GoodIn wsX5_pay wsX5_isIn := goodIn_r _ [20] (by decide +kernel) (by decide +kernel)
set_option maxRecDepth 20000 in
theorem gX5_pay_X5_isIn : GoodIn wsX5_pay (va_wsS RX5 66 yX5_isIn wsX5_isIn) := goodIn_app (goodIn_of _ (by decide +kernel)) ggX5_pay_X5_isIn
set_option maxRecDepth 20000 in
theorem ggX5_pay_X5_allShares : GoodIn wsX5_pay wsX5_allShares := goodIn_r _ [24, 4, 6, 62, 63, 64, 65, 66, 67, 68, 69, 70, 71, 72, 73, 74, 75, 76, 77, 78, 79, 80, 81, 82] (by decide +kernel) (by decide +kernel)
set_option maxRecDepth 20000 in
theorem gX5_pay_X5_allShares : GoodIn wsX5_pay (wsV RX5 81 RX5 yX5_allShares wsX5_allShares) := goodIn_app (goodIn_of _ (by decide +kernel)) ggX5_pay_X5_allShares
set_option maxRecDepth 20000 in
theorem ggX5_pay_X5_can : GoodIn wsX5_pay wsX5_can := goodIn_r _ [28, 29, 62, 63, 64, 65, 66, 67, 68, 69, 70, 71, 72, 73, 74, 75, 76, 77, 78, 79, 80, 81, 82] (by decide +kernel) (by decide +kernel)
set_option maxRecDepth 20000 in
theorem gX5_pay_X5_can : GoodIn wsX5_pay (wsV RX5 73 RX5 yX5_can wsX5_can) := goodIn_app (goodIn_of _ (by decide +kernel)) ggX5_pay_X5_can
set_option maxRecDepth 20000 in
theorem ggX5_pay_X5_hasForm : GoodIn wsX5_pay wsX5_hasForm := goodIn_r _ [33, 34, 3, 62, 63, 64, 65, 66, 67, 68, 69, 70, 71, 72, 73, 74, 75, 76, 77, 78, 79, 80, 81, 82] (by decide +kernel) (by decide +kernel)
set_option maxRecDepth 20000 in
theorem gX5_pay_X5_hasForm : GoodIn wsX5_pay (wsV RX5 92 RX5 yX5_hasForm wsX5_hasForm) := goodIn_app (goodIn_of _ (by decide +kernel)) ggX5_pay_X5_hasForm
set_option maxRecDepth 20000 in
theorem ggX5_pay_X5_rateOf : GoodIn wsX5_pay wsX5_rateOf := goodIn_r _ [38, 10, 11, 39, 40, 41, 42, 19, 43, 9, 6, 44, 45, 3, 62, 63, 64, 65, 66, 67, 68, 69, 70, 71, 72, 73, 74, 75, 76, 77, 78, 79, 80, 81, 82] (by decide +kernel) (by decide +kernel)
set_option maxRecDepth 20000 in
theorem gX5_pay_X5_rateOf : GoodIn wsX5_pay (wsV RX5 98 RX5 yX5_rateOf wsX5_rateOf) := goodIn_app (goodIn_of _ (by decide +kernel)) ggX5_pay_X5_rateOf
set_option maxRecDepth 20000 in
theorem ggX5_pay_X5_tax : GoodIn wsX5_pay wsX5_tax := goodIn_r _ [49, 9, 5, 12, 50, 51, 52, 19, 53, 13, 4, 8, 54, 55, 56, 57, 58, 59, 60, 61, 7, 30, 31, 32, 33, 34, 3, 62, 63, 64, 65, 66, 67, 68, 69, 70, 71, 72, 73, 74, 75, 76, 77, 78, 79, 80, 81, 82] (by decide +kernel) (by decide +kernel)
set_option maxRecDepth 20000 in
theorem gX5_pay_X5_tax : GoodIn wsX5_pay (wsV RX5 116 RX5 yX5_tax wsX5_tax) := goodIn_app (goodIn_of _ (by decide +kernel)) ggX5_pay_X5_tax
theorem dX5_pay_0 : decode cX5_pay 0 = .ok (.aload_n 0, 1) := by decide +kernel
theorem dX5_pay_1 : decode cX5_pay 1 = .ok (.iload_n 1, 1) := by decide +kernel
theorem dX5_pay_2 : decode cX5_pay 2 = .ok (.iconst 1, 1) := by decide +kernel
theorem dX5_pay_3 : decode cX5_pay 3 = .ok (.sipush 1000, 3) := by decide +kernel
theorem dX5_pay_6 : decode cX5_pay 6 = .ok (.invokestatic 66, 3) := by decide +kernel
theorem dX5_pay_9 : decode cX5_pay 9 = .ok (.ifCond .ne 7, 3) := by decide +kernel
theorem dX5_pay_12 : decode cX5_pay 12 = .ok (.iconst 1, 1) := by decide +kernel
theorem dX5_pay_13 : decode cX5_pay 13 = .ok (.goto 24, 3) := by decide +kernel
theorem dX5_pay_16 : decode cX5_pay 16 = .ok (.aload_n 0, 1) := by decide +kernel
theorem dX5_pay_17 : decode cX5_pay 17 = .ok (.getfield 70, 3) := by decide +kernel
theorem dX5_pay_20 : decode cX5_pay 20 = .ok (.bipush 40, 2) := by decide +kernel
theorem dX5_pay_22 : decode cX5_pay 22 = .ok (.if_icmp .eq 10, 3) := by decide +kernel
theorem dX5_pay_25 : decode cX5_pay 25 = .ok (.aload_n 0, 1) := by decide +kernel
theorem dX5_pay_26 : decode cX5_pay 26 = .ok (.invokevirtual 81, 3) := by decide +kernel
theorem dX5_pay_29 : decode cX5_pay 29 = .ok (.ifCond .ne 7, 3) := by decide +kernel
theorem dX5_pay_32 : decode cX5_pay 32 = .ok (.iconst 2, 1) := by decide +kernel
theorem dX5_pay_33 : decode cX5_pay 33 = .ok (.goto 4, 3) := by decide +kernel
theorem dX5_pay_36 : decode cX5_pay 36 = .ok (.iconst 0, 1) := by decide +kernel
theorem dX5_pay_37 : decode cX5_pay 37 = .ok (.invokevirtual 73, 3) := by decide +kernel
theorem dX5_pay_40 : decode cX5_pay 40 = .ok (.ifCond .ne 5, 3) := by decide +kernel
theorem dX5_pay_43 : decode cX5_pay 43 = .ok (.iconst 0, 1) := by decide +kernel
theorem dX5_pay_44 : decode cX5_pay 44 = .ok (.ireturn, 1) := by decide +kernel
theorem dX5_pay_45 : decode cX5_pay 45 = .ok (.aload_n 0, 1) := by decide +kernel
theorem dX5_pay_46 : decode cX5_pay 46 = .ok (.getfield 34, 3) := by decide +kernel
theorem dX5_pay_49 : decode cX5_pay 49 = .ok (.aload_n 0, 1) := by decide +kernel
theorem dX5_pay_50 : decode cX5_pay 50 = .ok (.getfield 70, 3) := by decide +kernel
theorem dX5_pay_53 : decode cX5_pay 53 = .ok (.aload_n 0, 1) := by decide +kernel
theorem dX5_pay_54 : decode cX5_pay 54 = .ok (.getfield 85, 3) := by decide +kernel
theorem dX5_pay_57 : decode cX5_pay 57 = .ok (.iastore, 1) := by decide +kernel
theorem dX5_pay_58 : decode cX5_pay 58 = .ok (.iconst 0, 1) := by decide +kernel
theorem dX5_pay_59 : decode cX5_pay 59 = .ok (.istore_n 2, 1) := by decide +kernel
theorem dX5_pay_60 : decode cX5_pay 60 = .ok (.iload_n 2, 1) := by decide +kernel
theorem dX5_pay_61 : decode cX5_pay 61 = .ok (.aload_n 0, 1) := by decide +kernel
theorem dX5_pay_62 : decode cX5_pay 62 = .ok (.getfield 63, 3) := by decide +kernel
theorem dX5_pay_65 : decode cX5_pay 65 = .ok (.if_icmp .ge 142, 3) := by decide +kernel
theorem dX5_pay_68 : decode cX5_pay 68 = .ok (.bipush 20, 2) := by decide +kernel
theorem dX5_pay_70 : decode cX5_pay 70 = .ok (.aload_n 0, 1) := by decide +kernel
theorem dX5_pay_71 : decode cX5_pay 71 = .ok (.getfield 70, 3) := by decide +kernel
theorem dX5_pay_74 : decode cX5_pay 74 = .ok (.imul, 1) := by decide +kernel
theorem dX5_pay_75 : decode cX5_pay 75 = .ok (.iload_n 2, 1) := by decide +kernel
theorem dX5_pay_76 : decode cX5_pay 76 = .ok (.iadd, 1) := by decide +kernel
theorem dX5_pay_77 : decode cX5_pay 77 = .ok (.istore_n 3, 1) := by decide +kernel
theorem dX5_pay_78 : decode cX5_pay 78 = .ok (.aload_n 0, 1) := by decide +kernel
theorem dX5_pay_79 : decode cX5_pay 79 = .ok (.getfield 37, 3) := by decide +kernel
theorem dX5_pay_82 : decode cX5_pay 82 = .ok (.iload_n 3, 1) := by decide +kernel
theorem dX5_pay_83 : decode cX5_pay 83 = .ok (.aload_n 0, 1) := by decide +kernel
theorem dX5_pay_84 : decode cX5_pay 84 = .ok (.getfield 22, 3) := by decide +kernel
theorem dX5_pay_87 : decode cX5_pay 87 = .ok (.iload_n 2, 1) := by decide +kernel
theorem dX5_pay_88 : decode cX5_pay 88 = .ok (.iaload, 1) := by decide +kernel
theorem dX5_pay_89 : decode cX5_pay 89 = .ok (.iload_n 1, 1) := by decide +kernel
theorem dX5_pay_90 : decode cX5_pay 90 = .ok (.imul, 1) := by decide +kernel
theorem dX5_pay_91 : decode cX5_pay 91 = .ok (.iastore, 1) := by decide +kernel
theorem dX5_pay_92 : decode cX5_pay 92 = .ok (.aload_n 0, 1) := by decide +kernel
theorem dX5_pay_93 : decode cX5_pay 93 = .ok (.getfield 52, 3) := by decide +kernel
theorem dX5_pay_96 : decode cX5_pay 96 = .ok (.iload_n 3, 1) := by decide +kernel
theorem dX5_pay_97 : decode cX5_pay 97 = .ok (.aload_n 0, 1) := by decide +kernel
theorem dX5_pay_98 : decode cX5_pay 98 = .ok (.iload_n 2, 1) := by decide +kernel
theorem dX5_pay_99 : decode cX5_pay 99 = .ok (.invokevirtual 92, 3) := by decide +kernel
theorem dX5_pay_102 : decode cX5_pay 102 = .ok (.bastore, 1) := by decide +kernel
theorem dX5_pay_103 : decode cX5_pay 103 = .ok (.aload_n 0, 1) := by decide +kernel
theorem dX5_pay_104 : decode cX5_pay 104 = .ok (.getfield 46, 3) := by decide +kernel
theorem dX5_pay_107 : decode cX5_pay 107 = .ok (.iload_n 3, 1) := by decide +kernel
theorem dX5_pay_108 : decode cX5_pay 108 = .ok (.aload_n 0, 1) := by decide +kernel
theorem dX5_pay_109 : decode cX5_pay 109 = .ok (.getfield 16, 3) := by decide +kernel
theorem dX5_pay_112 : decode cX5_pay 112 = .ok (.iload_n 2, 1) := by decide +kernel
theorem dX5_pay_113 : decode cX5_pay 113 = .ok (.iaload, 1) := by decide +kernel
theorem dX5_pay_114 : decode cX5_pay 114 = .ok (.iconst 2, 1) := by decide +kernel
theorem dX5_pay_115 : decode cX5_pay 115 = .ok (.if_icmp .ne 8, 3) := by decide +kernel
theorem dX5_pay_118 : decode cX5_pay 118 = .ok (.bipush 30, 2) := by decide +kernel
theorem dX5_pay_120 : decode cX5_pay 120 = .ok (.goto 14, 3) := by decide +kernel
theorem dX5_pay_123 : decode cX5_pay 123 = .ok (.aload_n 0, 1) := by decide +kernel
theorem dX5_pay_124 : decode cX5_pay 124 = .ok (.getfield 7, 3) := by decide +kernel
theorem dX5_pay_127 : decode cX5_pay 127 = .ok (.aload_n 0, 1) := by decide +kernel
theorem dX5_pay_128 : decode cX5_pay 128 = .ok (.getfield 19, 3) := by decide +kernel
theorem dX5_pay_131 : decode cX5_pay 131 = .ok (.iload_n 2, 1) := by decide +kernel
theorem dX5_pay_132 : decode cX5_pay 132 = .ok (.iaload, 1) := by decide +kernel
theorem dX5_pay_133 : decode cX5_pay 133 = .ok (.iaload, 1) := by decide +kernel
theorem dX5_pay_134 : decode cX5_pay 134 = .ok (.iastore, 1) := by decide +kernel
theorem dX5_pay_135 : decode cX5_pay 135 = .ok (.aload_n 0, 1) := by decide +kernel
theorem dX5_pay_136 : decode cX5_pay 136 = .ok (.getfield 49, 3) := by decide +kernel
theorem dX5_pay_139 : decode cX5_pay 139 = .ok (.iload_n 3, 1) := by decide +kernel
theorem dX5_pay_140 : decode cX5_pay 140 = .ok (.aload_n 0, 1) := by decide +kernel
theorem dX5_pay_141 : decode cX5_pay 141 = .ok (.getfield 16, 3) := by decide +kernel
theorem dX5_pay_144 : decode cX5_pay 144 = .ok (.iload_n 2, 1) := by decide +kernel
theorem dX5_pay_145 : decode cX5_pay 145 = .ok (.iaload, 1) := by decide +kernel
theorem dX5_pay_146 : decode cX5_pay 146 = .ok (.iconst 2, 1) := by decide +kernel
theorem dX5_pay_147 : decode cX5_pay 147 = .ok (.if_icmp .ne 8, 3) := by decide +kernel
theorem dX5_pay_150 : decode cX5_pay 150 = .ok (.bipush 30, 2) := by decide +kernel
theorem dX5_pay_152 : decode cX5_pay 152 = .ok (.goto 8, 3) := by decide +kernel
theorem dX5_pay_155 : decode cX5_pay 155 = .ok (.aload_n 0, 1) := by decide +kernel
theorem dX5_pay_156 : decode cX5_pay 156 = .ok (.iload_n 2, 1) := by decide +kernel
theorem dX5_pay_157 : decode cX5_pay 157 = .ok (.invokevirtual 98, 3) := by decide +kernel
theorem dX5_pay_160 : decode cX5_pay 160 = .ok (.iastore, 1) := by decide +kernel
theorem dX5_pay_161 : decode cX5_pay 161 = .ok (.iconst 0, 1) := by decide +kernel
theorem dX5_pay_162 : decode cX5_pay 162 = .ok (.istore 4, 2) := by decide +kernel
theorem dX5_pay_164 : decode cX5_pay 164 = .ok (.iload 4, 2) := by decide +kernel
theorem dX5_pay_166 : decode cX5_pay 166 = .ok (.bipush 20, 2) := by decide +kernel
theorem dX5_pay_168 : decode cX5_pay 168 = .ok (.if_icmp .ge 33, 3) := by decide +kernel
theorem dX5_pay_171 : decode cX5_pay 171 = .ok (.aload_n 0, 1) := by decide +kernel
theorem dX5_pay_172 : decode cX5_pay 172 = .ok (.getfield 56, 3) := by decide +kernel
theorem dX5_pay_175 : decode cX5_pay 175 = .ok (.bipush 20, 2) := by decide +kernel
theorem dX5_pay_177 : decode cX5_pay 177 = .ok (.iload_n 3, 1) := by decide +kernel
theorem dX5_pay_178 : decode cX5_pay 178 = .ok (.imul, 1) := by decide +kernel
theorem dX5_pay_179 : decode cX5_pay 179 = .ok (.iload 4, 2) := by decide +kernel
theorem dX5_pay_181 : decode cX5_pay 181 = .ok (.iadd, 1) := by decide +kernel
theorem dX5_pay_182 : decode cX5_pay 182 = .ok (.aload_n 0, 1) := by decide +kernel
theorem dX5_pay_183 : decode cX5_pay 183 = .ok (.getfield 31, 3) := by decide +kernel
theorem dX5_pay_186 : decode cX5_pay 186 = .ok (.bipush 20, 2) := by decide +kernel
theorem dX5_pay_188 : decode cX5_pay 188 = .ok (.iload_n 2, 1) := by decide +kernel
theorem dX5_pay_189 : decode cX5_pay 189 = .ok (.imul, 1) := by decide +kernel
theorem dX5_pay_190 : decode cX5_pay 190 = .ok (.iload 4, 2) := by decide +kernel
theorem dX5_pay_192 : decode cX5_pay 192 = .ok (.iadd, 1) := by decide +kernel
theorem dX5_pay_193 : decode cX5_pay 193 = .ok (.iaload, 1) := by decide +kernel
theorem dX5_pay_194 : decode cX5_pay 194 = .ok (.iastore, 1) := by decide +kernel
theorem dX5_pay_195 : decode cX5_pay 195 = .ok (.iinc 4 1, 3) := by decide +kernel
theorem dX5_pay_198 : decode cX5_pay 198 = .ok (.goto (-34), 3) := by decide +kernel
theorem dX5_pay_201 : decode cX5_pay 201 = .ok (.iinc 2 1, 3) := by decide +kernel
theorem dX5_pay_204 : decode cX5_pay 204 = .ok (.goto (-144), 3) := by decide +kernel
theorem dX5_pay_207 : decode cX5_pay 207 = .ok (.iconst 0, 1) := by decide +kernel
theorem dX5_pay_208 : decode cX5_pay 208 = .ok (.istore_n 2, 1) := by decide +kernel
theorem dX5_pay_209 : decode cX5_pay 209 = .ok (.iload_n 2, 1) := by decide +kernel
theorem dX5_pay_210 : decode cX5_pay 210 = .ok (.aload_n 0, 1) := by decide +kernel
theorem dX5_pay_211 : decode cX5_pay 211 = .ok (.getfield 63, 3) := by decide +kernel
theorem dX5_pay_214 : decode cX5_pay 214 = .ok (.if_icmp .ge 59, 3) := by decide +kernel
theorem dX5_pay_217 : decode cX5_pay 217 = .ok (.aload_n 0, 1) := by decide +kernel
theorem dX5_pay_218 : decode cX5_pay 218 = .ok (.getfield 40, 3) := by decide +kernel
theorem dX5_pay_221 : decode cX5_pay 221 = .ok (.bipush 20, 2) := by decide +kernel
theorem dX5_pay_223 : decode cX5_pay 223 = .ok (.aload_n 0, 1) := by decide +kernel
theorem dX5_pay_224 : decode cX5_pay 224 = .ok (.getfield 70, 3) := by decide +kernel
theorem dX5_pay_227 : decode cX5_pay 227 = .ok (.imul, 1) := by decide +kernel
theorem dX5_pay_228 : decode cX5_pay 228 = .ok (.iload_n 2, 1) := by decide +kernel
theorem dX5_pay_229 : decode cX5_pay 229 = .ok (.iadd, 1) := by decide +kernel
theorem dX5_pay_230 : decode cX5_pay 230 = .ok (.aload_n 0, 1) := by decide +kernel
theorem dX5_pay_231 : decode cX5_pay 231 = .ok (.aload_n 0, 1) := by decide +kernel
theorem dX5_pay_232 : decode cX5_pay 232 = .ok (.getfield 70, 3) := by decide +kernel
theorem dX5_pay_235 : decode cX5_pay 235 = .ok (.iload_n 2, 1) := by decide +kernel
theorem dX5_pay_236 : decode cX5_pay 236 = .ok (.iconst 0, 1) := by decide +kernel
theorem dX5_pay_237 : decode cX5_pay 237 = .ok (.iconst 0, 1) := by decide +kernel
theorem dX5_pay_238 : decode cX5_pay 238 = .ok (.invokevirtual 116, 3) := by decide +kernel
theorem dX5_pay_241 : decode cX5_pay 241 = .ok (.iastore, 1) := by decide +kernel
theorem dX5_pay_242 : decode cX5_pay 242 = .ok (.aload_n 0, 1) := by decide +kernel
theorem dX5_pay_243 : decode cX5_pay 243 = .ok (.getfield 43, 3) := by decide +kernel
theorem dX5_pay_246 : decode cX5_pay 246 = .ok (.bipush 20, 2) := by decide +kernel
theorem dX5_pay_248 : decode cX5_pay 248 = .ok (.aload_n 0, 1) := by decide +kernel
theorem dX5_pay_249 : decode cX5_pay 249 = .ok (.getfield 70, 3) := by decide +kernel
theorem dX5_pay_252 : decode cX5_pay 252 = .ok (.imul, 1) := by decide +kernel
theorem dX5_pay_253 : decode cX5_pay 253 = .ok (.iload_n 2, 1) := by decide +kernel
theorem dX5_pay_254 : decode cX5_pay 254 = .ok (.iadd, 1) := by decide +kernel
theorem dX5_pay_255 : decode cX5_pay 255 = .ok (.aload_n 0, 1) := by decide +kernel
theorem dX5_pay_256 : decode cX5_pay 256 = .ok (.aload_n 0, 1) := by decide +kernel
theorem dX5_pay_257 : decode cX5_pay 257 = .ok (.getfield 70, 3) := by decide +kernel
theorem dX5_pay_260 : decode cX5_pay 260 = .ok (.iload_n 2, 1) := by decide +kernel
theorem dX5_pay_261 : decode cX5_pay 261 = .ok (.iconst 0, 1) := by decide +kernel
theorem dX5_pay_262 : decode cX5_pay 262 = .ok (.iconst 1, 1) := by decide +kernel
theorem dX5_pay_263 : decode cX5_pay 263 = .ok (.invokevirtual 116, 3) := by decide +kernel
theorem dX5_pay_266 : decode cX5_pay 266 = .ok (.iastore, 1) := by decide +kernel
theorem dX5_pay_267 : decode cX5_pay 267 = .ok (.iinc 2 1, 3) := by decide +kernel
theorem dX5_pay_270 : decode cX5_pay 270 = .ok (.goto (-61), 3) := by decide +kernel
theorem dX5_pay_273 : decode cX5_pay 273 = .ok (.aload_n 0, 1) := by decide +kernel
theorem dX5_pay_274 : decode cX5_pay 274 = .ok (.dup, 1) := by decide +kernel
theorem dX5_pay_275 : decode cX5_pay 275 = .ok (.getfield 70, 3) := by decide +kernel
theorem dX5_pay_278 : decode cX5_pay 278 = .ok (.iconst 1, 1) := by decide +kernel
theorem dX5_pay_279 : decode cX5_pay 279 = .ok (.iadd, 1) := by decide +kernel
theorem dX5_pay_280 : decode cX5_pay 280 = .ok (.putfield 70, 3) := by decide +kernel
theorem dX5_pay_283 : decode cX5_pay 283 = .ok (.aload_n 0, 1) := by decide +kernel
theorem dX5_pay_284 : decode cX5_pay 284 = .ok (.getfield 70, 3) := by decide +kernel
theorem dX5_pay_287 : decode cX5_pay 287 = .ok (.iconst 1, 1) := by decide +kernel
theorem dX5_pay_288 : decode cX5_pay 288 = .ok (.isub, 1) := by decide +kernel
theorem dX5_pay_289 : decode cX5_pay 289 = .ok (.ireturn, 1) := by decide +kernel
theorem dX5_dividends_0 : decode cX5_dividends 0 = .ok (.aload_n 0, 1) := by decide +kernel
theorem dX5_dividends_1 : decode cX5_dividends 1 = .ok (.iconst 0, 1) := by decide +kernel
theorem dX5_dividends_2 : decode cX5_dividends 2 = .ok (.putfield 59, 3) := by decide +kernel
theorem dX5_dividends_5 : decode cX5_dividends 5 = .ok (.aload_n 0, 1) := by decide +kernel
theorem dX5_dividends_6 : decode cX5_dividends 6 = .ok (.getfield 70, 3) := by decide +kernel
theorem dX5_dividends_9 : decode cX5_dividends 9 = .ok (.ireturn, 1) := by decide +kernel
set_option maxRecDepth 20000 in
theorem ggX5_areAsked_X5_isDividend : GoodIn wsX5_areAsked wsX5_isDividend := goodIn_r _ [5, 6, 7, 8, 4, 9, 20, 21, 22, 23, 24, 25, 26, 27, 28, 29, 30, 31, 32, 33, 34, 35, 36, 37, 38, 39, 40] (by decide +kernel) (by decide +kernel)
set_option maxRecDepth 20000 in
theorem gX5_areAsked_X5_isDividend : GoodIn wsX5_areAsked (wsV RX5 119 RX5 yX5_isDividend wsX5_isDividend) := goodIn_app (goodIn_of _ (by decide +kernel)) ggX5_areAsked_X5_isDividend
set_option maxRecDepth 20000 in
theorem ggX5_areAsked_X5_isHolder : GoodIn wsX5_areAsked wsX5_isHolder := goodIn_r _ [13, 14, 7, 8, 4, 9, 20, 21, 22, 23, 24, 25, 26, 27, 28, 29, 30, 31, 32, 33, 34, 35, 36, 37, 38, 39, 40] (by decide +kernel) (by decide +kernel)
set_option maxRecDepth 20000 in
theorem gX5_areAsked_X5_isHolder : GoodIn wsX5_areAsked (wsV RX5 77 RX5 yX5_isHolder wsX5_isHolder) := goodIn_app (goodIn_of _ (by decide +kernel)) ggX5_areAsked_X5_isHolder
set_option maxRecDepth 20000 in
theorem ggX5_areAsked_X5_can : GoodIn wsX5_areAsked wsX5_can := goodIn_r _ [18, 19, 20, 21, 22, 23, 24, 25, 26, 27, 28, 29, 30, 31, 32, 33, 34, 35, 36, 37, 38, 39, 40] (by decide +kernel) (by decide +kernel)
set_option maxRecDepth 20000 in
theorem gX5_areAsked_X5_can : GoodIn wsX5_areAsked (wsV RX5 73 RX5 yX5_can wsX5_can) := goodIn_app (goodIn_of _ (by decide +kernel)) ggX5_areAsked_X5_can
theorem dX5_areAsked_0 : decode cX5_areAsked 0 = .ok (.aload_n 0, 1) := by decide +kernel
theorem dX5_areAsked_1 : decode cX5_areAsked 1 = .ok (.aload_n 0, 1) := by decide +kernel
theorem dX5_areAsked_2 : decode cX5_areAsked 2 = .ok (.iload_n 1, 1) := by decide +kernel
theorem dX5_areAsked_3 : decode cX5_areAsked 3 = .ok (.invokevirtual 119, 3) := by decide +kernel
theorem dX5_areAsked_6 : decode cX5_areAsked 6 = .ok (.ifCond .eq 15, 3) := by decide +kernel
theorem dX5_areAsked_9 : decode cX5_areAsked 9 = .ok (.aload_n 0, 1) := by decide +kernel
theorem dX5_areAsked_10 : decode cX5_areAsked 10 = .ok (.iload_n 2, 1) := by decide +kernel
theorem dX5_areAsked_11 : decode cX5_areAsked 11 = .ok (.invokevirtual 77, 3) := by decide +kernel
theorem dX5_areAsked_14 : decode cX5_areAsked 14 = .ok (.ifCond .eq 7, 3) := by decide +kernel
theorem dX5_areAsked_17 : decode cX5_areAsked 17 = .ok (.iconst 0, 1) := by decide +kernel
theorem dX5_areAsked_18 : decode cX5_areAsked 18 = .ok (.goto 4, 3) := by decide +kernel
theorem dX5_areAsked_21 : decode cX5_areAsked 21 = .ok (.iconst 1, 1) := by decide +kernel
theorem dX5_areAsked_22 : decode cX5_areAsked 22 = .ok (.invokevirtual 73, 3) := by decide +kernel
theorem dX5_areAsked_25 : decode cX5_areAsked 25 = .ok (.ireturn, 1) := by decide +kernel
set_option maxRecDepth 20000 in
theorem ggX5_gross_X5_areAsked : GoodIn wsX5_gross wsX5_areAsked := goodIn_r _ [6, 7, 8, 9, 5, 10, 11, 12, 13, 14, 15, 16, 17, 18, 19, 20, 21, 22, 23, 24, 25, 26, 27, 28, 29, 30, 31, 32, 33, 34, 35, 36, 37, 38, 39, 40, 41, 42, 43, 44, 45] (by decide +kernel) (by decide +kernel)
set_option maxRecDepth 20000 in
theorem gX5_gross_X5_areAsked : GoodIn wsX5_gross (wsV RX5 122 RX5 yX5_areAsked wsX5_areAsked) := goodIn_app (goodIn_of _ (by decide +kernel)) ggX5_gross_X5_areAsked
theorem dX5_gross_0 : decode cX5_gross 0 = .ok (.aload_n 0, 1) := by decide +kernel
theorem dX5_gross_1 : decode cX5_gross 1 = .ok (.iload_n 1, 1) := by decide +kernel
theorem dX5_gross_2 : decode cX5_gross 2 = .ok (.iload_n 2, 1) := by decide +kernel
theorem dX5_gross_3 : decode cX5_gross 3 = .ok (.invokevirtual 122, 3) := by decide +kernel
theorem dX5_gross_6 : decode cX5_gross 6 = .ok (.ifCond .eq 17, 3) := by decide +kernel
theorem dX5_gross_9 : decode cX5_gross 9 = .ok (.aload_n 0, 1) := by decide +kernel
theorem dX5_gross_10 : decode cX5_gross 10 = .ok (.getfield 37, 3) := by decide +kernel
theorem dX5_gross_13 : decode cX5_gross 13 = .ok (.bipush 20, 2) := by decide +kernel
theorem dX5_gross_15 : decode cX5_gross 15 = .ok (.iload_n 1, 1) := by decide +kernel
theorem dX5_gross_16 : decode cX5_gross 16 = .ok (.imul, 1) := by decide +kernel
theorem dX5_gross_17 : decode cX5_gross 17 = .ok (.iload_n 2, 1) := by decide +kernel
theorem dX5_gross_18 : decode cX5_gross 18 = .ok (.iadd, 1) := by decide +kernel
theorem dX5_gross_19 : decode cX5_gross 19 = .ok (.iaload, 1) := by decide +kernel
theorem dX5_gross_20 : decode cX5_gross 20 = .ok (.goto 4, 3) := by decide +kernel
theorem dX5_gross_23 : decode cX5_gross 23 = .ok (.iconst 0, 1) := by decide +kernel
theorem dX5_gross_24 : decode cX5_gross 24 = .ok (.ireturn, 1) := by decide +kernel
set_option maxRecDepth 20000 in
theorem ggX5_held_X5_areAsked : GoodIn wsX5_held wsX5_areAsked := goodIn_r _ [6, 7, 8, 9, 5, 10, 11, 12, 13, 14, 15, 16, 17, 18, 19, 20, 21, 22, 23, 24, 25, 26, 27, 28, 29, 30, 31, 32, 33, 34, 35, 36, 37, 38, 39, 40, 41, 42, 43, 44, 45] (by decide +kernel) (by decide +kernel)
set_option maxRecDepth 20000 in
theorem gX5_held_X5_areAsked : GoodIn wsX5_held (wsV RX5 122 RX5 yX5_areAsked wsX5_areAsked) := goodIn_app (goodIn_of _ (by decide +kernel)) ggX5_held_X5_areAsked
theorem dX5_held_0 : decode cX5_held 0 = .ok (.aload_n 0, 1) := by decide +kernel
theorem dX5_held_1 : decode cX5_held 1 = .ok (.iload_n 1, 1) := by decide +kernel
theorem dX5_held_2 : decode cX5_held 2 = .ok (.iload_n 2, 1) := by decide +kernel
theorem dX5_held_3 : decode cX5_held 3 = .ok (.invokevirtual 122, 3) := by decide +kernel
theorem dX5_held_6 : decode cX5_held 6 = .ok (.ifCond .eq 17, 3) := by decide +kernel
theorem dX5_held_9 : decode cX5_held 9 = .ok (.aload_n 0, 1) := by decide +kernel
theorem dX5_held_10 : decode cX5_held 10 = .ok (.getfield 40, 3) := by decide +kernel
theorem dX5_held_13 : decode cX5_held 13 = .ok (.bipush 20, 2) := by decide +kernel
theorem dX5_held_15 : decode cX5_held 15 = .ok (.iload_n 1, 1) := by decide +kernel
theorem dX5_held_16 : decode cX5_held 16 = .ok (.imul, 1) := by decide +kernel
theorem dX5_held_17 : decode cX5_held 17 = .ok (.iload_n 2, 1) := by decide +kernel
theorem dX5_held_18 : decode cX5_held 18 = .ok (.iadd, 1) := by decide +kernel
theorem dX5_held_19 : decode cX5_held 19 = .ok (.iaload, 1) := by decide +kernel
theorem dX5_held_20 : decode cX5_held 20 = .ok (.goto 4, 3) := by decide +kernel
theorem dX5_held_23 : decode cX5_held 23 = .ok (.iconst 0, 1) := by decide +kernel
theorem dX5_held_24 : decode cX5_held 24 = .ok (.ireturn, 1) := by decide +kernel
set_option maxRecDepth 20000 in
theorem ggX5_due_X5_areAsked : GoodIn wsX5_due wsX5_areAsked := goodIn_r _ [6, 7, 8, 9, 5, 10, 11, 12, 13, 14, 15, 16, 17, 18, 19, 20, 21, 22, 23, 24, 25, 26, 27, 28, 29, 30, 31, 32, 33, 34, 35, 36, 37, 38, 39, 40, 41, 42, 43, 44, 45] (by decide +kernel) (by decide +kernel)
set_option maxRecDepth 20000 in
theorem gX5_due_X5_areAsked : GoodIn wsX5_due (wsV RX5 122 RX5 yX5_areAsked wsX5_areAsked) := goodIn_app (goodIn_of _ (by decide +kernel)) ggX5_due_X5_areAsked
theorem dX5_due_0 : decode cX5_due 0 = .ok (.aload_n 0, 1) := by decide +kernel
theorem dX5_due_1 : decode cX5_due 1 = .ok (.iload_n 1, 1) := by decide +kernel
theorem dX5_due_2 : decode cX5_due 2 = .ok (.iload_n 2, 1) := by decide +kernel
theorem dX5_due_3 : decode cX5_due 3 = .ok (.invokevirtual 122, 3) := by decide +kernel
theorem dX5_due_6 : decode cX5_due 6 = .ok (.ifCond .eq 17, 3) := by decide +kernel
theorem dX5_due_9 : decode cX5_due 9 = .ok (.aload_n 0, 1) := by decide +kernel
theorem dX5_due_10 : decode cX5_due 10 = .ok (.getfield 43, 3) := by decide +kernel
theorem dX5_due_13 : decode cX5_due 13 = .ok (.bipush 20, 2) := by decide +kernel
theorem dX5_due_15 : decode cX5_due 15 = .ok (.iload_n 1, 1) := by decide +kernel
theorem dX5_due_16 : decode cX5_due 16 = .ok (.imul, 1) := by decide +kernel
theorem dX5_due_17 : decode cX5_due 17 = .ok (.iload_n 2, 1) := by decide +kernel
theorem dX5_due_18 : decode cX5_due 18 = .ok (.iadd, 1) := by decide +kernel
theorem dX5_due_19 : decode cX5_due 19 = .ok (.iaload, 1) := by decide +kernel
theorem dX5_due_20 : decode cX5_due 20 = .ok (.goto 4, 3) := by decide +kernel
theorem dX5_due_23 : decode cX5_due 23 = .ok (.iconst 0, 1) := by decide +kernel
theorem dX5_due_24 : decode cX5_due 24 = .ok (.ireturn, 1) := by decide +kernel
theorem dX5_heldInAll_0 : decode cX5_heldInAll 0 = .ok (.aload_n 0, 1) := by decide +kernel
theorem dX5_heldInAll_1 : decode cX5_heldInAll 1 = .ok (.iconst 0, 1) := by decide +kernel
theorem dX5_heldInAll_2 : decode cX5_heldInAll 2 = .ok (.putfield 59, 3) := by decide +kernel
theorem dX5_heldInAll_5 : decode cX5_heldInAll 5 = .ok (.lconst 0, 1) := by decide +kernel
theorem dX5_heldInAll_6 : decode cX5_heldInAll 6 = .ok (.lstore_n 1, 1) := by decide +kernel
theorem dX5_heldInAll_7 : decode cX5_heldInAll 7 = .ok (.iconst 0, 1) := by decide +kernel
theorem dX5_heldInAll_8 : decode cX5_heldInAll 8 = .ok (.istore_n 3, 1) := by decide +kernel
theorem dX5_heldInAll_9 : decode cX5_heldInAll 9 = .ok (.iload_n 3, 1) := by decide +kernel
theorem dX5_heldInAll_10 : decode cX5_heldInAll 10 = .ok (.sipush 800, 3) := by decide +kernel
theorem dX5_heldInAll_13 : decode cX5_heldInAll 13 = .ok (.if_icmp .ge 19, 3) := by decide +kernel
theorem dX5_heldInAll_16 : decode cX5_heldInAll 16 = .ok (.lload_n 1, 1) := by decide +kernel
theorem dX5_heldInAll_17 : decode cX5_heldInAll 17 = .ok (.aload_n 0, 1) := by decide +kernel
theorem dX5_heldInAll_18 : decode cX5_heldInAll 18 = .ok (.getfield 40, 3) := by decide +kernel
theorem dX5_heldInAll_21 : decode cX5_heldInAll 21 = .ok (.iload_n 3, 1) := by decide +kernel
theorem dX5_heldInAll_22 : decode cX5_heldInAll 22 = .ok (.iaload, 1) := by decide +kernel
theorem dX5_heldInAll_23 : decode cX5_heldInAll 23 = .ok (.i2l, 1) := by decide +kernel
theorem dX5_heldInAll_24 : decode cX5_heldInAll 24 = .ok (.ladd, 1) := by decide +kernel
theorem dX5_heldInAll_25 : decode cX5_heldInAll 25 = .ok (.lstore_n 1, 1) := by decide +kernel
theorem dX5_heldInAll_26 : decode cX5_heldInAll 26 = .ok (.iinc 3 1, 3) := by decide +kernel
theorem dX5_heldInAll_29 : decode cX5_heldInAll 29 = .ok (.goto (-20), 3) := by decide +kernel
theorem dX5_heldInAll_32 : decode cX5_heldInAll 32 = .ok (.lload_n 1, 1) := by decide +kernel
theorem dX5_heldInAll_33 : decode cX5_heldInAll 33 = .ok (.lreturn, 1) := by decide +kernel
theorem dX5_refunded_0 : decode cX5_refunded 0 = .ok (.aload_n 0, 1) := by decide +kernel
theorem dX5_refunded_1 : decode cX5_refunded 1 = .ok (.iconst 0, 1) := by decide +kernel
theorem dX5_refunded_2 : decode cX5_refunded 2 = .ok (.putfield 59, 3) := by decide +kernel
theorem dX5_refunded_5 : decode cX5_refunded 5 = .ok (.aload_n 0, 1) := by decide +kernel
theorem dX5_refunded_6 : decode cX5_refunded 6 = .ok (.getfield 126, 3) := by decide +kernel
theorem dX5_refunded_9 : decode cX5_refunded 9 = .ok (.lreturn, 1) := by decide +kernel
theorem dX5_isOver_0 : decode cX5_isOver 0 = .ok (.aload_n 0, 1) := by decide +kernel
theorem dX5_isOver_1 : decode cX5_isOver 1 = .ok (.getfield 37, 3) := by decide +kernel
theorem dX5_isOver_4 : decode cX5_isOver 4 = .ok (.bipush 20, 2) := by decide +kernel
theorem dX5_isOver_6 : decode cX5_isOver 6 = .ok (.iload_n 1, 1) := by decide +kernel
theorem dX5_isOver_7 : decode cX5_isOver 7 = .ok (.imul, 1) := by decide +kernel
theorem dX5_isOver_8 : decode cX5_isOver 8 = .ok (.iload_n 2, 1) := by decide +kernel
theorem dX5_isOver_9 : decode cX5_isOver 9 = .ok (.iadd, 1) := by decide +kernel
theorem dX5_isOver_10 : decode cX5_isOver 10 = .ok (.iaload, 1) := by decide +kernel
theorem dX5_isOver_11 : decode cX5_isOver 11 = .ok (.ifCond .eq 18, 3) := by decide +kernel
theorem dX5_isOver_14 : decode cX5_isOver 14 = .ok (.aload_n 0, 1) := by decide +kernel
theorem dX5_isOver_15 : decode cX5_isOver 15 = .ok (.getfield 85, 3) := by decide +kernel
theorem dX5_isOver_18 : decode cX5_isOver 18 = .ok (.aload_n 0, 1) := by decide +kernel
theorem dX5_isOver_19 : decode cX5_isOver 19 = .ok (.getfield 34, 3) := by decide +kernel
theorem dX5_isOver_22 : decode cX5_isOver 22 = .ok (.iload_n 1, 1) := by decide +kernel
theorem dX5_isOver_23 : decode cX5_isOver 23 = .ok (.iaload, 1) := by decide +kernel
theorem dX5_isOver_24 : decode cX5_isOver 24 = .ok (.isub, 1) := by decide +kernel
theorem dX5_isOver_25 : decode cX5_isOver 25 = .ok (.iload_n 3, 1) := by decide +kernel
theorem dX5_isOver_26 : decode cX5_isOver 26 = .ok (.if_icmp .le 7, 3) := by decide +kernel
theorem dX5_isOver_29 : decode cX5_isOver 29 = .ok (.iconst 1, 1) := by decide +kernel
theorem dX5_isOver_30 : decode cX5_isOver 30 = .ok (.goto 4, 3) := by decide +kernel
theorem dX5_isOver_33 : decode cX5_isOver 33 = .ok (.iconst 0, 1) := by decide +kernel
theorem dX5_isOver_34 : decode cX5_isOver 34 = .ok (.ireturn, 1) := by decide +kernel
theorem dX5_gives_0 : decode cX5_gives 0 = .ok (.bipush 20, 2) := by decide +kernel
theorem dX5_gives_2 : decode cX5_gives 2 = .ok (.iload_n 1, 1) := by decide +kernel
theorem dX5_gives_3 : decode cX5_gives 3 = .ok (.imul, 1) := by decide +kernel
theorem dX5_gives_4 : decode cX5_gives 4 = .ok (.iload_n 2, 1) := by decide +kernel
theorem dX5_gives_5 : decode cX5_gives 5 = .ok (.iadd, 1) := by decide +kernel
theorem dX5_gives_6 : decode cX5_gives 6 = .ok (.istore 4, 2) := by decide +kernel
theorem dX5_gives_8 : decode cX5_gives 8 = .ok (.aload_n 0, 1) := by decide +kernel
theorem dX5_gives_9 : decode cX5_gives 9 = .ok (.getfield 40, 3) := by decide +kernel
theorem dX5_gives_12 : decode cX5_gives 12 = .ok (.iload 4, 2) := by decide +kernel
theorem dX5_gives_14 : decode cX5_gives 14 = .ok (.iaload, 1) := by decide +kernel
theorem dX5_gives_15 : decode cX5_gives 15 = .ok (.iload_n 3, 1) := by decide +kernel
theorem dX5_gives_16 : decode cX5_gives 16 = .ok (.if_icmp .le 15, 3) := by decide +kernel
theorem dX5_gives_19 : decode cX5_gives 19 = .ok (.aload_n 0, 1) := by decide +kernel
theorem dX5_gives_20 : decode cX5_gives 20 = .ok (.getfield 40, 3) := by decide +kernel
theorem dX5_gives_23 : decode cX5_gives 23 = .ok (.iload 4, 2) := by decide +kernel
theorem dX5_gives_25 : decode cX5_gives 25 = .ok (.iaload, 1) := by decide +kernel
theorem dX5_gives_26 : decode cX5_gives 26 = .ok (.iload_n 3, 1) := by decide +kernel
theorem dX5_gives_27 : decode cX5_gives 27 = .ok (.isub, 1) := by decide +kernel
theorem dX5_gives_28 : decode cX5_gives 28 = .ok (.goto 4, 3) := by decide +kernel
theorem dX5_gives_31 : decode cX5_gives 31 = .ok (.iconst 0, 1) := by decide +kernel
theorem dX5_gives_32 : decode cX5_gives 32 = .ok (.istore 5, 2) := by decide +kernel
theorem dX5_gives_34 : decode cX5_gives 34 = .ok (.aload_n 0, 1) := by decide +kernel
theorem dX5_gives_35 : decode cX5_gives 35 = .ok (.getfield 40, 3) := by decide +kernel
theorem dX5_gives_38 : decode cX5_gives 38 = .ok (.iload 4, 2) := by decide +kernel
theorem dX5_gives_40 : decode cX5_gives 40 = .ok (.dup2, 1) := by decide +kernel
theorem dX5_gives_41 : decode cX5_gives 41 = .ok (.iaload, 1) := by decide +kernel
theorem dX5_gives_42 : decode cX5_gives 42 = .ok (.iload 5, 2) := by decide +kernel
theorem dX5_gives_44 : decode cX5_gives 44 = .ok (.isub, 1) := by decide +kernel
theorem dX5_gives_45 : decode cX5_gives 45 = .ok (.iastore, 1) := by decide +kernel
theorem dX5_gives_46 : decode cX5_gives 46 = .ok (.aload_n 0, 1) := by decide +kernel
theorem dX5_gives_47 : decode cX5_gives 47 = .ok (.dup, 1) := by decide +kernel
theorem dX5_gives_48 : decode cX5_gives 48 = .ok (.getfield 126, 3) := by decide +kernel
theorem dX5_gives_51 : decode cX5_gives 51 = .ok (.iload 5, 2) := by decide +kernel
theorem dX5_gives_53 : decode cX5_gives 53 = .ok (.i2l, 1) := by decide +kernel
theorem dX5_gives_54 : decode cX5_gives 54 = .ok (.ladd, 1) := by decide +kernel
theorem dX5_gives_55 : decode cX5_gives 55 = .ok (.putfield 126, 3) := by decide +kernel
theorem dX5_gives_58 : decode cX5_gives 58 = .ok (.iload 5, 2) := by decide +kernel
theorem dX5_gives_60 : decode cX5_gives 60 = .ok (.ireturn, 1) := by decide +kernel
set_option maxRecDepth 20000 in
theorem ggX5_refund_X5_isDividend : GoodIn wsX5_refund wsX5_isDividend := goodIn_r _ [5, 6, 7, 8, 4, 9, 59, 60, 61, 62, 63, 64, 65, 66, 67, 68, 69, 70, 71, 72, 73, 74, 75, 76, 77, 78, 79] (by decide +kernel) (by decide +kernel)
set_option maxRecDepth 20000 in
theorem gX5_refund_X5_isDividend : GoodIn wsX5_refund (wsV RX5 119 RX5 yX5_isDividend wsX5_isDividend) := goodIn_app (goodIn_of _ (by decide +kernel)) ggX5_refund_X5_isDividend
set_option maxRecDepth 20000 in
theorem ggX5_refund_X5_isHolder : GoodIn wsX5_refund wsX5_isHolder := goodIn_r _ [13, 14, 7, 8, 4, 9, 59, 60, 61, 62, 63, 64, 65, 66, 67, 68, 69, 70, 71, 72, 73, 74, 75, 76, 77, 78, 79] (by decide +kernel) (by decide +kernel)
set_option maxRecDepth 20000 in
theorem gX5_refund_X5_isHolder : GoodIn wsX5_refund (wsV RX5 77 RX5 yX5_isHolder wsX5_isHolder) := goodIn_app (goodIn_of _ (by decide +kernel)) ggX5_refund_X5_isHolder
set_option maxRecDepth 20000 in
theorem ggX5_refund_X5_isOver : GoodIn wsX5_refund wsX5_isOver := goodIn_r _ [18, 19, 20, 21, 59, 60, 61, 62, 63, 64, 65, 66, 67, 68, 69, 70, 71, 72, 73, 74, 75, 76, 77, 78, 79] (by decide +kernel) (by decide +kernel)
set_option maxRecDepth 20000 in
theorem gX5_refund_X5_isOver : GoodIn wsX5_refund (wsV RX5 130 RX5 yX5_isOver wsX5_isOver) := goodIn_app (goodIn_of _ (by decide +kernel)) ggX5_refund_X5_isOver
set_option maxRecDepth 20000 in
theorem ggX5_refund_X5_can : GoodIn wsX5_refund wsX5_can := goodIn_r _ [25, 26, 59, 60, 61, 62, 63, 64, 65, 66, 67, 68, 69, 70, 71, 72, 73, 74, 75, 76, 77, 78, 79] (by decide +kernel) (by decide +kernel)
set_option maxRecDepth 20000 in
theorem gX5_refund_X5_can : GoodIn wsX5_refund (wsV RX5 73 RX5 yX5_can wsX5_can) := goodIn_app (goodIn_of _ (by decide +kernel)) ggX5_refund_X5_can
set_option maxRecDepth 20000 in
theorem ggX5_refund_X5_tax : GoodIn wsX5_refund wsX5_tax := goodIn_r _ [30, 31, 19, 32, 33, 34, 35, 4, 36, 37, 14, 38, 39, 40, 41, 42, 43, 44, 45, 46, 47, 48, 49, 50, 51, 52, 20, 59, 60, 61, 62, 63, 64, 65, 66, 67, 68, 69, 70, 71, 72, 73, 74, 75, 76, 77, 78, 79] (by decide +kernel) (by decide +kernel)
set_option maxRecDepth 20000 in
theorem gX5_refund_X5_tax : GoodIn wsX5_refund (wsV RX5 116 RX5 yX5_tax wsX5_tax) := goodIn_app (goodIn_of _ (by decide +kernel)) ggX5_refund_X5_tax
set_option maxRecDepth 20000 in
theorem ggX5_refund_X5_gives : GoodIn wsX5_refund wsX5_gives := goodIn_r _ [56, 57, 58, 59, 60, 61, 62, 63, 64, 65, 66, 67, 68, 69, 70, 71, 72, 73, 74, 75, 76, 77, 78, 79] (by decide +kernel) (by decide +kernel)
set_option maxRecDepth 20000 in
theorem gX5_refund_X5_gives : GoodIn wsX5_refund (wsV RX5 133 RX5 yX5_gives wsX5_gives) := goodIn_app (goodIn_of _ (by decide +kernel)) ggX5_refund_X5_gives
theorem dX5_refund_0 : decode cX5_refund 0 = .ok (.aload_n 0, 1) := by decide +kernel
theorem dX5_refund_1 : decode cX5_refund 1 = .ok (.aload_n 0, 1) := by decide +kernel
theorem dX5_refund_2 : decode cX5_refund 2 = .ok (.iload_n 1, 1) := by decide +kernel
theorem dX5_refund_3 : decode cX5_refund 3 = .ok (.invokevirtual 119, 3) := by decide +kernel
theorem dX5_refund_6 : decode cX5_refund 6 = .ok (.ifCond .eq 11, 3) := by decide +kernel
theorem dX5_refund_9 : decode cX5_refund 9 = .ok (.aload_n 0, 1) := by decide +kernel
theorem dX5_refund_10 : decode cX5_refund 10 = .ok (.iload_n 2, 1) := by decide +kernel
theorem dX5_refund_11 : decode cX5_refund 11 = .ok (.invokevirtual 77, 3) := by decide +kernel
theorem dX5_refund_14 : decode cX5_refund 14 = .ok (.ifCond .ne 7, 3) := by decide +kernel
theorem dX5_refund_17 : decode cX5_refund 17 = .ok (.iconst 1, 1) := by decide +kernel
theorem dX5_refund_18 : decode cX5_refund 18 = .ok (.goto 19, 3) := by decide +kernel
theorem dX5_refund_21 : decode cX5_refund 21 = .ok (.aload_n 0, 1) := by decide +kernel
theorem dX5_refund_22 : decode cX5_refund 22 = .ok (.iload_n 1, 1) := by decide +kernel
theorem dX5_refund_23 : decode cX5_refund 23 = .ok (.iload_n 2, 1) := by decide +kernel
theorem dX5_refund_24 : decode cX5_refund 24 = .ok (.bipush 60, 2) := by decide +kernel
theorem dX5_refund_26 : decode cX5_refund 26 = .ok (.invokevirtual 130, 3) := by decide +kernel
theorem dX5_refund_29 : decode cX5_refund 29 = .ok (.ifCond .eq 7, 3) := by decide +kernel
theorem dX5_refund_32 : decode cX5_refund 32 = .ok (.iconst 2, 1) := by decide +kernel
theorem dX5_refund_33 : decode cX5_refund 33 = .ok (.goto 4, 3) := by decide +kernel
theorem dX5_refund_36 : decode cX5_refund 36 = .ok (.iconst 0, 1) := by decide +kernel
theorem dX5_refund_37 : decode cX5_refund 37 = .ok (.invokevirtual 73, 3) := by decide +kernel
theorem dX5_refund_40 : decode cX5_refund 40 = .ok (.ifCond .ne 5, 3) := by decide +kernel
theorem dX5_refund_43 : decode cX5_refund 43 = .ok (.iconst 0, 1) := by decide +kernel
theorem dX5_refund_44 : decode cX5_refund 44 = .ok (.ireturn, 1) := by decide +kernel
theorem dX5_refund_45 : decode cX5_refund 45 = .ok (.aload_n 0, 1) := by decide +kernel
theorem dX5_refund_46 : decode cX5_refund 46 = .ok (.iload_n 1, 1) := by decide +kernel
theorem dX5_refund_47 : decode cX5_refund 47 = .ok (.iload_n 2, 1) := by decide +kernel
theorem dX5_refund_48 : decode cX5_refund 48 = .ok (.aload_n 0, 1) := by decide +kernel
theorem dX5_refund_49 : decode cX5_refund 49 = .ok (.iload_n 1, 1) := by decide +kernel
theorem dX5_refund_50 : decode cX5_refund 50 = .ok (.iload_n 2, 1) := by decide +kernel
theorem dX5_refund_51 : decode cX5_refund 51 = .ok (.iconst 1, 1) := by decide +kernel
theorem dX5_refund_52 : decode cX5_refund 52 = .ok (.iconst 0, 1) := by decide +kernel
theorem dX5_refund_53 : decode cX5_refund 53 = .ok (.invokevirtual 116, 3) := by decide +kernel
theorem dX5_refund_56 : decode cX5_refund 56 = .ok (.invokevirtual 133, 3) := by decide +kernel
theorem dX5_refund_59 : decode cX5_refund 59 = .ok (.ireturn, 1) := by decide +kernel
set_option maxRecDepth 20000 in
theorem ggX5_claim_X5_isDividend : GoodIn wsX5_claim wsX5_isDividend := goodIn_r _ [6, 7, 8, 9, 5, 10, 39, 40, 41, 42, 43, 44, 45, 46, 47, 48, 49, 50, 51, 52, 53, 54, 55, 56, 57, 58, 59] (by decide +kernel) (by decide +kernel)
set_option maxRecDepth 20000 in
theorem gX5_claim_X5_isDividend : GoodIn wsX5_claim (wsV RX5 119 RX5 yX5_isDividend wsX5_isDividend) := goodIn_app (goodIn_of _ (by decide +kernel)) ggX5_claim_X5_isDividend
set_option maxRecDepth 20000 in
theorem ggX5_claim_X5_isHolder : GoodIn wsX5_claim wsX5_isHolder := goodIn_r _ [14, 15, 8, 9, 5, 10, 39, 40, 41, 42, 43, 44, 45, 46, 47, 48, 49, 50, 51, 52, 53, 54, 55, 56, 57, 58, 59] (by decide +kernel) (by decide +kernel)
set_option maxRecDepth 20000 in
theorem gX5_claim_X5_isHolder : GoodIn wsX5_claim (wsV RX5 77 RX5 yX5_isHolder wsX5_isHolder) := goodIn_app (goodIn_of _ (by decide +kernel)) ggX5_claim_X5_isHolder
set_option maxRecDepth 20000 in
theorem ggX5_claim_X5_isOver : GoodIn wsX5_claim wsX5_isOver := goodIn_r _ [19, 20, 21, 22, 39, 40, 41, 42, 43, 44, 45, 46, 47, 48, 49, 50, 51, 52, 53, 54, 55, 56, 57, 58, 59] (by decide +kernel) (by decide +kernel)
set_option maxRecDepth 20000 in
theorem gX5_claim_X5_isOver : GoodIn wsX5_claim (wsV RX5 130 RX5 yX5_isOver wsX5_isOver) := goodIn_app (goodIn_of _ (by decide +kernel)) ggX5_claim_X5_isOver
set_option maxRecDepth 20000 in
theorem ggX5_claim_X5_hasForm : GoodIn wsX5_claim wsX5_hasForm := goodIn_r _ [26, 27, 21, 39, 40, 41, 42, 43, 44, 45, 46, 47, 48, 49, 50, 51, 52, 53, 54, 55, 56, 57, 58, 59] (by decide +kernel) (by decide +kernel)
set_option maxRecDepth 20000 in
theorem gX5_claim_X5_hasForm : GoodIn wsX5_claim (wsV RX5 92 RX5 yX5_hasForm wsX5_hasForm) := goodIn_app (goodIn_of _ (by decide +kernel)) ggX5_claim_X5_hasForm
set_option maxRecDepth 20000 in
theorem ggX5_claim_X5_can : GoodIn wsX5_claim wsX5_can := goodIn_r _ [31, 32, 39, 40, 41, 42, 43, 44, 45, 46, 47, 48, 49, 50, 51, 52, 53, 54, 55, 56, 57, 58, 59] (by decide +kernel) (by decide +kernel)
set_option maxRecDepth 20000 in
theorem gX5_claim_X5_can : GoodIn wsX5_claim (wsV RX5 73 RX5 yX5_can wsX5_can) := goodIn_app (goodIn_of _ (by decide +kernel)) ggX5_claim_X5_can
set_option maxRecDepth 20000 in
theorem ggX5_claim_X5_gives : GoodIn wsX5_claim wsX5_gives := goodIn_r _ [36, 37, 38, 39, 40, 41, 42, 43, 44, 45, 46, 47, 48, 49, 50, 51, 52, 53, 54, 55, 56, 57, 58, 59] (by decide +kernel) (by decide +kernel)
set_option maxRecDepth 20000 in
theorem gX5_claim_X5_gives : GoodIn wsX5_claim (wsV RX5 133 RX5 yX5_gives wsX5_gives) := goodIn_app (goodIn_of _ (by decide +kernel)) ggX5_claim_X5_gives
theorem dX5_claim_0 : decode cX5_claim 0 = .ok (.aload_n 0, 1) := by decide +kernel
theorem dX5_claim_1 : decode cX5_claim 1 = .ok (.aload_n 0, 1) := by decide +kernel
theorem dX5_claim_2 : decode cX5_claim 2 = .ok (.iload_n 1, 1) := by decide +kernel
theorem dX5_claim_3 : decode cX5_claim 3 = .ok (.invokevirtual 119, 3) := by decide +kernel
theorem dX5_claim_6 : decode cX5_claim 6 = .ok (.ifCond .eq 11, 3) := by decide +kernel
theorem dX5_claim_9 : decode cX5_claim 9 = .ok (.aload_n 0, 1) := by decide +kernel
theorem dX5_claim_10 : decode cX5_claim 10 = .ok (.iload_n 2, 1) := by decide +kernel
theorem dX5_claim_11 : decode cX5_claim 11 = .ok (.invokevirtual 77, 3) := by decide +kernel
theorem dX5_claim_14 : decode cX5_claim 14 = .ok (.ifCond .ne 7, 3) := by decide +kernel
theorem dX5_claim_17 : decode cX5_claim 17 = .ok (.iconst 1, 1) := by decide +kernel
theorem dX5_claim_18 : decode cX5_claim 18 = .ok (.goto 28, 3) := by decide +kernel
theorem dX5_claim_21 : decode cX5_claim 21 = .ok (.aload_n 0, 1) := by decide +kernel
theorem dX5_claim_22 : decode cX5_claim 22 = .ok (.iload_n 1, 1) := by decide +kernel
theorem dX5_claim_23 : decode cX5_claim 23 = .ok (.iload_n 2, 1) := by decide +kernel
theorem dX5_claim_24 : decode cX5_claim 24 = .ok (.sipush 1080, 3) := by decide +kernel
theorem dX5_claim_27 : decode cX5_claim 27 = .ok (.invokevirtual 130, 3) := by decide +kernel
theorem dX5_claim_30 : decode cX5_claim 30 = .ok (.ifCond .ne 11, 3) := by decide +kernel
theorem dX5_claim_33 : decode cX5_claim 33 = .ok (.aload_n 0, 1) := by decide +kernel
theorem dX5_claim_34 : decode cX5_claim 34 = .ok (.iload_n 2, 1) := by decide +kernel
theorem dX5_claim_35 : decode cX5_claim 35 = .ok (.invokevirtual 92, 3) := by decide +kernel
theorem dX5_claim_38 : decode cX5_claim 38 = .ok (.ifCond .ne 7, 3) := by decide +kernel
theorem dX5_claim_41 : decode cX5_claim 41 = .ok (.iconst 2, 1) := by decide +kernel
theorem dX5_claim_42 : decode cX5_claim 42 = .ok (.goto 4, 3) := by decide +kernel
theorem dX5_claim_45 : decode cX5_claim 45 = .ok (.iconst 0, 1) := by decide +kernel
theorem dX5_claim_46 : decode cX5_claim 46 = .ok (.invokevirtual 73, 3) := by decide +kernel
theorem dX5_claim_49 : decode cX5_claim 49 = .ok (.ifCond .ne 5, 3) := by decide +kernel
theorem dX5_claim_52 : decode cX5_claim 52 = .ok (.iconst 0, 1) := by decide +kernel
theorem dX5_claim_53 : decode cX5_claim 53 = .ok (.ireturn, 1) := by decide +kernel
theorem dX5_claim_54 : decode cX5_claim 54 = .ok (.aload_n 0, 1) := by decide +kernel
theorem dX5_claim_55 : decode cX5_claim 55 = .ok (.iload_n 1, 1) := by decide +kernel
theorem dX5_claim_56 : decode cX5_claim 56 = .ok (.iload_n 2, 1) := by decide +kernel
theorem dX5_claim_57 : decode cX5_claim 57 = .ok (.aload_n 0, 1) := by decide +kernel
theorem dX5_claim_58 : decode cX5_claim 58 = .ok (.getfield 43, 3) := by decide +kernel
theorem dX5_claim_61 : decode cX5_claim 61 = .ok (.bipush 20, 2) := by decide +kernel
theorem dX5_claim_63 : decode cX5_claim 63 = .ok (.iload_n 1, 1) := by decide +kernel
theorem dX5_claim_64 : decode cX5_claim 64 = .ok (.imul, 1) := by decide +kernel
theorem dX5_claim_65 : decode cX5_claim 65 = .ok (.iload_n 2, 1) := by decide +kernel
theorem dX5_claim_66 : decode cX5_claim 66 = .ok (.iadd, 1) := by decide +kernel
theorem dX5_claim_67 : decode cX5_claim 67 = .ok (.iaload, 1) := by decide +kernel
theorem dX5_claim_68 : decode cX5_claim 68 = .ok (.invokevirtual 133, 3) := by decide +kernel
theorem dX5_claim_71 : decode cX5_claim 71 = .ok (.ireturn, 1) := by decide +kernel
theorem dJ9_max_7cf53_0 : decode cJ9_max_7cf53 0 = .ok (.iload_n 0, 1) := by decide +kernel
theorem dJ9_max_7cf53_1 : decode cJ9_max_7cf53 1 = .ok (.iload_n 1, 1) := by decide +kernel
theorem dJ9_max_7cf53_2 : decode cJ9_max_7cf53 2 = .ok (.if_icmp .lt 7, 3) := by decide +kernel
theorem dJ9_max_7cf53_5 : decode cJ9_max_7cf53 5 = .ok (.iload_n 0, 1) := by decide +kernel
theorem dJ9_max_7cf53_6 : decode cJ9_max_7cf53 6 = .ok (.goto 4, 3) := by decide +kernel
theorem dJ9_max_7cf53_9 : decode cJ9_max_7cf53 9 = .ok (.iload_n 1, 1) := by decide +kernel
theorem dJ9_max_7cf53_10 : decode cJ9_max_7cf53 10 = .ok (.ireturn, 1) := by decide +kernel
theorem dJ9_min_7cf53_0 : decode cJ9_min_7cf53 0 = .ok (.iload_n 0, 1) := by decide +kernel
theorem dJ9_min_7cf53_1 : decode cJ9_min_7cf53 1 = .ok (.iload_n 1, 1) := by decide +kernel
theorem dJ9_min_7cf53_2 : decode cJ9_min_7cf53 2 = .ok (.if_icmp .gt 7, 3) := by decide +kernel
theorem dJ9_min_7cf53_5 : decode cJ9_min_7cf53 5 = .ok (.iload_n 0, 1) := by decide +kernel
theorem dJ9_min_7cf53_6 : decode cJ9_min_7cf53 6 = .ok (.goto 4, 3) := by decide +kernel
theorem dJ9_min_7cf53_9 : decode cJ9_min_7cf53 9 = .ok (.iload_n 1, 1) := by decide +kernel
theorem dJ9_min_7cf53_10 : decode cJ9_min_7cf53 10 = .ok (.ireturn, 1) := by decide +kernel
theorem dJxa1e45_init_da8c8_0 : decode cJxa1e45_init_da8c8 0 = .ok (.aload_n 0, 1) := by decide +kernel
theorem dJxa1e45_init_da8c8_1 : decode cJxa1e45_init_da8c8 1 = .ok (.invokespecial 1, 3) := by decide +kernel
theorem dJxa1e45_init_da8c8_4 : decode cJxa1e45_init_da8c8 4 = .ok (.return_, 1) := by decide +kernel
set_option maxRecDepth 20000 in
theorem ggJxc12de_init_da8c8_Jxa1e45_init_da8c8 : GoodIn wsJxc12de_init_da8c8 wsJxa1e45_init_da8c8 := goodIn_r _ [5, 6, 7, 8] (by decide +kernel) (by decide +kernel)
set_option maxRecDepth 20000 in
theorem gJxc12de_init_da8c8_Jxa1e45_init_da8c8 : GoodIn wsJxc12de_init_da8c8 (wsJxa1e45_init_da8c8) := ggJxc12de_init_da8c8_Jxa1e45_init_da8c8
theorem dJxc12de_init_da8c8_0 : decode cJxc12de_init_da8c8 0 = .ok (.aload_n 0, 1) := by decide +kernel
theorem dJxc12de_init_da8c8_1 : decode cJxc12de_init_da8c8 1 = .ok (.invokespecial 1, 3) := by decide +kernel
theorem dJxc12de_init_da8c8_4 : decode cJxc12de_init_da8c8 4 = .ok (.aload_n 0, 1) := by decide +kernel
theorem dJxc12de_init_da8c8_5 : decode cJxc12de_init_da8c8 5 = .ok (.iconst 0, 1) := by decide +kernel
theorem dJxc12de_init_da8c8_6 : decode cJxc12de_init_da8c8 6 = .ok (.putfield 7, 3) := by decide +kernel
theorem dJxc12de_init_da8c8_9 : decode cJxc12de_init_da8c8 9 = .ok (.return_, 1) := by decide +kernel
set_option maxRecDepth 20000 in
theorem ggJx4a65c_init_da8c8_Jxc12de_init_da8c8 : GoodIn wsJx4a65c_init_da8c8 wsJxc12de_init_da8c8 := goodIn_r _ [6, 7, 8, 9, 10, 11, 12, 13, 14, 15, 16, 17] (by decide +kernel) (by decide +kernel)
set_option maxRecDepth 20000 in
theorem gJx4a65c_init_da8c8_Jxc12de_init_da8c8 : GoodIn wsJx4a65c_init_da8c8 (wsJxc12de_init_da8c8) := ggJx4a65c_init_da8c8_Jxc12de_init_da8c8
theorem dJx4a65c_init_da8c8_0 : decode cJx4a65c_init_da8c8 0 = .ok (.aload_n 0, 1) := by decide +kernel
theorem dJx4a65c_init_da8c8_1 : decode cJx4a65c_init_da8c8 1 = .ok (.invokespecial 1, 3) := by decide +kernel
theorem dJx4a65c_init_da8c8_4 : decode cJx4a65c_init_da8c8 4 = .ok (.aload_n 0, 1) := by decide +kernel
theorem dJx4a65c_init_da8c8_5 : decode cJx4a65c_init_da8c8 5 = .ok (.getstatic 39, 3) := by decide +kernel
theorem dJx4a65c_init_da8c8_8 : decode cJx4a65c_init_da8c8 8 = .ok (.putfield 9, 3) := by decide +kernel
theorem dJx4a65c_init_da8c8_11 : decode cJx4a65c_init_da8c8 11 = .ok (.return_, 1) := by decide +kernel
set_option maxRecDepth 20000 in
theorem ggJx4a65c_grow_92f84_J8_newLength_cabcc : GoodIn wsJx4a65c_grow_92f84 wsJ8_newLength_cabcc := goodIn_r _ [11, 12, 4, 5, 6, 13, 14, 15, 10, 16] (by decide +kernel) (by decide +kernel)
set_option maxRecDepth 20000 in
theorem gJx4a65c_grow_92f84_J8_newLength_cabcc : GoodIn wsJx4a65c_grow_92f84 (va_wsS RJx4a65c 73 yJ8_newLength_cabcc wsJ8_newLength_cabcc) := goodIn_app (goodIn_of _ (by decide +kernel)) ggJx4a65c_grow_92f84_J8_newLength_cabcc
set_option maxRecDepth 20000 in
theorem ggJx4a65c_grow_92f84_J7_copyOf_1904c : GoodIn wsJx4a65c_grow_92f84 wsJ7_copyOf_1904c := goodIn_r _ [20, 21, 22, 23, 24, 25, 26, 19, 27, 28, 29, 30, 31, 5, 32, 33, 34, 35, 36] (by decide +kernel) (by decide +kernel)
set_option maxRecDepth 20000 in
theorem gJx4a65c_grow_92f84_J7_copyOf_1904c : GoodIn wsJx4a65c_grow_92f84 (va_wsS RJx4a65c 66 yJ7_copyOf_1904c wsJ7_copyOf_1904c) := goodIn_app (goodIn_of _ (by decide +kernel)) ggJx4a65c_grow_92f84_J7_copyOf_1904c
theorem dJx4a65c_grow_92f84_0 : decode cJx4a65c_grow_92f84 0 = .ok (.aload_n 0, 1) := by decide +kernel
theorem dJx4a65c_grow_92f84_1 : decode cJx4a65c_grow_92f84 1 = .ok (.getfield 9, 3) := by decide +kernel
theorem dJx4a65c_grow_92f84_4 : decode cJx4a65c_grow_92f84 4 = .ok (.arraylength, 1) := by decide +kernel
theorem dJx4a65c_grow_92f84_5 : decode cJx4a65c_grow_92f84 5 = .ok (.istore_n 2, 1) := by decide +kernel
theorem dJx4a65c_grow_92f84_6 : decode cJx4a65c_grow_92f84 6 = .ok (.iload_n 2, 1) := by decide +kernel
theorem dJx4a65c_grow_92f84_7 : decode cJx4a65c_grow_92f84 7 = .ok (.ifCond .gt 13, 3) := by decide +kernel
theorem dJx4a65c_grow_92f84_10 : decode cJx4a65c_grow_92f84 10 = .ok (.aload_n 0, 1) := by decide +kernel
theorem dJx4a65c_grow_92f84_11 : decode cJx4a65c_grow_92f84 11 = .ok (.getfield 9, 3) := by decide +kernel
theorem dJx4a65c_grow_92f84_14 : decode cJx4a65c_grow_92f84 14 = .ok (.getstatic 39, 3) := by decide +kernel
theorem dJx4a65c_grow_92f84_17 : decode cJx4a65c_grow_92f84 17 = .ok (.if_acmp .eq 28, 3) := by decide +kernel
theorem dJx4a65c_grow_92f84_20 : decode cJx4a65c_grow_92f84 20 = .ok (.iload_n 2, 1) := by decide +kernel
theorem dJx4a65c_grow_92f84_21 : decode cJx4a65c_grow_92f84 21 = .ok (.iload_n 1, 1) := by decide +kernel
theorem dJx4a65c_grow_92f84_22 : decode cJx4a65c_grow_92f84 22 = .ok (.iload_n 2, 1) := by decide +kernel
theorem dJx4a65c_grow_92f84_23 : decode cJx4a65c_grow_92f84 23 = .ok (.isub, 1) := by decide +kernel
theorem dJx4a65c_grow_92f84_24 : decode cJx4a65c_grow_92f84 24 = .ok (.iload_n 2, 1) := by decide +kernel
theorem dJx4a65c_grow_92f84_25 : decode cJx4a65c_grow_92f84 25 = .ok (.iconst 1, 1) := by decide +kernel
theorem dJx4a65c_grow_92f84_26 : decode cJx4a65c_grow_92f84 26 = .ok (.ishr, 1) := by decide +kernel
theorem dJx4a65c_grow_92f84_27 : decode cJx4a65c_grow_92f84 27 = .ok (.invokestatic 73, 3) := by decide +kernel
theorem dJx4a65c_grow_92f84_30 : decode cJx4a65c_grow_92f84 30 = .ok (.istore_n 3, 1) := by decide +kernel
theorem dJx4a65c_grow_92f84_31 : decode cJx4a65c_grow_92f84 31 = .ok (.aload_n 0, 1) := by decide +kernel
theorem dJx4a65c_grow_92f84_32 : decode cJx4a65c_grow_92f84 32 = .ok (.aload_n 0, 1) := by decide +kernel
theorem dJx4a65c_grow_92f84_33 : decode cJx4a65c_grow_92f84 33 = .ok (.getfield 9, 3) := by decide +kernel
theorem dJx4a65c_grow_92f84_36 : decode cJx4a65c_grow_92f84 36 = .ok (.iload_n 3, 1) := by decide +kernel
theorem dJx4a65c_grow_92f84_37 : decode cJx4a65c_grow_92f84 37 = .ok (.invokestatic 66, 3) := by decide +kernel
theorem dJx4a65c_grow_92f84_40 : decode cJx4a65c_grow_92f84 40 = .ok (.dup_x1, 1) := by decide +kernel
theorem dJx4a65c_grow_92f84_41 : decode cJx4a65c_grow_92f84 41 = .ok (.putfield 9, 3) := by decide +kernel
theorem dJx4a65c_grow_92f84_44 : decode cJx4a65c_grow_92f84 44 = .ok (.areturn, 1) := by decide +kernel
theorem dJx4a65c_grow_92f84_45 : decode cJx4a65c_grow_92f84 45 = .ok (.aload_n 0, 1) := by decide +kernel
theorem dJx4a65c_grow_92f84_46 : decode cJx4a65c_grow_92f84 46 = .ok (.bipush 10, 2) := by decide +kernel
theorem dJx4a65c_grow_92f84_48 : decode cJx4a65c_grow_92f84 48 = .ok (.iload_n 1, 1) := by decide +kernel
theorem dJx4a65c_grow_92f84_49 : decode cJx4a65c_grow_92f84 49 = .ok (.invokestatic 79, 3) := by decide +kernel
theorem dJx4a65c_grow_92f84_52 : decode cJx4a65c_grow_92f84 52 = .ok (.anewarray 7, 3) := by decide +kernel
theorem dJx4a65c_grow_92f84_55 : decode cJx4a65c_grow_92f84 55 = .ok (.dup_x1, 1) := by decide +kernel
theorem dJx4a65c_grow_92f84_56 : decode cJx4a65c_grow_92f84 56 = .ok (.putfield 9, 3) := by decide +kernel
theorem dJx4a65c_grow_92f84_59 : decode cJx4a65c_grow_92f84 59 = .ok (.areturn, 1) := by decide +kernel
set_option maxRecDepth 20000 in
theorem ggJx4a65c_grow_d5877_Jx4a65c_grow_92f84 : GoodIn wsJx4a65c_grow_d5877 wsJx4a65c_grow_92f84 := goodIn_r _ [6, 7, 8, 9, 10, 11, 12, 13, 14, 15, 16, 17, 18, 19, 20, 21, 22, 23, 24, 25, 26, 27, 28, 29, 30, 31, 32, 33, 34, 35, 36, 37, 38, 39, 40, 41, 42, 43, 44, 45] (by decide +kernel) (by decide +kernel)
set_option maxRecDepth 20000 in
theorem gJx4a65c_grow_d5877_Jx4a65c_grow_92f84 : GoodIn wsJx4a65c_grow_d5877 (wsV RJx4a65c 69 RJx4a65c yJx4a65c_grow_92f84 wsJx4a65c_grow_92f84) := goodIn_app (goodIn_of _ (by decide +kernel)) ggJx4a65c_grow_d5877_Jx4a65c_grow_92f84
theorem dJx4a65c_grow_d5877_0 : decode cJx4a65c_grow_d5877 0 = .ok (.aload_n 0, 1) := by decide +kernel
theorem dJx4a65c_grow_d5877_1 : decode cJx4a65c_grow_d5877 1 = .ok (.aload_n 0, 1) := by decide +kernel
theorem dJx4a65c_grow_d5877_2 : decode cJx4a65c_grow_d5877 2 = .ok (.getfield 48, 3) := by decide +kernel
theorem dJx4a65c_grow_d5877_5 : decode cJx4a65c_grow_d5877 5 = .ok (.iconst 1, 1) := by decide +kernel
theorem dJx4a65c_grow_d5877_6 : decode cJx4a65c_grow_d5877 6 = .ok (.iadd, 1) := by decide +kernel
theorem dJx4a65c_grow_d5877_7 : decode cJx4a65c_grow_d5877 7 = .ok (.invokevirtual 69, 3) := by decide +kernel
theorem dJx4a65c_grow_d5877_10 : decode cJx4a65c_grow_d5877 10 = .ok (.areturn, 1) := by decide +kernel
theorem dJx4a65c_size_8abf5_0 : decode cJx4a65c_size_8abf5 0 = .ok (.aload_n 0, 1) := by decide +kernel
theorem dJx4a65c_size_8abf5_1 : decode cJx4a65c_size_8abf5 1 = .ok (.getfield 48, 3) := by decide +kernel
theorem dJx4a65c_size_8abf5_4 : decode cJx4a65c_size_8abf5 4 = .ok (.ireturn, 1) := by decide +kernel
theorem dJx4a65c_elementData_915e3_0 : decode cJx4a65c_elementData_915e3 0 = .ok (.aload_n 0, 1) := by decide +kernel
theorem dJx4a65c_elementData_915e3_1 : decode cJx4a65c_elementData_915e3 1 = .ok (.getfield 9, 3) := by decide +kernel
theorem dJx4a65c_elementData_915e3_4 : decode cJx4a65c_elementData_915e3 4 = .ok (.iload_n 1, 1) := by decide +kernel
theorem dJx4a65c_elementData_915e3_5 : decode cJx4a65c_elementData_915e3 5 = .ok (.aaload, 1) := by decide +kernel
theorem dJx4a65c_elementData_915e3_6 : decode cJx4a65c_elementData_915e3 6 = .ok (.areturn, 1) := by decide +kernel
set_option maxRecDepth 20000 in
theorem ggJx4a65c_get_915e3_J15_checkIndex_7cf53 : GoodIn wsJx4a65c_get_915e3 wsJ15_checkIndex_7cf53 := goodIn_r _ [5, 6, 7, 8, 9] (by decide +kernel) (by decide +kernel)
set_option maxRecDepth 20000 in
theorem gJx4a65c_get_915e3_J15_checkIndex_7cf53 : GoodIn wsJx4a65c_get_915e3 (va_wsS RJx4a65c 118 yJ15_checkIndex_7cf53 wsJ15_checkIndex_7cf53) := goodIn_app (goodIn_of _ (by decide +kernel)) ggJx4a65c_get_915e3_J15_checkIndex_7cf53
set_option maxRecDepth 20000 in
theorem ggJx4a65c_get_915e3_Jx4a65c_elementData_915e3 : GoodIn wsJx4a65c_get_915e3 wsJx4a65c_elementData_915e3 := goodIn_r _ [14, 15, 16, 17, 18] (by decide +kernel) (by decide +kernel)
set_option maxRecDepth 20000 in
theorem gJx4a65c_get_915e3_Jx4a65c_elementData_915e3 : GoodIn wsJx4a65c_get_915e3 (wsV RJx4a65c 123 RJx4a65c yJx4a65c_elementData_915e3 wsJx4a65c_elementData_915e3) := goodIn_app (goodIn_of _ (by decide +kernel)) ggJx4a65c_get_915e3_Jx4a65c_elementData_915e3
theorem dJx4a65c_get_915e3_0 : decode cJx4a65c_get_915e3 0 = .ok (.iload_n 1, 1) := by decide +kernel
theorem dJx4a65c_get_915e3_1 : decode cJx4a65c_get_915e3 1 = .ok (.aload_n 0, 1) := by decide +kernel
theorem dJx4a65c_get_915e3_2 : decode cJx4a65c_get_915e3 2 = .ok (.getfield 48, 3) := by decide +kernel
theorem dJx4a65c_get_915e3_5 : decode cJx4a65c_get_915e3 5 = .ok (.invokestatic 118, 3) := by decide +kernel
theorem dJx4a65c_get_915e3_8 : decode cJx4a65c_get_915e3 8 = .ok (.pop, 1) := by decide +kernel
theorem dJx4a65c_get_915e3_9 : decode cJx4a65c_get_915e3 9 = .ok (.aload_n 0, 1) := by decide +kernel
theorem dJx4a65c_get_915e3_10 : decode cJx4a65c_get_915e3 10 = .ok (.iload_n 1, 1) := by decide +kernel
theorem dJx4a65c_get_915e3_11 : decode cJx4a65c_get_915e3 11 = .ok (.invokevirtual 123, 3) := by decide +kernel
theorem dJx4a65c_get_915e3_14 : decode cJx4a65c_get_915e3 14 = .ok (.areturn, 1) := by decide +kernel
set_option maxRecDepth 20000 in
theorem ggJx4a65c_add_72be8_Jx4a65c_grow_d5877 : GoodIn wsJx4a65c_add_72be8 wsJx4a65c_grow_d5877 := goodIn_r _ [6, 1, 7, 8, 9, 5, 10, 11, 12, 13, 14, 15, 16, 17, 18, 19, 20, 21, 22, 23, 24, 25, 26, 27, 28, 29, 30, 31, 32, 33, 34, 35, 36, 37, 38, 39, 40, 41, 42, 43, 44, 45, 46, 47, 48, 49] (by decide +kernel) (by decide +kernel)
set_option maxRecDepth 20000 in
theorem gJx4a65c_add_72be8_Jx4a65c_grow_d5877 : GoodIn wsJx4a65c_add_72be8 (wsV RJx4a65c 129 RJx4a65c yJx4a65c_grow_d5877 wsJx4a65c_grow_d5877) := goodIn_app (goodIn_of _ (by decide +kernel)) ggJx4a65c_add_72be8_Jx4a65c_grow_d5877
theorem dJx4a65c_add_72be8_0 : decode cJx4a65c_add_72be8 0 = .ok (.iload_n 3, 1) := by decide +kernel
theorem dJx4a65c_add_72be8_1 : decode cJx4a65c_add_72be8 1 = .ok (.aload_n 2, 1) := by decide +kernel
theorem dJx4a65c_add_72be8_2 : decode cJx4a65c_add_72be8 2 = .ok (.arraylength, 1) := by decide +kernel
theorem dJx4a65c_add_72be8_3 : decode cJx4a65c_add_72be8 3 = .ok (.if_icmp .ne 8, 3) := by decide +kernel
theorem dJx4a65c_add_72be8_6 : decode cJx4a65c_add_72be8 6 = .ok (.aload_n 0, 1) := by decide +kernel
theorem dJx4a65c_add_72be8_7 : decode cJx4a65c_add_72be8 7 = .ok (.invokevirtual 129, 3) := by decide +kernel
theorem dJx4a65c_add_72be8_10 : decode cJx4a65c_add_72be8 10 = .ok (.astore_n 2, 1) := by decide +kernel
theorem dJx4a65c_add_72be8_11 : decode cJx4a65c_add_72be8 11 = .ok (.aload_n 2, 1) := by decide +kernel
theorem dJx4a65c_add_72be8_12 : decode cJx4a65c_add_72be8 12 = .ok (.iload_n 3, 1) := by decide +kernel
theorem dJx4a65c_add_72be8_13 : decode cJx4a65c_add_72be8 13 = .ok (.aload_n 1, 1) := by decide +kernel
theorem dJx4a65c_add_72be8_14 : decode cJx4a65c_add_72be8 14 = .ok (.aastore, 1) := by decide +kernel
theorem dJx4a65c_add_72be8_15 : decode cJx4a65c_add_72be8 15 = .ok (.aload_n 0, 1) := by decide +kernel
theorem dJx4a65c_add_72be8_16 : decode cJx4a65c_add_72be8 16 = .ok (.iload_n 3, 1) := by decide +kernel
theorem dJx4a65c_add_72be8_17 : decode cJx4a65c_add_72be8 17 = .ok (.iconst 1, 1) := by decide +kernel
theorem dJx4a65c_add_72be8_18 : decode cJx4a65c_add_72be8 18 = .ok (.iadd, 1) := by decide +kernel
theorem dJx4a65c_add_72be8_19 : decode cJx4a65c_add_72be8 19 = .ok (.putfield 48, 3) := by decide +kernel
theorem dJx4a65c_add_72be8_22 : decode cJx4a65c_add_72be8 22 = .ok (.return_, 1) := by decide +kernel
set_option maxRecDepth 20000 in
theorem ggJx4a65c_add_9ea2d_Jx4a65c_add_72be8 : GoodIn wsJx4a65c_add_9ea2d wsJx4a65c_add_72be8 := goodIn_r _ [9, 4, 10, 11, 12, 8, 13, 14, 15, 16, 17, 3, 18, 19, 20, 21, 22, 23, 24, 25, 26, 27, 28, 29, 30, 31, 32, 33, 34, 35, 36, 37, 38, 39, 40, 41, 42, 43, 44, 45, 46, 47, 48, 49, 50, 51, 52, 53, 54, 55] (by decide +kernel) (by decide +kernel)
set_option maxRecDepth 20000 in
theorem gJx4a65c_add_9ea2d_Jx4a65c_add_72be8 : GoodIn wsJx4a65c_add_9ea2d (wsV RJx4a65c 131 RJx4a65c yJx4a65c_add_72be8 wsJx4a65c_add_72be8) := goodIn_app (goodIn_of _ (by decide +kernel)) ggJx4a65c_add_9ea2d_Jx4a65c_add_72be8
theorem dJx4a65c_add_9ea2d_0 : decode cJx4a65c_add_9ea2d 0 = .ok (.aload_n 0, 1) := by decide +kernel
theorem dJx4a65c_add_9ea2d_1 : decode cJx4a65c_add_9ea2d 1 = .ok (.dup, 1) := by decide +kernel
theorem dJx4a65c_add_9ea2d_2 : decode cJx4a65c_add_9ea2d 2 = .ok (.getfield 63, 3) := by decide +kernel
theorem dJx4a65c_add_9ea2d_5 : decode cJx4a65c_add_9ea2d 5 = .ok (.iconst 1, 1) := by decide +kernel
theorem dJx4a65c_add_9ea2d_6 : decode cJx4a65c_add_9ea2d 6 = .ok (.iadd, 1) := by decide +kernel
theorem dJx4a65c_add_9ea2d_7 : decode cJx4a65c_add_9ea2d 7 = .ok (.putfield 63, 3) := by decide +kernel
theorem dJx4a65c_add_9ea2d_10 : decode cJx4a65c_add_9ea2d 10 = .ok (.aload_n 0, 1) := by decide +kernel
theorem dJx4a65c_add_9ea2d_11 : decode cJx4a65c_add_9ea2d 11 = .ok (.aload_n 1, 1) := by decide +kernel
theorem dJx4a65c_add_9ea2d_12 : decode cJx4a65c_add_9ea2d 12 = .ok (.aload_n 0, 1) := by decide +kernel
theorem dJx4a65c_add_9ea2d_13 : decode cJx4a65c_add_9ea2d 13 = .ok (.getfield 9, 3) := by decide +kernel
theorem dJx4a65c_add_9ea2d_16 : decode cJx4a65c_add_9ea2d 16 = .ok (.aload_n 0, 1) := by decide +kernel
theorem dJx4a65c_add_9ea2d_17 : decode cJx4a65c_add_9ea2d 17 = .ok (.getfield 48, 3) := by decide +kernel
theorem dJx4a65c_add_9ea2d_20 : decode cJx4a65c_add_9ea2d 20 = .ok (.invokevirtual 131, 3) := by decide +kernel
theorem dJx4a65c_add_9ea2d_23 : decode cJx4a65c_add_9ea2d 23 = .ok (.iconst 1, 1) := by decide +kernel
theorem dJx4a65c_add_9ea2d_24 : decode cJx4a65c_add_9ea2d 24 = .ok (.ireturn, 1) := by decide +kernel
set_option maxRecDepth 20000 in
theorem ggJ7_copyOf_1904c_J7_copyOf_6403c : GoodIn wsJ7_copyOf_1904c wsJ7_copyOf_6403c := goodIn_r _ [8, 9, 10, 11, 12, 13, 14, 15, 16, 17, 18] (by decide +kernel) (by decide +kernel)
set_option maxRecDepth 20000 in
theorem gJ7_copyOf_1904c_J7_copyOf_6403c : GoodIn wsJ7_copyOf_1904c (va_wsS RJ7 300 yJ7_copyOf_6403c wsJ7_copyOf_6403c) := goodIn_app (goodIn_of _ (by decide +kernel)) ggJ7_copyOf_1904c_J7_copyOf_6403c
theorem dJ7_copyOf_1904c_0 : decode cJ7_copyOf_1904c 0 = .ok (.aload_n 0, 1) := by decide +kernel
theorem dJ7_copyOf_1904c_1 : decode cJ7_copyOf_1904c 1 = .ok (.iload_n 1, 1) := by decide +kernel
theorem dJ7_copyOf_1904c_2 : decode cJ7_copyOf_1904c 2 = .ok (.aload_n 0, 1) := by decide +kernel
theorem dJ7_copyOf_1904c_3 : decode cJ7_copyOf_1904c 3 = .ok (.invokevirtual 86, 3) := by decide +kernel
theorem dJ7_copyOf_1904c_6 : decode cJ7_copyOf_1904c 6 = .ok (.invokestatic 300, 3) := by decide +kernel
theorem dJ7_copyOf_1904c_9 : decode cJ7_copyOf_1904c 9 = .ok (.areturn, 1) := by decide +kernel
theorem dJ7_copyOf_6403c_0 : decode cJ7_copyOf_6403c 0 = .ok (.aload_n 2, 1) := by decide +kernel
theorem dJ7_copyOf_6403c_1 : decode cJ7_copyOf_6403c 1 = .ok (.ldc 110, 2) := by decide +kernel
theorem dJ7_copyOf_6403c_3 : decode cJ7_copyOf_6403c 3 = .ok (.if_acmp .ne 10, 3) := by decide +kernel
theorem dJ7_copyOf_6403c_6 : decode cJ7_copyOf_6403c 6 = .ok (.iload_n 1, 1) := by decide +kernel
theorem dJ7_copyOf_6403c_7 : decode cJ7_copyOf_6403c 7 = .ok (.anewarray 2, 3) := by decide +kernel
theorem dJ7_copyOf_6403c_10 : decode cJ7_copyOf_6403c 10 = .ok (.goto 14, 3) := by decide +kernel
theorem dJ7_copyOf_6403c_13 : decode cJ7_copyOf_6403c 13 = .ok (.aload_n 2, 1) := by decide +kernel
theorem dJ7_copyOf_6403c_14 : decode cJ7_copyOf_6403c 14 = .ok (.invokevirtual 90, 3) := by decide +kernel
theorem dJ7_copyOf_6403c_17 : decode cJ7_copyOf_6403c 17 = .ok (.iload_n 1, 1) := by decide +kernel
theorem dJ7_copyOf_6403c_18 : decode cJ7_copyOf_6403c 18 = .ok (.invokestatic 95, 3) := by decide +kernel
theorem dJ7_copyOf_6403c_21 : decode cJ7_copyOf_6403c 21 = .ok (.checkcast 110, 3) := by decide +kernel
theorem dJ7_copyOf_6403c_24 : decode cJ7_copyOf_6403c 24 = .ok (.astore_n 3, 1) := by decide +kernel
theorem dJ7_copyOf_6403c_25 : decode cJ7_copyOf_6403c 25 = .ok (.aload_n 0, 1) := by decide +kernel
theorem dJ7_copyOf_6403c_26 : decode cJ7_copyOf_6403c 26 = .ok (.iconst 0, 1) := by decide +kernel
theorem dJ7_copyOf_6403c_27 : decode cJ7_copyOf_6403c 27 = .ok (.aload_n 3, 1) := by decide +kernel
theorem dJ7_copyOf_6403c_28 : decode cJ7_copyOf_6403c 28 = .ok (.iconst 0, 1) := by decide +kernel
theorem dJ7_copyOf_6403c_29 : decode cJ7_copyOf_6403c 29 = .ok (.aload_n 0, 1) := by decide +kernel
theorem dJ7_copyOf_6403c_30 : decode cJ7_copyOf_6403c 30 = .ok (.arraylength, 1) := by decide +kernel
theorem dJ7_copyOf_6403c_31 : decode cJ7_copyOf_6403c 31 = .ok (.iload_n 1, 1) := by decide +kernel
theorem dJ7_copyOf_6403c_32 : decode cJ7_copyOf_6403c 32 = .ok (.invokestatic 304, 3) := by decide +kernel
theorem dJ7_copyOf_6403c_35 : decode cJ7_copyOf_6403c 35 = .ok (.invokestatic 150, 3) := by decide +kernel
theorem dJ7_copyOf_6403c_38 : decode cJ7_copyOf_6403c 38 = .ok (.aload_n 3, 1) := by decide +kernel
theorem dJ7_copyOf_6403c_39 : decode cJ7_copyOf_6403c 39 = .ok (.areturn, 1) := by decide +kernel
set_option maxRecDepth 20000 in
theorem ggJ15_checkIndex_7cf53_J3_checkIndex_8e157 : GoodIn wsJ15_checkIndex_7cf53 wsJ3_checkIndex_8e157 := goodIn_r _ [4] (by decide +kernel) (by decide +kernel)
set_option maxRecDepth 20000 in
theorem gJ15_checkIndex_7cf53_J3_checkIndex_8e157 : GoodIn wsJ15_checkIndex_7cf53 (va_wsS RJ15 105 yJ3_checkIndex_8e157 wsJ3_checkIndex_8e157) := goodIn_app (goodIn_of _ (by decide +kernel)) ggJ15_checkIndex_7cf53_J3_checkIndex_8e157
theorem dJ15_checkIndex_7cf53_0 : decode cJ15_checkIndex_7cf53 0 = .ok (.iload_n 0, 1) := by decide +kernel
theorem dJ15_checkIndex_7cf53_1 : decode cJ15_checkIndex_7cf53 1 = .ok (.iload_n 1, 1) := by decide +kernel
theorem dJ15_checkIndex_7cf53_2 : decode cJ15_checkIndex_7cf53 2 = .ok (.aconst_null, 1) := by decide +kernel
theorem dJ15_checkIndex_7cf53_3 : decode cJ15_checkIndex_7cf53 3 = .ok (.invokestatic 105, 3) := by decide +kernel
theorem dJ15_checkIndex_7cf53_6 : decode cJ15_checkIndex_7cf53 6 = .ok (.ireturn, 1) := by decide +kernel
set_option maxRecDepth 20000 in
theorem ggJ8_newLength_cabcc_J8_hugeLength_7cf53 : GoodIn wsJ8_newLength_cabcc wsJ8_hugeLength_7cf53 := goodIn_r _ [9, 5] (by decide +kernel) (by decide +kernel)
set_option maxRecDepth 20000 in
theorem gJ8_newLength_cabcc_J8_hugeLength_7cf53 : GoodIn wsJ8_newLength_cabcc (va_wsS RJ8 201 yJ8_hugeLength_7cf53 wsJ8_hugeLength_7cf53) := goodIn_app (goodIn_of _ (by decide +kernel)) ggJ8_newLength_cabcc_J8_hugeLength_7cf53
theorem dJ8_newLength_cabcc_0 : decode cJ8_newLength_cabcc 0 = .ok (.iload_n 0, 1) := by decide +kernel
theorem dJ8_newLength_cabcc_1 : decode cJ8_newLength_cabcc 1 = .ok (.iload_n 1, 1) := by decide +kernel
theorem dJ8_newLength_cabcc_2 : decode cJ8_newLength_cabcc 2 = .ok (.iload_n 2, 1) := by decide +kernel
theorem dJ8_newLength_cabcc_3 : decode cJ8_newLength_cabcc 3 = .ok (.invokestatic 194, 3) := by decide +kernel
theorem dJ8_newLength_cabcc_6 : decode cJ8_newLength_cabcc 6 = .ok (.iadd, 1) := by decide +kernel
theorem dJ8_newLength_cabcc_7 : decode cJ8_newLength_cabcc 7 = .ok (.istore_n 3, 1) := by decide +kernel
theorem dJ8_newLength_cabcc_8 : decode cJ8_newLength_cabcc 8 = .ok (.iconst 0, 1) := by decide +kernel
theorem dJ8_newLength_cabcc_9 : decode cJ8_newLength_cabcc 9 = .ok (.iload_n 3, 1) := by decide +kernel
theorem dJ8_newLength_cabcc_10 : decode cJ8_newLength_cabcc 10 = .ok (.if_icmp .ge 11, 3) := by decide +kernel
theorem dJ8_newLength_cabcc_13 : decode cJ8_newLength_cabcc 13 = .ok (.iload_n 3, 1) := by decide +kernel
theorem dJ8_newLength_cabcc_14 : decode cJ8_newLength_cabcc 14 = .ok (.ldc 200, 2) := by decide +kernel
theorem dJ8_newLength_cabcc_16 : decode cJ8_newLength_cabcc 16 = .ok (.if_icmp .gt 5, 3) := by decide +kernel
theorem dJ8_newLength_cabcc_19 : decode cJ8_newLength_cabcc 19 = .ok (.iload_n 3, 1) := by decide +kernel
theorem dJ8_newLength_cabcc_20 : decode cJ8_newLength_cabcc 20 = .ok (.ireturn, 1) := by decide +kernel
theorem dJ8_newLength_cabcc_21 : decode cJ8_newLength_cabcc 21 = .ok (.iload_n 0, 1) := by decide +kernel
theorem dJ8_newLength_cabcc_22 : decode cJ8_newLength_cabcc 22 = .ok (.iload_n 1, 1) := by decide +kernel
theorem dJ8_newLength_cabcc_23 : decode cJ8_newLength_cabcc 23 = .ok (.invokestatic 201, 3) := by decide +kernel
theorem dJ8_newLength_cabcc_26 : decode cJ8_newLength_cabcc 26 = .ok (.ireturn, 1) := by decide +kernel
theorem dJ8_hugeLength_7cf53_0 : decode cJ8_hugeLength_7cf53 0 = .ok (.iload_n 0, 1) := by decide +kernel
theorem dJ8_hugeLength_7cf53_1 : decode cJ8_hugeLength_7cf53 1 = .ok (.iload_n 1, 1) := by decide +kernel
theorem dJ8_hugeLength_7cf53_2 : decode cJ8_hugeLength_7cf53 2 = .ok (.iadd, 1) := by decide +kernel
theorem dJ8_hugeLength_7cf53_3 : decode cJ8_hugeLength_7cf53 3 = .ok (.istore_n 2, 1) := by decide +kernel
theorem dJ8_hugeLength_7cf53_4 : decode cJ8_hugeLength_7cf53 4 = .ok (.iload_n 2, 1) := by decide +kernel
theorem dJ8_hugeLength_7cf53_5 : decode cJ8_hugeLength_7cf53 5 = .ok (.ifCond .ge 44, 3) := by decide +kernel
theorem dJ8_hugeLength_7cf53_8 : decode cJ8_hugeLength_7cf53 8 = .ok (.new 204, 3) := by decide +kernel
theorem dJ8_hugeLength_7cf53_11 : decode cJ8_hugeLength_7cf53 11 = .ok (.dup, 1) := by decide +kernel
theorem dJ8_hugeLength_7cf53_12 : decode cJ8_hugeLength_7cf53 12 = .ok (.new 89, 3) := by decide +kernel
theorem dJ8_hugeLength_7cf53_15 : decode cJ8_hugeLength_7cf53 15 = .ok (.dup, 1) := by decide +kernel
theorem dJ8_hugeLength_7cf53_16 : decode cJ8_hugeLength_7cf53 16 = .ok (.invokespecial 91, 3) := by decide +kernel
theorem dJ8_hugeLength_7cf53_19 : decode cJ8_hugeLength_7cf53 19 = .ok (.ldc 206, 2) := by decide +kernel
theorem dJ8_hugeLength_7cf53_21 : decode cJ8_hugeLength_7cf53 21 = .ok (.invokevirtual 94, 3) := by decide +kernel
theorem dJ8_hugeLength_7cf53_24 : decode cJ8_hugeLength_7cf53 24 = .ok (.iload_n 0, 1) := by decide +kernel
theorem dJ8_hugeLength_7cf53_25 : decode cJ8_hugeLength_7cf53 25 = .ok (.invokevirtual 98, 3) := by decide +kernel
theorem dJ8_hugeLength_7cf53_28 : decode cJ8_hugeLength_7cf53 28 = .ok (.ldc 208, 2) := by decide +kernel
theorem dJ8_hugeLength_7cf53_30 : decode cJ8_hugeLength_7cf53 30 = .ok (.invokevirtual 94, 3) := by decide +kernel
theorem dJ8_hugeLength_7cf53_33 : decode cJ8_hugeLength_7cf53 33 = .ok (.iload_n 1, 1) := by decide +kernel
theorem dJ8_hugeLength_7cf53_34 : decode cJ8_hugeLength_7cf53 34 = .ok (.invokevirtual 98, 3) := by decide +kernel
theorem dJ8_hugeLength_7cf53_37 : decode cJ8_hugeLength_7cf53 37 = .ok (.ldc 210, 2) := by decide +kernel
theorem dJ8_hugeLength_7cf53_39 : decode cJ8_hugeLength_7cf53 39 = .ok (.invokevirtual 94, 3) := by decide +kernel
theorem dJ8_hugeLength_7cf53_42 : decode cJ8_hugeLength_7cf53 42 = .ok (.invokevirtual 101, 3) := by decide +kernel
theorem dJ8_hugeLength_7cf53_45 : decode cJ8_hugeLength_7cf53 45 = .ok (.invokespecial 212, 3) := by decide +kernel
theorem dJ8_hugeLength_7cf53_48 : decode cJ8_hugeLength_7cf53 48 = .ok (.athrow, 1) := by decide +kernel
theorem dJ8_hugeLength_7cf53_49 : decode cJ8_hugeLength_7cf53 49 = .ok (.iload_n 2, 1) := by decide +kernel
theorem dJ8_hugeLength_7cf53_50 : decode cJ8_hugeLength_7cf53 50 = .ok (.ldc 200, 2) := by decide +kernel
theorem dJ8_hugeLength_7cf53_52 : decode cJ8_hugeLength_7cf53 52 = .ok (.if_icmp .gt 6, 3) := by decide +kernel
theorem dJ8_hugeLength_7cf53_55 : decode cJ8_hugeLength_7cf53 55 = .ok (.ldc 200, 2) := by decide +kernel
theorem dJ8_hugeLength_7cf53_57 : decode cJ8_hugeLength_7cf53 57 = .ok (.ireturn, 1) := by decide +kernel
theorem dJ8_hugeLength_7cf53_58 : decode cJ8_hugeLength_7cf53 58 = .ok (.iload_n 2, 1) := by decide +kernel
theorem dJ8_hugeLength_7cf53_59 : decode cJ8_hugeLength_7cf53 59 = .ok (.ireturn, 1) := by decide +kernel
theorem dJ3_checkIndex_8e157_0 : decode cJ3_checkIndex_8e157 0 = .ok (.iload_n 0, 1) := by decide +kernel
theorem dJ3_checkIndex_8e157_1 : decode cJ3_checkIndex_8e157 1 = .ok (.ifCond .lt 8, 3) := by decide +kernel
theorem dJ3_checkIndex_8e157_4 : decode cJ3_checkIndex_8e157 4 = .ok (.iload_n 0, 1) := by decide +kernel
theorem dJ3_checkIndex_8e157_5 : decode cJ3_checkIndex_8e157 5 = .ok (.iload_n 1, 1) := by decide +kernel
theorem dJ3_checkIndex_8e157_6 : decode cJ3_checkIndex_8e157 6 = .ok (.if_icmp .lt 10, 3) := by decide +kernel
theorem dJ3_checkIndex_8e157_9 : decode cJ3_checkIndex_8e157 9 = .ok (.aload_n 2, 1) := by decide +kernel
theorem dJ3_checkIndex_8e157_10 : decode cJ3_checkIndex_8e157 10 = .ok (.iload_n 0, 1) := by decide +kernel
theorem dJ3_checkIndex_8e157_11 : decode cJ3_checkIndex_8e157 11 = .ok (.iload_n 1, 1) := by decide +kernel
theorem dJ3_checkIndex_8e157_12 : decode cJ3_checkIndex_8e157 12 = .ok (.invokestatic 95, 3) := by decide +kernel
theorem dJ3_checkIndex_8e157_15 : decode cJ3_checkIndex_8e157 15 = .ok (.athrow, 1) := by decide +kernel
theorem dJ3_checkIndex_8e157_16 : decode cJ3_checkIndex_8e157 16 = .ok (.iload_n 0, 1) := by decide +kernel
theorem dJ3_checkIndex_8e157_17 : decode cJ3_checkIndex_8e157 17 = .ok (.ireturn, 1) := by decide +kernel
set_option maxRecDepth 20000 in
theorem ggL_setTreaty_X4_setTreaty : GoodIn wsL_setTreaty wsX4_setTreaty := goodIn_ca (goodIn_r _ [6, 7, 8, 9, 10, 11, 12, 5, 13, 14, 15, 16, 17, 18, 19, 20, 21, 22] (by decide +kernel) (by decide +kernel)) (goodIn_sub (fun _ h => List.mem_cons_of_mem _ (List.mem_append_right _ h)) (by decide +kernel))
set_option maxRecDepth 20000 in
theorem gL_setTreaty_X4_setTreaty : GoodIn wsL_setTreaty (wsV RL 7 RX4 yX4_setTreaty wsX4_setTreaty) := goodIn_app (goodIn_of _ (by decide +kernel)) ggL_setTreaty_X4_setTreaty
theorem dL_setTreaty_0 : decode cL_setTreaty 0 = .ok (.aload 4, 2) := by decide +kernel
theorem dL_setTreaty_2 : decode cL_setTreaty 2 = .ok (.iconst 0, 1) := by decide +kernel
theorem dL_setTreaty_3 : decode cL_setTreaty 3 = .ok (.aload_n 0, 1) := by decide +kernel
theorem dL_setTreaty_4 : decode cL_setTreaty 4 = .ok (.iload_n 1, 1) := by decide +kernel
theorem dL_setTreaty_5 : decode cL_setTreaty 5 = .ok (.iload_n 2, 1) := by decide +kernel
theorem dL_setTreaty_6 : decode cL_setTreaty 6 = .ok (.iload_n 3, 1) := by decide +kernel
theorem dL_setTreaty_7 : decode cL_setTreaty 7 = .ok (.invokevirtual 7, 3) := by decide +kernel
theorem dL_setTreaty_10 : decode cL_setTreaty 10 = .ok (.i2l, 1) := by decide +kernel
theorem dL_setTreaty_11 : decode cL_setTreaty 11 = .ok (.lastore, 1) := by decide +kernel
theorem dL_setTreaty_12 : decode cL_setTreaty 12 = .ok (.goto 7, 3) := by decide +kernel
theorem dL_setTreaty_15 : decode cL_setTreaty 15 = .ok (.astore 5, 2) := by decide +kernel
theorem dL_setTreaty_17 : decode cL_setTreaty 17 = .ok (.iconst 1, 1) := by decide +kernel
theorem dL_setTreaty_18 : decode cL_setTreaty 18 = .ok (.ireturn, 1) := by decide +kernel
theorem dL_setTreaty_19 : decode cL_setTreaty 19 = .ok (.iconst 0, 1) := by decide +kernel
theorem dL_setTreaty_20 : decode cL_setTreaty 20 = .ok (.ireturn, 1) := by decide +kernel
set_option maxRecDepth 20000 in
theorem ggL_addHolder_X4_addHolder : GoodIn wsL_addHolder wsX4_addHolder := goodIn_ca (goodIn_ca (goodIn_r _ [7, 8, 9, 10, 11, 12, 13, 14, 15, 16, 17, 6, 18, 19, 20, 21, 22, 23, 24, 25, 26, 27, 28, 29, 30, 31, 32, 33, 34, 35, 36, 37, 38, 39, 40, 41, 42, 43, 44, 45, 46, 47, 48, 49, 50, 51, 52, 53, 54, 55, 56, 57, 58, 59, 60, 61, 62, 63, 64, 65, 66, 67, 68, 69, 70, 71, 72, 73, 74, 75, 76, 77, 78, 79, 80, 81, 82, 83, 84, 85, 86, 87, 88, 89, 90, 91, 92, 93, 94, 95, 96, 97, 98, 99, 100, 101, 102, 103, 104, 105, 106, 107, 108] (by decide +kernel) (by decide +kernel)) (goodIn_sub (fun _ h => List.mem_cons_of_mem _ (List.mem_append_left _ (List.mem_append_right _ h))) (by decide +kernel))) (goodIn_sub (fun _ h => List.mem_cons_of_mem _ (List.mem_append_right _ h)) (by decide +kernel))
set_option maxRecDepth 20000 in
theorem gL_addHolder_X4_addHolder : GoodIn wsL_addHolder (wsV RL 15 RX4 yX4_addHolder wsX4_addHolder) := goodIn_app (goodIn_of _ (by decide +kernel)) ggL_addHolder_X4_addHolder
theorem dL_addHolder_0 : decode cL_addHolder 0 = .ok (.aload_n 3, 1) := by decide +kernel
theorem dL_addHolder_1 : decode cL_addHolder 1 = .ok (.iconst 0, 1) := by decide +kernel
theorem dL_addHolder_2 : decode cL_addHolder 2 = .ok (.aload_n 0, 1) := by decide +kernel
theorem dL_addHolder_3 : decode cL_addHolder 3 = .ok (.iload_n 1, 1) := by decide +kernel
theorem dL_addHolder_4 : decode cL_addHolder 4 = .ok (.iload_n 2, 1) := by decide +kernel
theorem dL_addHolder_5 : decode cL_addHolder 5 = .ok (.invokevirtual 15, 3) := by decide +kernel
theorem dL_addHolder_8 : decode cL_addHolder 8 = .ok (.i2l, 1) := by decide +kernel
theorem dL_addHolder_9 : decode cL_addHolder 9 = .ok (.lastore, 1) := by decide +kernel
theorem dL_addHolder_10 : decode cL_addHolder 10 = .ok (.goto 11, 3) := by decide +kernel
theorem dL_addHolder_13 : decode cL_addHolder 13 = .ok (.astore 4, 2) := by decide +kernel
theorem dL_addHolder_15 : decode cL_addHolder 15 = .ok (.iconst 1, 1) := by decide +kernel
theorem dL_addHolder_16 : decode cL_addHolder 16 = .ok (.ireturn, 1) := by decide +kernel
theorem dL_addHolder_17 : decode cL_addHolder 17 = .ok (.astore 4, 2) := by decide +kernel
theorem dL_addHolder_19 : decode cL_addHolder 19 = .ok (.iconst 2, 1) := by decide +kernel
theorem dL_addHolder_20 : decode cL_addHolder 20 = .ok (.ireturn, 1) := by decide +kernel
theorem dL_addHolder_21 : decode cL_addHolder 21 = .ok (.iconst 0, 1) := by decide +kernel
theorem dL_addHolder_22 : decode cL_addHolder 22 = .ok (.ireturn, 1) := by decide +kernel
set_option maxRecDepth 20000 in
theorem ggL_setParts_X4_setParts : GoodIn wsL_setParts wsX4_setParts := goodIn_ca (goodIn_ca (goodIn_r _ [7, 8, 9, 10, 11, 12, 6, 13, 14, 15, 16, 17, 18, 19, 20, 21, 22, 23, 24, 25, 26, 27, 28, 29, 30, 31, 32, 33, 34, 35, 36, 37, 38, 39, 40, 41, 42, 43, 44, 45, 46, 47, 48, 49, 50, 51, 52, 53, 54, 55, 56, 57, 58, 59, 60, 61, 62, 63, 64, 65, 66, 67, 68, 69, 70] (by decide +kernel) (by decide +kernel)) (goodIn_sub (fun _ h => List.mem_cons_of_mem _ (List.mem_append_left _ (List.mem_append_right _ h))) (by decide +kernel))) (goodIn_sub (fun _ h => List.mem_cons_of_mem _ (List.mem_append_right _ h)) (by decide +kernel))
set_option maxRecDepth 20000 in
theorem gL_setParts_X4_setParts : GoodIn wsL_setParts (wsV RL 21 RX4 yX4_setParts wsX4_setParts) := goodIn_app (goodIn_of _ (by decide +kernel)) ggL_setParts_X4_setParts
theorem dL_setParts_0 : decode cL_setParts 0 = .ok (.aload 4, 2) := by decide +kernel
theorem dL_setParts_2 : decode cL_setParts 2 = .ok (.iconst 0, 1) := by decide +kernel
theorem dL_setParts_3 : decode cL_setParts 3 = .ok (.aload_n 0, 1) := by decide +kernel
theorem dL_setParts_4 : decode cL_setParts 4 = .ok (.iload_n 1, 1) := by decide +kernel
theorem dL_setParts_5 : decode cL_setParts 5 = .ok (.iload_n 2, 1) := by decide +kernel
theorem dL_setParts_6 : decode cL_setParts 6 = .ok (.iload_n 3, 1) := by decide +kernel
theorem dL_setParts_7 : decode cL_setParts 7 = .ok (.invokevirtual 21, 3) := by decide +kernel
theorem dL_setParts_10 : decode cL_setParts 10 = .ok (.i2l, 1) := by decide +kernel
theorem dL_setParts_11 : decode cL_setParts 11 = .ok (.lastore, 1) := by decide +kernel
theorem dL_setParts_12 : decode cL_setParts 12 = .ok (.goto 11, 3) := by decide +kernel
theorem dL_setParts_15 : decode cL_setParts 15 = .ok (.astore 5, 2) := by decide +kernel
theorem dL_setParts_17 : decode cL_setParts 17 = .ok (.iconst 1, 1) := by decide +kernel
theorem dL_setParts_18 : decode cL_setParts 18 = .ok (.ireturn, 1) := by decide +kernel
theorem dL_setParts_19 : decode cL_setParts 19 = .ok (.astore 5, 2) := by decide +kernel
theorem dL_setParts_21 : decode cL_setParts 21 = .ok (.iconst 2, 1) := by decide +kernel
theorem dL_setParts_22 : decode cL_setParts 22 = .ok (.ireturn, 1) := by decide +kernel
theorem dL_setParts_23 : decode cL_setParts 23 = .ok (.iconst 0, 1) := by decide +kernel
theorem dL_setParts_24 : decode cL_setParts 24 = .ok (.ireturn, 1) := by decide +kernel
set_option maxRecDepth 20000 in
theorem ggL_setShares_X4_setShares : GoodIn wsL_setShares wsX4_setShares := goodIn_ca (goodIn_ca (goodIn_ca (goodIn_r _ [8, 9, 10, 11, 12, 13, 14, 15, 16, 7, 17, 18, 19, 20, 21, 22, 23, 24, 25, 26, 27, 28, 29, 30, 31, 32, 33, 34, 35, 36, 37, 38, 39, 40, 41, 42, 43, 44, 45, 46, 47, 48, 49, 50, 51, 52, 53, 54, 55, 56, 57, 58, 59, 60, 61, 62, 63, 64, 65, 66, 67, 68, 69, 70] (by decide +kernel) (by decide +kernel)) (goodIn_sub (fun _ h => List.mem_cons_of_mem _ (List.mem_append_left _ (List.mem_append_left _ (List.mem_append_right _ h)))) (by decide +kernel))) (goodIn_sub (fun _ h => List.mem_cons_of_mem _ (List.mem_append_left _ (List.mem_append_right _ h))) (by decide +kernel))) (goodIn_sub (fun _ h => List.mem_cons_of_mem _ (List.mem_append_right _ h)) (by decide +kernel))
set_option maxRecDepth 20000 in
theorem gL_setShares_X4_setShares : GoodIn wsL_setShares (wsV RL 26 RX4 yX4_setShares wsX4_setShares) := goodIn_app (goodIn_of _ (by decide +kernel)) ggL_setShares_X4_setShares
theorem dL_setShares_0 : decode cL_setShares 0 = .ok (.aload_n 3, 1) := by decide +kernel
theorem dL_setShares_1 : decode cL_setShares 1 = .ok (.iconst 0, 1) := by decide +kernel
theorem dL_setShares_2 : decode cL_setShares 2 = .ok (.aload_n 0, 1) := by decide +kernel
theorem dL_setShares_3 : decode cL_setShares 3 = .ok (.iload_n 1, 1) := by decide +kernel
theorem dL_setShares_4 : decode cL_setShares 4 = .ok (.iload_n 2, 1) := by decide +kernel
theorem dL_setShares_5 : decode cL_setShares 5 = .ok (.invokevirtual 26, 3) := by decide +kernel
theorem dL_setShares_8 : decode cL_setShares 8 = .ok (.i2l, 1) := by decide +kernel
theorem dL_setShares_9 : decode cL_setShares 9 = .ok (.lastore, 1) := by decide +kernel
theorem dL_setShares_10 : decode cL_setShares 10 = .ok (.goto 15, 3) := by decide +kernel
theorem dL_setShares_13 : decode cL_setShares 13 = .ok (.astore 4, 2) := by decide +kernel
theorem dL_setShares_15 : decode cL_setShares 15 = .ok (.iconst 1, 1) := by decide +kernel
theorem dL_setShares_16 : decode cL_setShares 16 = .ok (.ireturn, 1) := by decide +kernel
theorem dL_setShares_17 : decode cL_setShares 17 = .ok (.astore 4, 2) := by decide +kernel
theorem dL_setShares_19 : decode cL_setShares 19 = .ok (.iconst 2, 1) := by decide +kernel
theorem dL_setShares_20 : decode cL_setShares 20 = .ok (.ireturn, 1) := by decide +kernel
theorem dL_setShares_21 : decode cL_setShares 21 = .ok (.astore 4, 2) := by decide +kernel
theorem dL_setShares_23 : decode cL_setShares 23 = .ok (.iconst 3, 1) := by decide +kernel
theorem dL_setShares_24 : decode cL_setShares 24 = .ok (.ireturn, 1) := by decide +kernel
theorem dL_setShares_25 : decode cL_setShares 25 = .ok (.iconst 0, 1) := by decide +kernel
theorem dL_setShares_26 : decode cL_setShares 26 = .ok (.ireturn, 1) := by decide +kernel
set_option maxRecDepth 20000 in
theorem ggL_giveForm_X4_giveForm : GoodIn wsL_giveForm wsX4_giveForm := goodIn_ca (goodIn_r _ [6, 7, 8, 9, 10, 5, 11, 12, 13, 14, 15, 16, 17, 18, 19, 20, 21, 22, 23, 24, 25, 26, 27, 28, 29, 30, 31, 32, 33, 34, 35, 36, 37, 38, 39, 40, 41, 42, 43, 44, 45, 46, 47, 48, 49, 50, 51, 52, 53, 54, 55, 56, 57, 58, 59, 60] (by decide +kernel) (by decide +kernel)) (goodIn_sub (fun _ h => List.mem_cons_of_mem _ (List.mem_append_right _ h)) (by decide +kernel))
set_option maxRecDepth 20000 in
theorem gL_giveForm_X4_giveForm : GoodIn wsL_giveForm (wsV RL 29 RX4 yX4_giveForm wsX4_giveForm) := goodIn_app (goodIn_of _ (by decide +kernel)) ggL_giveForm_X4_giveForm
theorem dL_giveForm_0 : decode cL_giveForm 0 = .ok (.aload_n 2, 1) := by decide +kernel
theorem dL_giveForm_1 : decode cL_giveForm 1 = .ok (.iconst 0, 1) := by decide +kernel
theorem dL_giveForm_2 : decode cL_giveForm 2 = .ok (.aload_n 0, 1) := by decide +kernel
theorem dL_giveForm_3 : decode cL_giveForm 3 = .ok (.iload_n 1, 1) := by decide +kernel
theorem dL_giveForm_4 : decode cL_giveForm 4 = .ok (.invokevirtual 29, 3) := by decide +kernel
theorem dL_giveForm_7 : decode cL_giveForm 7 = .ok (.i2l, 1) := by decide +kernel
theorem dL_giveForm_8 : decode cL_giveForm 8 = .ok (.lastore, 1) := by decide +kernel
theorem dL_giveForm_9 : decode cL_giveForm 9 = .ok (.goto 6, 3) := by decide +kernel
theorem dL_giveForm_12 : decode cL_giveForm 12 = .ok (.astore_n 3, 1) := by decide +kernel
theorem dL_giveForm_13 : decode cL_giveForm 13 = .ok (.iconst 1, 1) := by decide +kernel
theorem dL_giveForm_14 : decode cL_giveForm 14 = .ok (.ireturn, 1) := by decide +kernel
theorem dL_giveForm_15 : decode cL_giveForm 15 = .ok (.iconst 0, 1) := by decide +kernel
theorem dL_giveForm_16 : decode cL_giveForm 16 = .ok (.ireturn, 1) := by decide +kernel
set_option maxRecDepth 20000 in
theorem ggL_pass_X4_pass : GoodIn wsL_pass wsX4_pass := goodIn_ca (goodIn_ca (goodIn_r _ [7, 8, 9, 10, 11, 12, 13, 14, 15, 16, 6, 17, 18, 19, 20, 21, 22, 23, 24, 25, 26, 27, 28, 29, 30, 31, 32, 33, 34, 35, 36, 37, 38, 39, 40, 41, 42, 43, 44, 45, 46, 47, 48, 49, 50, 51, 52, 53, 54, 55, 56, 57, 58, 59, 60, 61, 62] (by decide +kernel) (by decide +kernel)) (goodIn_sub (fun _ h => List.mem_cons_of_mem _ (List.mem_append_left _ (List.mem_append_right _ h))) (by decide +kernel))) (goodIn_sub (fun _ h => List.mem_cons_of_mem _ (List.mem_append_right _ h)) (by decide +kernel))
set_option maxRecDepth 20000 in
theorem gL_pass_X4_pass : GoodIn wsL_pass (wsV RL 33 RX4 yX4_pass wsX4_pass) := goodIn_app (goodIn_of _ (by decide +kernel)) ggL_pass_X4_pass
theorem dL_pass_0 : decode cL_pass 0 = .ok (.aload_n 2, 1) := by decide +kernel
theorem dL_pass_1 : decode cL_pass 1 = .ok (.iconst 0, 1) := by decide +kernel
theorem dL_pass_2 : decode cL_pass 2 = .ok (.aload_n 0, 1) := by decide +kernel
theorem dL_pass_3 : decode cL_pass 3 = .ok (.iload_n 1, 1) := by decide +kernel
theorem dL_pass_4 : decode cL_pass 4 = .ok (.invokevirtual 33, 3) := by decide +kernel
theorem dL_pass_7 : decode cL_pass 7 = .ok (.i2l, 1) := by decide +kernel
theorem dL_pass_8 : decode cL_pass 8 = .ok (.lastore, 1) := by decide +kernel
theorem dL_pass_9 : decode cL_pass 9 = .ok (.goto 9, 3) := by decide +kernel
theorem dL_pass_12 : decode cL_pass 12 = .ok (.astore_n 3, 1) := by decide +kernel
theorem dL_pass_13 : decode cL_pass 13 = .ok (.iconst 1, 1) := by decide +kernel
theorem dL_pass_14 : decode cL_pass 14 = .ok (.ireturn, 1) := by decide +kernel
theorem dL_pass_15 : decode cL_pass 15 = .ok (.astore_n 3, 1) := by decide +kernel
theorem dL_pass_16 : decode cL_pass 16 = .ok (.iconst 2, 1) := by decide +kernel
theorem dL_pass_17 : decode cL_pass 17 = .ok (.ireturn, 1) := by decide +kernel
theorem dL_pass_18 : decode cL_pass 18 = .ok (.iconst 0, 1) := by decide +kernel
theorem dL_pass_19 : decode cL_pass 19 = .ok (.ireturn, 1) := by decide +kernel
set_option maxRecDepth 20000 in
theorem ggL_shares_X4_shares : GoodIn wsL_shares wsX4_shares := goodIn_ca (goodIn_r _ [6, 7, 8, 9, 5, 10, 11, 12, 13, 14, 15, 16, 17, 18, 19, 20, 21, 22, 23, 24, 25, 26, 27, 28, 29, 30, 31, 32, 33, 34, 35, 36, 37, 38, 39, 40, 41, 42, 43, 44, 45, 46, 47, 48, 49, 50, 51, 52, 53, 54, 55, 56, 57, 58, 59] (by decide +kernel) (by decide +kernel)) (goodIn_sub (fun _ h => List.mem_cons_of_mem _ (List.mem_append_right _ h)) (by decide +kernel))
set_option maxRecDepth 20000 in
theorem gL_shares_X4_shares : GoodIn wsL_shares (wsV RL 36 RX4 yX4_shares wsX4_shares) := goodIn_app (goodIn_of _ (by decide +kernel)) ggL_shares_X4_shares
theorem dL_shares_0 : decode cL_shares 0 = .ok (.aload_n 2, 1) := by decide +kernel
theorem dL_shares_1 : decode cL_shares 1 = .ok (.iconst 0, 1) := by decide +kernel
theorem dL_shares_2 : decode cL_shares 2 = .ok (.aload_n 0, 1) := by decide +kernel
theorem dL_shares_3 : decode cL_shares 3 = .ok (.iload_n 1, 1) := by decide +kernel
theorem dL_shares_4 : decode cL_shares 4 = .ok (.invokevirtual 36, 3) := by decide +kernel
theorem dL_shares_7 : decode cL_shares 7 = .ok (.i2l, 1) := by decide +kernel
theorem dL_shares_8 : decode cL_shares 8 = .ok (.lastore, 1) := by decide +kernel
theorem dL_shares_9 : decode cL_shares 9 = .ok (.goto 6, 3) := by decide +kernel
theorem dL_shares_12 : decode cL_shares 12 = .ok (.astore_n 3, 1) := by decide +kernel
theorem dL_shares_13 : decode cL_shares 13 = .ok (.iconst 1, 1) := by decide +kernel
theorem dL_shares_14 : decode cL_shares 14 = .ok (.ireturn, 1) := by decide +kernel
theorem dL_shares_15 : decode cL_shares 15 = .ok (.iconst 0, 1) := by decide +kernel
theorem dL_shares_16 : decode cL_shares 16 = .ok (.ireturn, 1) := by decide +kernel
set_option maxRecDepth 20000 in
theorem ggL_isValid_X4_isValid : GoodIn wsL_isValid wsX4_isValid := goodIn_ca (goodIn_r _ [6, 7, 8, 9, 10, 5, 11, 12, 13, 14, 15, 16, 17, 18, 19, 20, 21, 22, 23, 24, 25, 26, 27, 28, 29, 30, 31, 32, 33, 34, 35, 36, 37, 38, 39, 40, 41, 42, 43, 44, 45, 46, 47, 48, 49, 50, 51, 52, 53, 54, 55, 56, 57, 58, 59, 60, 61, 62, 63, 64, 65] (by decide +kernel) (by decide +kernel)) (goodIn_sub (fun _ h => List.mem_cons_of_mem _ (List.mem_append_right _ h)) (by decide +kernel))
set_option maxRecDepth 20000 in
theorem gL_isValid_X4_isValid : GoodIn wsL_isValid (wsV RL 39 RX4 yX4_isValid wsX4_isValid) := goodIn_app (goodIn_of _ (by decide +kernel)) ggL_isValid_X4_isValid
theorem dL_isValid_0 : decode cL_isValid 0 = .ok (.aload_n 2, 1) := by decide +kernel
theorem dL_isValid_1 : decode cL_isValid 1 = .ok (.iconst 0, 1) := by decide +kernel
theorem dL_isValid_2 : decode cL_isValid 2 = .ok (.aload_n 0, 1) := by decide +kernel
theorem dL_isValid_3 : decode cL_isValid 3 = .ok (.iload_n 1, 1) := by decide +kernel
theorem dL_isValid_4 : decode cL_isValid 4 = .ok (.invokevirtual 39, 3) := by decide +kernel
theorem dL_isValid_7 : decode cL_isValid 7 = .ok (.ifCond .eq 7, 3) := by decide +kernel
theorem dL_isValid_10 : decode cL_isValid 10 = .ok (.lconst 1, 1) := by decide +kernel
theorem dL_isValid_11 : decode cL_isValid 11 = .ok (.goto 4, 3) := by decide +kernel
theorem dL_isValid_14 : decode cL_isValid 14 = .ok (.lconst 0, 1) := by decide +kernel
theorem dL_isValid_15 : decode cL_isValid 15 = .ok (.lastore, 1) := by decide +kernel
theorem dL_isValid_16 : decode cL_isValid 16 = .ok (.goto 6, 3) := by decide +kernel
theorem dL_isValid_19 : decode cL_isValid 19 = .ok (.astore_n 3, 1) := by decide +kernel
theorem dL_isValid_20 : decode cL_isValid 20 = .ok (.iconst 1, 1) := by decide +kernel
theorem dL_isValid_21 : decode cL_isValid 21 = .ok (.ireturn, 1) := by decide +kernel
theorem dL_isValid_22 : decode cL_isValid 22 = .ok (.iconst 0, 1) := by decide +kernel
theorem dL_isValid_23 : decode cL_isValid 23 = .ok (.ireturn, 1) := by decide +kernel
set_option maxRecDepth 20000 in
theorem ggL_isLarge_X4_isLarge : GoodIn wsL_isLarge wsX4_isLarge := goodIn_ca (goodIn_r _ [6, 7, 8, 9, 10, 5, 11, 12, 13, 14, 15, 16, 17, 18, 19, 20, 21, 22, 23, 24, 25, 26, 27, 28, 29, 30, 31, 32, 33, 34, 35, 36, 37, 38, 39, 40, 41, 42, 43, 44, 45, 46, 47, 48, 49, 50, 51, 52, 53, 54, 55, 56, 57, 58, 59, 60, 61, 62, 63, 64, 65, 66, 67, 68] (by decide +kernel) (by decide +kernel)) (goodIn_sub (fun _ h => List.mem_cons_of_mem _ (List.mem_append_right _ h)) (by decide +kernel))
set_option maxRecDepth 20000 in
theorem gL_isLarge_X4_isLarge : GoodIn wsL_isLarge (wsV RL 43 RX4 yX4_isLarge wsX4_isLarge) := goodIn_app (goodIn_of _ (by decide +kernel)) ggL_isLarge_X4_isLarge
theorem dL_isLarge_0 : decode cL_isLarge 0 = .ok (.aload_n 2, 1) := by decide +kernel
theorem dL_isLarge_1 : decode cL_isLarge 1 = .ok (.iconst 0, 1) := by decide +kernel
theorem dL_isLarge_2 : decode cL_isLarge 2 = .ok (.aload_n 0, 1) := by decide +kernel
theorem dL_isLarge_3 : decode cL_isLarge 3 = .ok (.iload_n 1, 1) := by decide +kernel
theorem dL_isLarge_4 : decode cL_isLarge 4 = .ok (.invokevirtual 43, 3) := by decide +kernel
theorem dL_isLarge_7 : decode cL_isLarge 7 = .ok (.ifCond .eq 7, 3) := by decide +kernel
theorem dL_isLarge_10 : decode cL_isLarge 10 = .ok (.lconst 1, 1) := by decide +kernel
theorem dL_isLarge_11 : decode cL_isLarge 11 = .ok (.goto 4, 3) := by decide +kernel
theorem dL_isLarge_14 : decode cL_isLarge 14 = .ok (.lconst 0, 1) := by decide +kernel
theorem dL_isLarge_15 : decode cL_isLarge 15 = .ok (.lastore, 1) := by decide +kernel
theorem dL_isLarge_16 : decode cL_isLarge 16 = .ok (.goto 6, 3) := by decide +kernel
theorem dL_isLarge_19 : decode cL_isLarge 19 = .ok (.astore_n 3, 1) := by decide +kernel
theorem dL_isLarge_20 : decode cL_isLarge 20 = .ok (.iconst 1, 1) := by decide +kernel
theorem dL_isLarge_21 : decode cL_isLarge 21 = .ok (.ireturn, 1) := by decide +kernel
theorem dL_isLarge_22 : decode cL_isLarge 22 = .ok (.iconst 0, 1) := by decide +kernel
theorem dL_isLarge_23 : decode cL_isLarge 23 = .ok (.ireturn, 1) := by decide +kernel
set_option maxRecDepth 20000 in
theorem ggL_treatyRate_X4_treatyRate : GoodIn wsL_treatyRate wsX4_treatyRate := goodIn_ca (goodIn_ca (goodIn_r _ [7, 8, 9, 10, 11, 12, 6, 13, 14, 15, 16, 17, 18, 19, 20, 21, 22, 23, 24, 25, 26, 27, 28, 29, 30, 31, 32, 33, 34, 35, 36, 37, 38, 39, 40, 41, 42, 43, 44, 45, 46, 47, 48, 49, 50, 51, 52, 53, 54, 55, 56, 57, 58, 59, 60, 61, 62, 63, 64, 65, 66, 67, 68, 69, 70, 71, 72, 73, 74, 75, 76, 77, 78, 79, 80, 81, 82, 83, 84, 85, 86, 87] (by decide +kernel) (by decide +kernel)) (goodIn_sub (fun _ h => List.mem_cons_of_mem _ (List.mem_append_left _ (List.mem_append_right _ h))) (by decide +kernel))) (goodIn_sub (fun _ h => List.mem_cons_of_mem _ (List.mem_append_right _ h)) (by decide +kernel))
set_option maxRecDepth 20000 in
theorem gL_treatyRate_X4_treatyRate : GoodIn wsL_treatyRate (wsV RL 46 RX4 yX4_treatyRate wsX4_treatyRate) := goodIn_app (goodIn_of _ (by decide +kernel)) ggL_treatyRate_X4_treatyRate
theorem dL_treatyRate_0 : decode cL_treatyRate 0 = .ok (.aload_n 2, 1) := by decide +kernel
theorem dL_treatyRate_1 : decode cL_treatyRate 1 = .ok (.iconst 0, 1) := by decide +kernel
theorem dL_treatyRate_2 : decode cL_treatyRate 2 = .ok (.aload_n 0, 1) := by decide +kernel
theorem dL_treatyRate_3 : decode cL_treatyRate 3 = .ok (.iload_n 1, 1) := by decide +kernel
theorem dL_treatyRate_4 : decode cL_treatyRate 4 = .ok (.invokevirtual 46, 3) := by decide +kernel
theorem dL_treatyRate_7 : decode cL_treatyRate 7 = .ok (.i2l, 1) := by decide +kernel
theorem dL_treatyRate_8 : decode cL_treatyRate 8 = .ok (.lastore, 1) := by decide +kernel
theorem dL_treatyRate_9 : decode cL_treatyRate 9 = .ok (.goto 9, 3) := by decide +kernel
theorem dL_treatyRate_12 : decode cL_treatyRate 12 = .ok (.astore_n 3, 1) := by decide +kernel
theorem dL_treatyRate_13 : decode cL_treatyRate 13 = .ok (.iconst 1, 1) := by decide +kernel
theorem dL_treatyRate_14 : decode cL_treatyRate 14 = .ok (.ireturn, 1) := by decide +kernel
theorem dL_treatyRate_15 : decode cL_treatyRate 15 = .ok (.astore_n 3, 1) := by decide +kernel
theorem dL_treatyRate_16 : decode cL_treatyRate 16 = .ok (.iconst 2, 1) := by decide +kernel
theorem dL_treatyRate_17 : decode cL_treatyRate 17 = .ok (.ireturn, 1) := by decide +kernel
theorem dL_treatyRate_18 : decode cL_treatyRate 18 = .ok (.iconst 0, 1) := by decide +kernel
theorem dL_treatyRate_19 : decode cL_treatyRate 19 = .ok (.ireturn, 1) := by decide +kernel
set_option maxRecDepth 20000 in
theorem ggL_pay_X4_pay : GoodIn wsL_pay wsX4_pay := goodIn_ca (goodIn_ca (goodIn_r _ [7, 8, 9, 10, 11, 12, 13, 14, 15, 16, 17, 18, 19, 20, 6, 21, 22, 23, 24, 25, 26, 27, 28, 29, 30, 31, 32, 33, 34, 35, 36, 37, 38, 39, 40, 41, 42, 43, 44, 45, 46, 47, 48, 49, 50, 51, 52, 53, 54, 55, 56, 57, 58, 59, 60, 61, 62, 63, 64, 65, 66, 67, 68, 69, 70, 71, 72, 73, 74, 75, 76, 77, 78, 79, 80, 81, 82, 83, 84, 85, 86, 87, 88, 89, 90, 91, 92, 93, 94, 95, 96, 97, 98, 99, 100, 101, 102, 103, 104, 105, 106, 107, 108, 109, 110, 111, 112, 113, 114, 115, 116, 117, 118, 119, 120, 121, 122, 123, 124, 125, 126, 127, 128, 129, 130, 131, 132, 133, 134, 135, 136, 137, 138, 139, 140, 141, 142, 143, 144, 145, 146, 147, 148, 149, 150, 151, 152, 153, 154, 155, 156, 157, 158, 159, 160, 161, 162, 163, 164, 165, 166, 167, 168, 169, 170, 171, 172, 173, 174, 175, 176, 177, 178, 179, 180, 181, 182, 183, 184, 185, 186, 187, 188, 189, 190, 191, 192, 193, 194, 195, 196, 197, 198, 199, 200, 201, 202, 203, 204, 205, 206, 207, 208, 209, 210, 211, 212, 213, 214, 215, 216, 217, 218, 219, 220, 221, 222, 223, 224, 225, 226, 227, 228, 229, 230, 231, 232, 233, 234] (by decide +kernel) (by decide +kernel)) (goodIn_sub (fun _ h => List.mem_cons_of_mem _ (List.mem_append_left _ (List.mem_append_right _ h))) (by decide +kernel))) (goodIn_sub (fun _ h => List.mem_cons_of_mem _ (List.mem_append_right _ h)) (by decide +kernel))
set_option maxRecDepth 20000 in
theorem gL_pay_X4_pay : GoodIn wsL_pay (wsV RL 49 RX4 yX4_pay wsX4_pay) := goodIn_app (goodIn_of _ (by decide +kernel)) ggL_pay_X4_pay
theorem dL_pay_0 : decode cL_pay 0 = .ok (.aload_n 2, 1) := by decide +kernel
theorem dL_pay_1 : decode cL_pay 1 = .ok (.iconst 0, 1) := by decide +kernel
theorem dL_pay_2 : decode cL_pay 2 = .ok (.aload_n 0, 1) := by decide +kernel
theorem dL_pay_3 : decode cL_pay 3 = .ok (.iload_n 1, 1) := by decide +kernel
theorem dL_pay_4 : decode cL_pay 4 = .ok (.invokevirtual 49, 3) := by decide +kernel
theorem dL_pay_7 : decode cL_pay 7 = .ok (.i2l, 1) := by decide +kernel
theorem dL_pay_8 : decode cL_pay 8 = .ok (.lastore, 1) := by decide +kernel
theorem dL_pay_9 : decode cL_pay 9 = .ok (.goto 9, 3) := by decide +kernel
theorem dL_pay_12 : decode cL_pay 12 = .ok (.astore_n 3, 1) := by decide +kernel
theorem dL_pay_13 : decode cL_pay 13 = .ok (.iconst 1, 1) := by decide +kernel
theorem dL_pay_14 : decode cL_pay 14 = .ok (.ireturn, 1) := by decide +kernel
theorem dL_pay_15 : decode cL_pay 15 = .ok (.astore_n 3, 1) := by decide +kernel
theorem dL_pay_16 : decode cL_pay 16 = .ok (.iconst 2, 1) := by decide +kernel
theorem dL_pay_17 : decode cL_pay 17 = .ok (.ireturn, 1) := by decide +kernel
theorem dL_pay_18 : decode cL_pay 18 = .ok (.iconst 0, 1) := by decide +kernel
theorem dL_pay_19 : decode cL_pay 19 = .ok (.ireturn, 1) := by decide +kernel
set_option maxRecDepth 20000 in
theorem ggL_gross_X4_gross : GoodIn wsL_gross wsX4_gross := goodIn_ca (goodIn_r _ [6, 7, 8, 9, 5, 10, 11, 12, 13, 14, 15, 16, 17, 18, 19, 20, 21, 22, 23, 24, 25, 26, 27, 28, 29, 30, 31, 32, 33, 34, 35, 36, 37, 38, 39, 40, 41, 42, 43, 44, 45, 46, 47, 48, 49, 50, 51, 52, 53, 54, 55, 56, 57, 58, 59, 60, 61, 62, 63, 64, 65, 66, 67, 68, 69] (by decide +kernel) (by decide +kernel)) (goodIn_sub (fun _ h => List.mem_cons_of_mem _ (List.mem_append_right _ h)) (by decide +kernel))
set_option maxRecDepth 20000 in
theorem gL_gross_X4_gross : GoodIn wsL_gross (wsV RL 52 RX4 yX4_gross wsX4_gross) := goodIn_app (goodIn_of _ (by decide +kernel)) ggL_gross_X4_gross
theorem dL_gross_0 : decode cL_gross 0 = .ok (.aload_n 3, 1) := by decide +kernel
theorem dL_gross_1 : decode cL_gross 1 = .ok (.iconst 0, 1) := by decide +kernel
theorem dL_gross_2 : decode cL_gross 2 = .ok (.aload_n 0, 1) := by decide +kernel
theorem dL_gross_3 : decode cL_gross 3 = .ok (.iload_n 1, 1) := by decide +kernel
theorem dL_gross_4 : decode cL_gross 4 = .ok (.iload_n 2, 1) := by decide +kernel
theorem dL_gross_5 : decode cL_gross 5 = .ok (.invokevirtual 52, 3) := by decide +kernel
theorem dL_gross_8 : decode cL_gross 8 = .ok (.i2l, 1) := by decide +kernel
theorem dL_gross_9 : decode cL_gross 9 = .ok (.lastore, 1) := by decide +kernel
theorem dL_gross_10 : decode cL_gross 10 = .ok (.goto 7, 3) := by decide +kernel
theorem dL_gross_13 : decode cL_gross 13 = .ok (.astore 4, 2) := by decide +kernel
theorem dL_gross_15 : decode cL_gross 15 = .ok (.iconst 1, 1) := by decide +kernel
theorem dL_gross_16 : decode cL_gross 16 = .ok (.ireturn, 1) := by decide +kernel
theorem dL_gross_17 : decode cL_gross 17 = .ok (.iconst 0, 1) := by decide +kernel
theorem dL_gross_18 : decode cL_gross 18 = .ok (.ireturn, 1) := by decide +kernel
set_option maxRecDepth 20000 in
theorem ggL_held_X4_held : GoodIn wsL_held wsX4_held := goodIn_ca (goodIn_r _ [6, 7, 8, 9, 5, 10, 11, 12, 13, 14, 15, 16, 17, 18, 19, 20, 21, 22, 23, 24, 25, 26, 27, 28, 29, 30, 31, 32, 33, 34, 35, 36, 37, 38, 39, 40, 41, 42, 43, 44, 45, 46, 47, 48, 49, 50, 51, 52, 53, 54, 55, 56, 57, 58, 59, 60, 61, 62, 63, 64, 65, 66, 67, 68, 69] (by decide +kernel) (by decide +kernel)) (goodIn_sub (fun _ h => List.mem_cons_of_mem _ (List.mem_append_right _ h)) (by decide +kernel))
set_option maxRecDepth 20000 in
theorem gL_held_X4_held : GoodIn wsL_held (wsV RL 55 RX4 yX4_held wsX4_held) := goodIn_app (goodIn_of _ (by decide +kernel)) ggL_held_X4_held
theorem dL_held_0 : decode cL_held 0 = .ok (.aload_n 3, 1) := by decide +kernel
theorem dL_held_1 : decode cL_held 1 = .ok (.iconst 0, 1) := by decide +kernel
theorem dL_held_2 : decode cL_held 2 = .ok (.aload_n 0, 1) := by decide +kernel
theorem dL_held_3 : decode cL_held 3 = .ok (.iload_n 1, 1) := by decide +kernel
theorem dL_held_4 : decode cL_held 4 = .ok (.iload_n 2, 1) := by decide +kernel
theorem dL_held_5 : decode cL_held 5 = .ok (.invokevirtual 55, 3) := by decide +kernel
theorem dL_held_8 : decode cL_held 8 = .ok (.i2l, 1) := by decide +kernel
theorem dL_held_9 : decode cL_held 9 = .ok (.lastore, 1) := by decide +kernel
theorem dL_held_10 : decode cL_held 10 = .ok (.goto 7, 3) := by decide +kernel
theorem dL_held_13 : decode cL_held 13 = .ok (.astore 4, 2) := by decide +kernel
theorem dL_held_15 : decode cL_held 15 = .ok (.iconst 1, 1) := by decide +kernel
theorem dL_held_16 : decode cL_held 16 = .ok (.ireturn, 1) := by decide +kernel
theorem dL_held_17 : decode cL_held 17 = .ok (.iconst 0, 1) := by decide +kernel
theorem dL_held_18 : decode cL_held 18 = .ok (.ireturn, 1) := by decide +kernel
set_option maxRecDepth 20000 in
theorem ggL_due_X4_due : GoodIn wsL_due wsX4_due := goodIn_ca (goodIn_r _ [6, 7, 8, 9, 5, 10, 11, 12, 13, 14, 15, 16, 17, 18, 19, 20, 21, 22, 23, 24, 25, 26, 27, 28, 29, 30, 31, 32, 33, 34, 35, 36, 37, 38, 39, 40, 41, 42, 43, 44, 45, 46, 47, 48, 49, 50, 51, 52, 53, 54, 55, 56, 57, 58, 59, 60, 61, 62, 63, 64, 65, 66, 67, 68, 69, 70, 71, 72, 73, 74, 75, 76, 77, 78, 79, 80, 81, 82, 83, 84, 85, 86, 87, 88] (by decide +kernel) (by decide +kernel)) (goodIn_sub (fun _ h => List.mem_cons_of_mem _ (List.mem_append_right _ h)) (by decide +kernel))
set_option maxRecDepth 20000 in
theorem gL_due_X4_due : GoodIn wsL_due (wsV RL 58 RX4 yX4_due wsX4_due) := goodIn_app (goodIn_of _ (by decide +kernel)) ggL_due_X4_due
theorem dL_due_0 : decode cL_due 0 = .ok (.aload_n 3, 1) := by decide +kernel
theorem dL_due_1 : decode cL_due 1 = .ok (.iconst 0, 1) := by decide +kernel
theorem dL_due_2 : decode cL_due 2 = .ok (.aload_n 0, 1) := by decide +kernel
theorem dL_due_3 : decode cL_due 3 = .ok (.iload_n 1, 1) := by decide +kernel
theorem dL_due_4 : decode cL_due 4 = .ok (.iload_n 2, 1) := by decide +kernel
theorem dL_due_5 : decode cL_due 5 = .ok (.invokevirtual 58, 3) := by decide +kernel
theorem dL_due_8 : decode cL_due 8 = .ok (.i2l, 1) := by decide +kernel
theorem dL_due_9 : decode cL_due 9 = .ok (.lastore, 1) := by decide +kernel
theorem dL_due_10 : decode cL_due 10 = .ok (.goto 7, 3) := by decide +kernel
theorem dL_due_13 : decode cL_due 13 = .ok (.astore 4, 2) := by decide +kernel
theorem dL_due_15 : decode cL_due 15 = .ok (.iconst 1, 1) := by decide +kernel
theorem dL_due_16 : decode cL_due 16 = .ok (.ireturn, 1) := by decide +kernel
theorem dL_due_17 : decode cL_due 17 = .ok (.iconst 0, 1) := by decide +kernel
theorem dL_due_18 : decode cL_due 18 = .ok (.ireturn, 1) := by decide +kernel
set_option maxRecDepth 20000 in
theorem ggL_refund_X4_refund : GoodIn wsL_refund wsX4_refund := goodIn_ca (goodIn_ca (goodIn_r _ [7, 8, 9, 10, 6, 11, 12, 13, 14, 15, 16, 17, 18, 19, 20, 21, 22, 23, 24, 25, 26, 27, 28, 29, 30, 31, 32, 33, 34, 35, 36, 37, 38, 39, 40, 41, 42, 43, 44, 45, 46, 47, 48, 49, 50, 51, 52, 53, 54, 55, 56, 57, 58, 59, 60, 61, 62, 63, 64, 65, 66, 67, 68, 69, 70, 71, 72, 73, 74, 75, 76, 77, 78, 79, 80, 81, 82, 83, 84, 85, 86, 87, 88, 89, 90, 91, 92, 93, 94, 95, 96, 97, 98, 99, 100, 101, 102, 103, 104, 105, 106, 107, 108, 109, 110, 111, 112, 113, 114, 115, 116, 117, 118, 119, 120, 121, 122, 123, 124, 125, 126, 127, 128] (by decide +kernel) (by decide +kernel)) (goodIn_sub (fun _ h => List.mem_cons_of_mem _ (List.mem_append_left _ (List.mem_append_right _ h))) (by decide +kernel))) (goodIn_sub (fun _ h => List.mem_cons_of_mem _ (List.mem_append_right _ h)) (by decide +kernel))
set_option maxRecDepth 20000 in
theorem gL_refund_X4_refund : GoodIn wsL_refund (wsV RL 61 RX4 yX4_refund wsX4_refund) := goodIn_app (goodIn_of _ (by decide +kernel)) ggL_refund_X4_refund
theorem dL_refund_0 : decode cL_refund 0 = .ok (.aload_n 3, 1) := by decide +kernel
theorem dL_refund_1 : decode cL_refund 1 = .ok (.iconst 0, 1) := by decide +kernel
theorem dL_refund_2 : decode cL_refund 2 = .ok (.aload_n 0, 1) := by decide +kernel
theorem dL_refund_3 : decode cL_refund 3 = .ok (.iload_n 1, 1) := by decide +kernel
theorem dL_refund_4 : decode cL_refund 4 = .ok (.iload_n 2, 1) := by decide +kernel
theorem dL_refund_5 : decode cL_refund 5 = .ok (.invokevirtual 61, 3) := by decide +kernel
theorem dL_refund_8 : decode cL_refund 8 = .ok (.i2l, 1) := by decide +kernel
theorem dL_refund_9 : decode cL_refund 9 = .ok (.lastore, 1) := by decide +kernel
theorem dL_refund_10 : decode cL_refund 10 = .ok (.goto 11, 3) := by decide +kernel
theorem dL_refund_13 : decode cL_refund 13 = .ok (.astore 4, 2) := by decide +kernel
theorem dL_refund_15 : decode cL_refund 15 = .ok (.iconst 1, 1) := by decide +kernel
theorem dL_refund_16 : decode cL_refund 16 = .ok (.ireturn, 1) := by decide +kernel
theorem dL_refund_17 : decode cL_refund 17 = .ok (.astore 4, 2) := by decide +kernel
theorem dL_refund_19 : decode cL_refund 19 = .ok (.iconst 2, 1) := by decide +kernel
theorem dL_refund_20 : decode cL_refund 20 = .ok (.ireturn, 1) := by decide +kernel
theorem dL_refund_21 : decode cL_refund 21 = .ok (.iconst 0, 1) := by decide +kernel
theorem dL_refund_22 : decode cL_refund 22 = .ok (.ireturn, 1) := by decide +kernel
set_option maxRecDepth 20000 in
theorem ggL_claim_X4_claim : GoodIn wsL_claim wsX4_claim := goodIn_ca (goodIn_ca (goodIn_r _ [7, 8, 9, 10, 11, 12, 13, 6, 14, 15, 16, 17, 18, 19, 20, 21, 22, 23, 24, 25, 26, 27, 28, 29, 30, 31, 32, 33, 34, 35, 36, 37, 38, 39, 40, 41, 42, 43, 44, 45, 46, 47, 48, 49, 50, 51, 52, 53, 54, 55, 56, 57, 58, 59, 60, 61, 62, 63, 64, 65, 66, 67, 68, 69, 70, 71, 72, 73, 74, 75, 76, 77, 78, 79, 80, 81, 82, 83, 84, 85, 86, 87, 88, 89, 90, 91, 92, 93, 94, 95, 96, 97, 98, 99, 100, 101, 102, 103, 104, 105, 106, 107, 108, 109, 110, 111, 112, 113, 114, 115, 116, 117, 118, 119, 120, 121, 122, 123, 124, 125] (by decide +kernel) (by decide +kernel)) (goodIn_sub (fun _ h => List.mem_cons_of_mem _ (List.mem_append_left _ (List.mem_append_right _ h))) (by decide +kernel))) (goodIn_sub (fun _ h => List.mem_cons_of_mem _ (List.mem_append_right _ h)) (by decide +kernel))
set_option maxRecDepth 20000 in
theorem gL_claim_X4_claim : GoodIn wsL_claim (wsV RL 64 RX4 yX4_claim wsX4_claim) := goodIn_app (goodIn_of _ (by decide +kernel)) ggL_claim_X4_claim
theorem dL_claim_0 : decode cL_claim 0 = .ok (.aload_n 3, 1) := by decide +kernel
theorem dL_claim_1 : decode cL_claim 1 = .ok (.iconst 0, 1) := by decide +kernel
theorem dL_claim_2 : decode cL_claim 2 = .ok (.aload_n 0, 1) := by decide +kernel
theorem dL_claim_3 : decode cL_claim 3 = .ok (.iload_n 1, 1) := by decide +kernel
theorem dL_claim_4 : decode cL_claim 4 = .ok (.iload_n 2, 1) := by decide +kernel
theorem dL_claim_5 : decode cL_claim 5 = .ok (.invokevirtual 64, 3) := by decide +kernel
theorem dL_claim_8 : decode cL_claim 8 = .ok (.i2l, 1) := by decide +kernel
theorem dL_claim_9 : decode cL_claim 9 = .ok (.lastore, 1) := by decide +kernel
theorem dL_claim_10 : decode cL_claim 10 = .ok (.goto 11, 3) := by decide +kernel
theorem dL_claim_13 : decode cL_claim 13 = .ok (.astore 4, 2) := by decide +kernel
theorem dL_claim_15 : decode cL_claim 15 = .ok (.iconst 1, 1) := by decide +kernel
theorem dL_claim_16 : decode cL_claim 16 = .ok (.ireturn, 1) := by decide +kernel
theorem dL_claim_17 : decode cL_claim 17 = .ok (.astore 4, 2) := by decide +kernel
theorem dL_claim_19 : decode cL_claim 19 = .ok (.iconst 2, 1) := by decide +kernel
theorem dL_claim_20 : decode cL_claim 20 = .ok (.ireturn, 1) := by decide +kernel
theorem dL_claim_21 : decode cL_claim 21 = .ok (.iconst 0, 1) := by decide +kernel
theorem dL_claim_22 : decode cL_claim 22 = .ok (.ireturn, 1) := by decide +kernel
set_option maxRecDepth 20000 in
theorem ggL_law_X4_init : GoodIn wsL_law wsX4_init := goodIn_r _ [9, 10, 11, 12, 13, 14, 15, 16, 17, 18, 19, 20, 21, 22, 23, 24, 25, 26, 27, 28, 29, 30, 31, 32, 33, 34, 35, 36, 37, 575, 576, 577, 578, 579, 580, 602, 603, 604] (by decide +kernel) (by decide +kernel)
set_option maxRecDepth 20000 in
theorem gL_law_X4_init : GoodIn wsL_law (wsX4_init) := ggL_law_X4_init
set_option maxRecDepth 20000 in
theorem ggL_law_X5_init : GoodIn wsL_law wsX5_init := goodIn_r _ [40, 41, 11, 12, 13, 42, 43, 44, 45, 46, 47, 48, 49, 50, 51, 52, 53, 54, 55, 56, 57, 58, 581, 582, 583, 584, 585, 586, 587, 588, 589, 590, 591, 592, 593, 594, 595, 596, 597, 598, 599, 600, 601] (by decide +kernel) (by decide +kernel)
set_option maxRecDepth 20000 in
theorem gL_law_X5_init : GoodIn wsL_law (wsX5_init) := ggL_law_X5_init
set_option maxRecDepth 20000 in
theorem ggL_law_L_setTreaty : GoodIn wsL_law wsL_setTreaty := goodIn_ca (goodIn_r _ [62, 63, 64, 65, 66, 2, 67, 68, 69, 14, 15, 70, 71, 72, 73, 74, 75, 575, 576, 577, 578, 579, 580] (by decide +kernel) (by decide +kernel)) (goodIn_sub (fun _ h => List.mem_append_left _ (List.mem_append_left _ (List.mem_append_right _ h))) (by decide +kernel))
set_option maxRecDepth 20000 in
theorem gL_law_L_setTreaty : GoodIn wsL_law (va_wsS RL 71 yL_setTreaty wsL_setTreaty) := goodIn_app (goodIn_of _ (by decide +kernel)) ggL_law_L_setTreaty
set_option maxRecDepth 20000 in
theorem ggL_law_X5_setTreaty : GoodIn wsL_law wsX5_setTreaty := goodIn_r _ [79, 42, 43, 80, 81, 5, 82, 83, 84, 85, 86, 87, 581, 582, 583, 584, 585, 586, 587, 588, 589, 590, 591, 592, 593, 594, 595, 596, 597, 598, 599, 600, 601] (by decide +kernel) (by decide +kernel)
set_option maxRecDepth 20000 in
theorem gL_law_X5_setTreaty : GoodIn wsL_law (wsV RL 76 RX5 yX5_setTreaty wsX5_setTreaty) := goodIn_app (goodIn_of _ (by decide +kernel)) ggL_law_X5_setTreaty
set_option maxRecDepth 20000 in
theorem ggL_law_X5_thrown : GoodIn wsL_law wsX5_thrown := goodIn_r _ [91, 87, 581, 582, 583, 584, 585, 586, 587, 588, 589, 590, 591, 592, 593, 594, 595, 596, 597, 598, 599, 600, 601] (by decide +kernel) (by decide +kernel)
set_option maxRecDepth 20000 in
theorem gL_law_X5_thrown : GoodIn wsL_law (wsV RL 77 RX5 yX5_thrown wsX5_thrown) := goodIn_app (goodIn_of _ (by decide +kernel)) ggL_law_X5_thrown
set_option maxRecDepth 20000 in
theorem ggL_law_L_addHolder : GoodIn wsL_law wsL_addHolder := goodIn_ca (goodIn_ca (goodIn_r _ [94, 63, 95, 96, 97, 98, 2, 99, 68, 69, 100, 101, 19, 102, 103, 104, 73, 74, 75, 70, 71, 72, 105, 106, 107, 18, 108, 109, 110, 111, 112, 11, 12, 13, 113, 114, 115, 116, 117, 118, 119, 120, 121, 122, 123, 124, 27, 125, 126, 127, 128, 129, 130, 131, 132, 133, 134, 135, 136, 26, 137, 138, 139, 140, 141, 142, 143, 144, 145, 146, 147, 148, 149, 150, 151, 152, 153, 154, 155, 156, 157, 158, 159, 160, 161, 162, 163, 164, 165, 166, 167, 168, 169, 170, 575, 576, 577, 578, 579, 580, 605, 606, 607, 608, 609, 610, 602, 603, 604] (by decide +kernel) (by decide +kernel)) (goodIn_sub (fun _ h => List.mem_append_left _ (List.mem_append_left _ (List.mem_append_right _ h))) (by decide +kernel))) (goodIn_sub (fun _ h => List.mem_append_left _ (List.mem_append_right _ h)) (by decide +kernel))
set_option maxRecDepth 20000 in
theorem gL_law_L_addHolder : GoodIn wsL_law (va_wsS RL 81 yL_addHolder wsL_addHolder) := goodIn_app (goodIn_of _ (by decide +kernel)) ggL_law_L_addHolder
set_option maxRecDepth 20000 in
theorem ggL_law_X5_addHolder : GoodIn wsL_law wsX5_addHolder := goodIn_r _ [174, 175, 44, 45, 80, 81, 5, 82, 83, 84, 85, 86, 87, 581, 582, 583, 584, 585, 586, 587, 588, 589, 590, 591, 592, 593, 594, 595, 596, 597, 598, 599, 600, 601] (by decide +kernel) (by decide +kernel)
set_option maxRecDepth 20000 in
theorem gL_law_X5_addHolder : GoodIn wsL_law (wsV RL 84 RX5 yX5_addHolder wsX5_addHolder) := goodIn_app (goodIn_of _ (by decide +kernel)) ggL_law_X5_addHolder
set_option maxRecDepth 20000 in
theorem ggL_law_L_setParts : GoodIn wsL_law wsL_setParts := goodIn_ca (goodIn_ca (goodIn_r _ [178, 179, 63, 180, 181, 182, 2, 183, 68, 69, 184, 185, 186, 187, 188, 189, 19, 190, 191, 192, 193, 194, 105, 106, 107, 18, 108, 109, 73, 74, 75, 195, 196, 197, 198, 199, 200, 201, 202, 203, 204, 205, 206, 207, 208, 209, 210, 27, 211, 104, 212, 213, 113, 214, 215, 216, 605, 606, 607, 608, 609, 610, 575, 576, 577, 578, 579, 580, 602, 603, 604] (by decide +kernel) (by decide +kernel)) (goodIn_sub (fun _ h => List.mem_append_left _ (List.mem_append_left _ (List.mem_append_right _ h))) (by decide +kernel))) (goodIn_sub (fun _ h => List.mem_append_right _ h) (by decide +kernel))
set_option maxRecDepth 20000 in
theorem gL_law_L_setParts : GoodIn wsL_law (va_wsS RL 85 yL_setParts wsL_setParts) := goodIn_app (goodIn_of _ (by decide +kernel)) ggL_law_L_setParts
set_option maxRecDepth 20000 in
theorem ggL_law_X5_setParts : GoodIn wsL_law wsX5_setParts := goodIn_r _ [220, 44, 49, 221, 222, 223, 5, 224, 175, 80, 81, 82, 83, 84, 85, 86, 87, 581, 582, 583, 584, 585, 586, 587, 588, 589, 590, 591, 592, 593, 594, 595, 596, 597, 598, 599, 600, 601] (by decide +kernel) (by decide +kernel)
set_option maxRecDepth 20000 in
theorem gL_law_X5_setParts : GoodIn wsL_law (wsV RL 87 RX5 yX5_setParts wsX5_setParts) := goodIn_app (goodIn_of _ (by decide +kernel)) ggL_law_X5_setParts
set_option maxRecDepth 20000 in
theorem ggL_law_L_setShares : GoodIn wsL_law wsL_setShares := goodIn_ca (goodIn_ca (goodIn_ca (goodIn_r _ [227, 179, 63, 95, 228, 229, 230, 2, 231, 68, 69, 100, 101, 232, 184, 185, 186, 187, 188, 189, 19, 190, 191, 192, 193, 194, 105, 106, 107, 18, 108, 109, 73, 74, 75, 195, 196, 197, 198, 199, 200, 201, 202, 203, 204, 205, 206, 207, 208, 209, 210, 27, 233, 234, 235, 236, 605, 606, 607, 608, 609, 610, 575, 576, 577, 578, 579, 580, 602, 603, 604] (by decide +kernel) (by decide +kernel)) (goodIn_sub (fun _ h => List.mem_append_left _ (List.mem_append_left _ (List.mem_append_right _ h))) (by decide +kernel))) (goodIn_sub (fun _ h => List.mem_append_left _ (List.mem_append_right _ h)) (by decide +kernel))) (goodIn_sub (fun _ h => List.mem_append_right _ h) (by decide +kernel))
set_option maxRecDepth 20000 in
theorem gL_law_L_setShares : GoodIn wsL_law (va_wsS RL 88 yL_setShares wsL_setShares) := goodIn_app (goodIn_of _ (by decide +kernel)) ggL_law_L_setShares
set_option maxRecDepth 20000 in
theorem ggL_law_X5_setShares : GoodIn wsL_law wsX5_setShares := goodIn_r _ [240, 241, 46, 221, 222, 223, 5, 224, 175, 80, 81, 82, 242, 243, 244, 245, 83, 84, 85, 86, 87, 581, 582, 583, 584, 585, 586, 587, 588, 589, 590, 591, 592, 593, 594, 595, 596, 597, 598, 599, 600, 601] (by decide +kernel) (by decide +kernel)
set_option maxRecDepth 20000 in
theorem gL_law_X5_setShares : GoodIn wsL_law (wsV RL 90 RX5 yX5_setShares wsX5_setShares) := goodIn_app (goodIn_of _ (by decide +kernel)) ggL_law_X5_setShares
set_option maxRecDepth 20000 in
theorem ggL_law_L_giveForm : GoodIn wsL_law wsL_giveForm := goodIn_ca (goodIn_r _ [248, 179, 249, 250, 251, 2, 252, 21, 184, 185, 186, 187, 188, 189, 19, 190, 191, 192, 193, 194, 105, 106, 107, 18, 108, 109, 73, 74, 75, 195, 196, 197, 198, 199, 200, 201, 202, 203, 204, 205, 206, 207, 208, 209, 210, 27, 575, 576, 577, 578, 579, 580, 605, 606, 607, 608, 609, 610, 602, 603, 604] (by decide +kernel) (by decide +kernel)) (goodIn_sub (fun _ h => List.mem_append_right _ h) (by decide +kernel))
set_option maxRecDepth 20000 in
theorem gL_law_L_giveForm : GoodIn wsL_law (va_wsS RL 91 yL_giveForm wsL_giveForm) := goodIn_app (goodIn_of _ (by decide +kernel)) ggL_law_L_giveForm
set_option maxRecDepth 20000 in
theorem ggL_law_X5_giveForm : GoodIn wsL_law wsX5_giveForm := goodIn_r _ [256, 47, 257, 221, 222, 223, 5, 224, 175, 80, 81, 82, 83, 84, 85, 86, 87, 581, 582, 583, 584, 585, 586, 587, 588, 589, 590, 591, 592, 593, 594, 595, 596, 597, 598, 599, 600, 601] (by decide +kernel) (by decide +kernel)
set_option maxRecDepth 20000 in
theorem gL_law_X5_giveForm : GoodIn wsL_law (wsV RL 94 RX5 yX5_giveForm wsX5_giveForm) := goodIn_app (goodIn_of _ (by decide +kernel)) ggL_law_X5_giveForm
set_option maxRecDepth 20000 in
theorem ggL_law_L_pass : GoodIn wsL_law wsL_pass := goodIn_ca (goodIn_ca (goodIn_r _ [260, 63, 95, 261, 262, 263, 2, 264, 68, 69, 100, 101, 21, 19, 190, 73, 74, 75, 105, 106, 107, 18, 108, 109, 195, 196, 197, 198, 199, 200, 201, 202, 203, 204, 205, 206, 207, 208, 209, 210, 27, 265, 104, 266, 267, 114, 268, 116, 575, 576, 577, 578, 579, 580, 602, 603, 604, 605, 606, 607, 608, 609, 610] (by decide +kernel) (by decide +kernel)) (goodIn_sub (fun _ h => List.mem_append_left _ (List.mem_append_left _ (List.mem_append_right _ h))) (by decide +kernel))) (goodIn_sub (fun _ h => List.mem_append_left _ (List.mem_append_right _ h)) (by decide +kernel))
set_option maxRecDepth 20000 in
theorem gL_law_L_pass : GoodIn wsL_law (va_wsS RL 95 yL_pass wsL_pass) := goodIn_app (goodIn_of _ (by decide +kernel)) ggL_law_L_pass
set_option maxRecDepth 20000 in
theorem ggL_law_X5_pass : GoodIn wsL_law wsX5_pass := goodIn_r _ [272, 257, 175, 48, 46, 273, 80, 81, 5, 82, 83, 84, 85, 86, 87, 581, 582, 583, 584, 585, 586, 587, 588, 589, 590, 591, 592, 593, 594, 595, 596, 597, 598, 599, 600, 601] (by decide +kernel) (by decide +kernel)
set_option maxRecDepth 20000 in
theorem gL_law_X5_pass : GoodIn wsL_law (wsV RL 97 RX5 yX5_pass wsX5_pass) := goodIn_app (goodIn_of _ (by decide +kernel)) ggL_law_X5_pass
set_option maxRecDepth 20000 in
theorem ggL_law_X4_day : GoodIn wsL_law wsX4_day := goodIn_r _ [277, 21, 575, 576, 577, 578, 579, 580] (by decide +kernel) (by decide +kernel)
set_option maxRecDepth 20000 in
theorem gL_law_X4_day : GoodIn wsL_law (wsV RL 98 RX4 yX4_day wsX4_day) := goodIn_app (goodIn_of _ (by decide +kernel)) ggL_law_X4_day
set_option maxRecDepth 20000 in
theorem ggL_law_X5_day : GoodIn wsL_law wsX5_day := goodIn_r _ [281, 87, 257, 581, 582, 583, 584, 585, 586, 587, 588, 589, 590, 591, 592, 593, 594, 595, 596, 597, 598, 599, 600, 601] (by decide +kernel) (by decide +kernel)
set_option maxRecDepth 20000 in
theorem gL_law_X5_day : GoodIn wsL_law (wsV RL 101 RX5 yX5_day wsX5_day) := goodIn_app (goodIn_of _ (by decide +kernel)) ggL_law_X5_day
set_option maxRecDepth 20000 in
theorem ggL_law_L_shares : GoodIn wsL_law wsL_shares := goodIn_ca (goodIn_r _ [284, 179, 285, 286, 287, 2, 288, 184, 185, 186, 187, 188, 189, 19, 190, 191, 192, 193, 194, 105, 106, 107, 18, 108, 109, 73, 74, 75, 195, 196, 197, 198, 199, 200, 201, 202, 203, 204, 205, 206, 207, 208, 209, 210, 27, 605, 606, 607, 608, 609, 610, 575, 576, 577, 578, 579, 580, 602, 603, 604] (by decide +kernel) (by decide +kernel)) (goodIn_sub (fun _ h => List.mem_append_right _ h) (by decide +kernel))
set_option maxRecDepth 20000 in
theorem gL_law_L_shares : GoodIn wsL_law (va_wsS RL 102 yL_shares wsL_shares) := goodIn_app (goodIn_of _ (by decide +kernel)) ggL_law_L_shares
set_option maxRecDepth 20000 in
theorem ggL_law_X5_shares : GoodIn wsL_law wsX5_shares := goodIn_r _ [292, 46, 293, 294, 295, 5, 296, 221, 222, 223, 224, 175, 80, 81, 82, 83, 84, 85, 86, 87, 581, 582, 583, 584, 585, 586, 587, 588, 589, 590, 591, 592, 593, 594, 595, 596, 597, 598, 599, 600, 601] (by decide +kernel) (by decide +kernel)
set_option maxRecDepth 20000 in
theorem gL_law_X5_shares : GoodIn wsL_law (wsV RL 104 RX5 yX5_shares wsX5_shares) := goodIn_app (goodIn_of _ (by decide +kernel)) ggL_law_X5_shares
set_option maxRecDepth 20000 in
theorem ggL_law_L_isValid : GoodIn wsL_law wsL_isValid := goodIn_ca (goodIn_r _ [299, 179, 300, 301, 302, 2, 303, 21, 184, 185, 186, 187, 188, 189, 19, 190, 191, 192, 193, 194, 105, 106, 107, 18, 108, 109, 73, 74, 75, 195, 196, 197, 198, 199, 200, 201, 202, 203, 204, 205, 206, 207, 208, 209, 210, 27, 304, 104, 305, 306, 115, 575, 576, 577, 578, 579, 580, 602, 603, 604, 605, 606, 607, 608, 609, 610] (by decide +kernel) (by decide +kernel)) (goodIn_sub (fun _ h => List.mem_append_right _ h) (by decide +kernel))
set_option maxRecDepth 20000 in
theorem gL_law_L_isValid : GoodIn wsL_law (va_wsS RL 105 yL_isValid wsL_isValid) := goodIn_app (goodIn_of _ (by decide +kernel)) ggL_law_L_isValid
set_option maxRecDepth 20000 in
theorem ggL_law_X5_isValid : GoodIn wsL_law wsX5_isValid := goodIn_r _ [310, 293, 294, 295, 5, 296, 221, 222, 223, 224, 175, 80, 81, 82, 83, 84, 85, 86, 87, 311, 312, 313, 314, 47, 257, 581, 582, 583, 584, 585, 586, 587, 588, 589, 590, 591, 592, 593, 594, 595, 596, 597, 598, 599, 600, 601] (by decide +kernel) (by decide +kernel)
set_option maxRecDepth 20000 in
theorem gL_law_X5_isValid : GoodIn wsL_law (wsV RL 107 RX5 yX5_isValid wsX5_isValid) := goodIn_app (goodIn_of _ (by decide +kernel)) ggL_law_X5_isValid
set_option maxRecDepth 20000 in
theorem ggL_law_L_isLarge : GoodIn wsL_law wsL_isLarge := goodIn_ca (goodIn_r _ [317, 179, 318, 319, 320, 2, 321, 21, 184, 185, 186, 187, 188, 189, 19, 190, 191, 192, 193, 194, 105, 106, 107, 18, 108, 109, 73, 74, 75, 195, 196, 197, 198, 199, 200, 201, 202, 203, 204, 205, 206, 207, 208, 209, 210, 27, 322, 104, 323, 324, 117, 114, 268, 116, 575, 576, 577, 578, 579, 580, 602, 603, 604, 605, 606, 607, 608, 609, 610] (by decide +kernel) (by decide +kernel)) (goodIn_sub (fun _ h => List.mem_append_right _ h) (by decide +kernel))
set_option maxRecDepth 20000 in
theorem gL_law_L_isLarge : GoodIn wsL_law (va_wsS RL 108 yL_isLarge wsL_isLarge) := goodIn_app (goodIn_of _ (by decide +kernel)) ggL_law_L_isLarge
set_option maxRecDepth 20000 in
theorem ggL_law_X5_isLarge : GoodIn wsL_law wsX5_isLarge := goodIn_r _ [328, 293, 294, 295, 5, 296, 221, 222, 223, 224, 175, 80, 81, 82, 83, 84, 85, 86, 87, 329, 330, 331, 332, 44, 46, 273, 48, 257, 581, 582, 583, 584, 585, 586, 587, 588, 589, 590, 591, 592, 593, 594, 595, 596, 597, 598, 599, 600, 601] (by decide +kernel) (by decide +kernel)
set_option maxRecDepth 20000 in
theorem gL_law_X5_isLarge : GoodIn wsL_law (wsV RL 110 RX5 yX5_isLarge wsX5_isLarge) := goodIn_app (goodIn_of _ (by decide +kernel)) ggL_law_X5_isLarge
set_option maxRecDepth 20000 in
theorem ggL_law_L_treatyRate : GoodIn wsL_law wsL_treatyRate := goodIn_ca (goodIn_ca (goodIn_r _ [335, 179, 63, 336, 337, 338, 2, 339, 68, 69, 184, 185, 186, 187, 188, 189, 19, 190, 191, 192, 193, 194, 105, 106, 107, 18, 108, 109, 73, 74, 75, 195, 196, 197, 198, 199, 200, 201, 202, 203, 204, 205, 206, 207, 208, 209, 210, 27, 340, 341, 342, 343, 14, 21, 15, 344, 165, 139, 166, 345, 346, 347, 70, 71, 72, 322, 104, 323, 324, 117, 114, 268, 116, 605, 606, 607, 608, 609, 610, 575, 576, 577, 578, 579, 580, 602, 603, 604] (by decide +kernel) (by decide +kernel)) (goodIn_sub (fun _ h => List.mem_append_left _ (List.mem_append_left _ (List.mem_append_right _ h))) (by decide +kernel))) (goodIn_sub (fun _ h => List.mem_append_right _ h) (by decide +kernel))
set_option maxRecDepth 20000 in
theorem gL_law_L_treatyRate : GoodIn wsL_law (va_wsS RL 111 yL_treatyRate wsL_treatyRate) := goodIn_app (goodIn_of _ (by decide +kernel)) ggL_law_L_treatyRate
set_option maxRecDepth 20000 in
theorem ggL_law_X5_treatyRate : GoodIn wsL_law wsX5_treatyRate := goodIn_r _ [351, 44, 221, 222, 223, 5, 224, 175, 80, 81, 82, 83, 84, 85, 86, 87, 352, 353, 354, 355, 42, 45, 43, 329, 330, 331, 332, 46, 273, 48, 257, 581, 582, 583, 584, 585, 586, 587, 588, 589, 590, 591, 592, 593, 594, 595, 596, 597, 598, 599, 600, 601] (by decide +kernel) (by decide +kernel)
set_option maxRecDepth 20000 in
theorem gL_law_X5_treatyRate : GoodIn wsL_law (wsV RL 113 RX5 yX5_treatyRate wsX5_treatyRate) := goodIn_app (goodIn_of _ (by decide +kernel)) ggL_law_X5_treatyRate
set_option maxRecDepth 20000 in
theorem ggL_law_L_pay : GoodIn wsL_law wsL_pay := goodIn_ca (goodIn_ca (goodIn_r _ [358, 63, 95, 359, 360, 361, 2, 362, 68, 69, 100, 101, 20, 363, 364, 365, 21, 19, 190, 73, 74, 75, 105, 106, 107, 18, 108, 109, 233, 234, 235, 236, 195, 196, 197, 198, 199, 200, 201, 202, 203, 204, 205, 206, 207, 208, 209, 210, 27, 366, 367, 368, 369, 304, 104, 305, 306, 115, 370, 371, 372, 373, 374, 375, 11, 12, 376, 377, 378, 379, 380, 381, 382, 383, 384, 385, 386, 387, 388, 389, 390, 391, 392, 393, 17, 394, 395, 396, 397, 24, 25, 26, 28, 29, 30, 31, 32, 33, 34, 35, 36, 37, 398, 399, 400, 401, 14, 402, 403, 404, 113, 405, 406, 407, 408, 409, 410, 411, 412, 413, 414, 120, 121, 122, 123, 124, 125, 126, 127, 128, 129, 130, 131, 132, 133, 134, 135, 136, 137, 138, 139, 140, 141, 142, 143, 144, 145, 146, 147, 148, 149, 150, 151, 152, 153, 154, 155, 156, 157, 158, 159, 160, 161, 162, 163, 164, 165, 166, 167, 168, 169, 170, 211, 212, 213, 415, 416, 417, 345, 346, 347, 70, 71, 72, 340, 341, 342, 343, 15, 344, 322, 323, 324, 117, 114, 268, 116, 418, 419, 420, 421, 422, 423, 424, 425, 426, 427, 428, 429, 430, 119, 575, 576, 577, 578, 579, 580, 611, 612, 613, 605, 606, 607, 608, 609, 610, 602, 603, 604, 614, 615, 616, 617, 618, 619] (by decide +kernel) (by decide +kernel)) (goodIn_sub (fun _ h => List.mem_append_left _ (List.mem_append_left _ (List.mem_append_right _ h))) (by decide +kernel))) (goodIn_sub (fun _ h => List.mem_append_left _ (List.mem_append_right _ h)) (by decide +kernel))
set_option maxRecDepth 20000 in
theorem gL_law_L_pay : GoodIn wsL_law (va_wsS RL 114 yL_pay wsL_pay) := goodIn_app (goodIn_of _ (by decide +kernel)) ggL_law_L_pay
set_option maxRecDepth 20000 in
theorem ggL_law_X5_pay : GoodIn wsL_law wsX5_pay := goodIn_r _ [434, 435, 50, 257, 175, 51, 46, 57, 54, 44, 42, 45, 55, 58, 49, 52, 53, 80, 81, 5, 82, 242, 243, 244, 245, 83, 84, 85, 86, 87, 311, 312, 313, 314, 47, 352, 353, 354, 355, 43, 329, 330, 331, 332, 273, 48, 436, 437, 438, 439, 440, 441, 442, 443, 444, 445, 446, 447, 448, 449, 450, 451, 581, 582, 583, 584, 585, 586, 587, 588, 589, 590, 591, 592, 593, 594, 595, 596, 597, 598, 599, 600, 601] (by decide +kernel) (by decide +kernel)
set_option maxRecDepth 20000 in
theorem gL_law_X5_pay : GoodIn wsL_law (wsV RL 116 RX5 yX5_pay wsX5_pay) := goodIn_app (goodIn_of _ (by decide +kernel)) ggL_law_X5_pay
set_option maxRecDepth 20000 in
theorem ggL_law_X4_dividends : GoodIn wsL_law wsX4_dividends := goodIn_r _ [455, 20, 105, 106, 107, 18, 108, 109, 575, 576, 577, 578, 579, 580, 602, 603, 604] (by decide +kernel) (by decide +kernel)
set_option maxRecDepth 20000 in
theorem gL_law_X4_dividends : GoodIn wsL_law (wsV RL 117 RX4 yX4_dividends wsX4_dividends) := goodIn_app (goodIn_of _ (by decide +kernel)) ggL_law_X4_dividends
set_option maxRecDepth 20000 in
theorem ggL_law_X5_dividends : GoodIn wsL_law wsX5_dividends := goodIn_r _ [459, 87, 435, 581, 582, 583, 584, 585, 586, 587, 588, 589, 590, 591, 592, 593, 594, 595, 596, 597, 598, 599, 600, 601] (by decide +kernel) (by decide +kernel)
set_option maxRecDepth 20000 in
theorem gL_law_X5_dividends : GoodIn wsL_law (wsV RL 120 RX5 yX5_dividends wsX5_dividends) := goodIn_app (goodIn_of _ (by decide +kernel)) ggL_law_X5_dividends
set_option maxRecDepth 20000 in
theorem ggL_law_L_gross : GoodIn wsL_law wsL_gross := goodIn_ca (goodIn_r _ [462, 179, 463, 464, 465, 2, 466, 467, 468, 469, 470, 188, 189, 471, 472, 473, 474, 20, 475, 105, 106, 107, 18, 108, 109, 73, 74, 75, 195, 196, 197, 198, 199, 200, 201, 202, 203, 204, 205, 206, 207, 208, 209, 210, 27, 191, 192, 193, 194, 19, 476, 365, 477, 478, 377, 614, 615, 616, 575, 576, 577, 578, 579, 580, 602, 603, 604, 611, 612, 613] (by decide +kernel) (by decide +kernel)) (goodIn_sub (fun _ h => List.mem_append_right _ h) (by decide +kernel))
set_option maxRecDepth 20000 in
theorem gL_law_L_gross : GoodIn wsL_law (va_wsS RL 121 yL_gross wsL_gross) := goodIn_app (goodIn_of _ (by decide +kernel)) ggL_law_L_gross
set_option maxRecDepth 20000 in
theorem ggL_law_X5_gross : GoodIn wsL_law wsX5_gross := goodIn_r _ [482, 51, 483, 484, 485, 5, 486, 487, 488, 489, 490, 435, 80, 81, 82, 221, 222, 223, 224, 175, 83, 84, 85, 86, 87, 581, 582, 583, 584, 585, 586, 587, 588, 589, 590, 591, 592, 593, 594, 595, 596, 597, 598, 599, 600, 601] (by decide +kernel) (by decide +kernel)
set_option maxRecDepth 20000 in
theorem gL_law_X5_gross : GoodIn wsL_law (wsV RL 123 RX5 yX5_gross wsX5_gross) := goodIn_app (goodIn_of _ (by decide +kernel)) ggL_law_X5_gross
set_option maxRecDepth 20000 in
theorem ggL_law_L_held : GoodIn wsL_law wsL_held := goodIn_ca (goodIn_r _ [493, 179, 494, 495, 496, 2, 497, 467, 468, 469, 470, 188, 189, 471, 472, 473, 474, 20, 475, 105, 106, 107, 18, 108, 109, 73, 74, 75, 195, 196, 197, 198, 199, 200, 201, 202, 203, 204, 205, 206, 207, 208, 209, 210, 27, 191, 192, 193, 194, 19, 476, 365, 477, 478, 377, 614, 615, 616, 575, 576, 577, 578, 579, 580, 602, 603, 604, 611, 612, 613] (by decide +kernel) (by decide +kernel)) (goodIn_sub (fun _ h => List.mem_append_right _ h) (by decide +kernel))
set_option maxRecDepth 20000 in
theorem gL_law_L_held : GoodIn wsL_law (va_wsS RL 124 yL_held wsL_held) := goodIn_app (goodIn_of _ (by decide +kernel)) ggL_law_L_held
set_option maxRecDepth 20000 in
theorem ggL_law_X5_held : GoodIn wsL_law wsX5_held := goodIn_r _ [501, 52, 483, 484, 485, 5, 486, 487, 488, 489, 490, 435, 80, 81, 82, 221, 222, 223, 224, 175, 83, 84, 85, 86, 87, 581, 582, 583, 584, 585, 586, 587, 588, 589, 590, 591, 592, 593, 594, 595, 596, 597, 598, 599, 600, 601] (by decide +kernel) (by decide +kernel)
set_option maxRecDepth 20000 in
theorem gL_law_X5_held : GoodIn wsL_law (wsV RL 126 RX5 yX5_held wsX5_held) := goodIn_app (goodIn_of _ (by decide +kernel)) ggL_law_X5_held
set_option maxRecDepth 20000 in
theorem ggL_law_L_due : GoodIn wsL_law wsL_due := goodIn_ca (goodIn_r _ [504, 179, 505, 506, 507, 2, 508, 467, 468, 469, 470, 188, 189, 471, 472, 473, 474, 20, 475, 105, 106, 107, 18, 108, 109, 73, 74, 75, 195, 196, 197, 198, 199, 200, 201, 202, 203, 204, 205, 206, 207, 208, 209, 210, 27, 191, 192, 193, 194, 19, 476, 365, 477, 478, 377, 421, 386, 422, 423, 394, 424, 425, 426, 427, 389, 428, 429, 410, 409, 408, 430, 575, 576, 577, 578, 579, 580, 602, 603, 604, 611, 612, 613, 614, 615, 616, 617, 618, 619] (by decide +kernel) (by decide +kernel)) (goodIn_sub (fun _ h => List.mem_append_right _ h) (by decide +kernel))
set_option maxRecDepth 20000 in
theorem gL_law_L_due : GoodIn wsL_law (va_wsS RL 127 yL_due wsL_due) := goodIn_app (goodIn_of _ (by decide +kernel)) ggL_law_L_due
set_option maxRecDepth 20000 in
theorem ggL_law_X5_due : GoodIn wsL_law wsX5_due := goodIn_r _ [512, 53, 483, 484, 485, 5, 486, 487, 488, 489, 490, 435, 80, 81, 82, 221, 222, 223, 224, 175, 83, 84, 85, 86, 87, 581, 582, 583, 584, 585, 586, 587, 588, 589, 590, 591, 592, 593, 594, 595, 596, 597, 598, 599, 600, 601] (by decide +kernel) (by decide +kernel)
set_option maxRecDepth 20000 in
theorem gL_law_X5_due : GoodIn wsL_law (wsV RL 129 RX5 yX5_due wsX5_due) := goodIn_app (goodIn_of _ (by decide +kernel)) ggL_law_X5_due
set_option maxRecDepth 20000 in
theorem ggL_law_X4_heldInAll : GoodIn wsL_law wsX4_heldInAll := goodIn_r _ [516, 20, 475, 105, 106, 107, 18, 108, 109, 195, 196, 197, 198, 199, 200, 201, 202, 203, 204, 205, 206, 207, 208, 209, 210, 27, 517, 365, 518, 519, 377, 575, 576, 577, 578, 579, 580, 602, 603, 604, 611, 612, 613, 614, 615, 616] (by decide +kernel) (by decide +kernel)
set_option maxRecDepth 20000 in
theorem gL_law_X4_heldInAll : GoodIn wsL_law (wsV RL 130 RX4 yX4_heldInAll wsX4_heldInAll) := goodIn_app (goodIn_of _ (by decide +kernel)) ggL_law_X4_heldInAll
set_option maxRecDepth 20000 in
theorem ggL_law_X5_heldInAll : GoodIn wsL_law wsX5_heldInAll := goodIn_r _ [523, 87, 52, 581, 582, 583, 584, 585, 586, 587, 588, 589, 590, 591, 592, 593, 594, 595, 596, 597, 598, 599, 600, 601] (by decide +kernel) (by decide +kernel)
set_option maxRecDepth 20000 in
theorem gL_law_X5_heldInAll : GoodIn wsL_law (wsV RL 134 RX5 yX5_heldInAll wsX5_heldInAll) := goodIn_app (goodIn_of _ (by decide +kernel)) ggL_law_X5_heldInAll
set_option maxRecDepth 20000 in
theorem ggL_law_X4_refunded : GoodIn wsL_law wsX4_refunded := goodIn_r _ [527, 22, 575, 576, 577, 578, 579, 580] (by decide +kernel) (by decide +kernel)
set_option maxRecDepth 20000 in
theorem gL_law_X4_refunded : GoodIn wsL_law (wsV RL 135 RX4 yX4_refunded wsX4_refunded) := goodIn_app (goodIn_of _ (by decide +kernel)) ggL_law_X4_refunded
set_option maxRecDepth 20000 in
theorem ggL_law_X5_refunded : GoodIn wsL_law wsX5_refunded := goodIn_r _ [531, 87, 532, 581, 582, 583, 584, 585, 586, 587, 588, 589, 590, 591, 592, 593, 594, 595, 596, 597, 598, 599, 600, 601] (by decide +kernel) (by decide +kernel)
set_option maxRecDepth 20000 in
theorem gL_law_X5_refunded : GoodIn wsL_law (wsV RL 138 RX5 yX5_refunded wsX5_refunded) := goodIn_app (goodIn_of _ (by decide +kernel)) ggL_law_X5_refunded
set_option maxRecDepth 20000 in
theorem ggL_law_L_refund : GoodIn wsL_law wsL_refund := goodIn_ca (goodIn_ca (goodIn_r _ [535, 179, 95, 536, 537, 538, 2, 539, 540, 541, 542, 543, 100, 101, 21, 467, 468, 469, 470, 188, 189, 471, 472, 473, 474, 20, 475, 105, 106, 107, 18, 108, 109, 73, 74, 75, 195, 196, 197, 198, 199, 200, 201, 202, 203, 204, 205, 206, 207, 208, 209, 210, 27, 191, 192, 193, 194, 19, 476, 365, 477, 478, 377, 366, 367, 368, 369, 190, 304, 104, 305, 306, 115, 370, 371, 372, 421, 386, 422, 423, 394, 424, 425, 426, 427, 389, 428, 429, 410, 409, 408, 430, 544, 545, 546, 547, 22, 548, 549, 550, 395, 551, 138, 139, 140, 611, 612, 613, 575, 576, 577, 578, 579, 580, 602, 603, 604, 605, 606, 607, 608, 609, 610, 614, 615, 616, 617, 618, 619] (by decide +kernel) (by decide +kernel)) (goodIn_sub (fun _ h => List.mem_append_left _ (List.mem_append_right _ h)) (by decide +kernel))) (goodIn_sub (fun _ h => List.mem_append_right _ h) (by decide +kernel))
set_option maxRecDepth 20000 in
theorem gL_law_L_refund : GoodIn wsL_law (va_wsS RL 139 yL_refund wsL_refund) := goodIn_app (goodIn_of _ (by decide +kernel)) ggL_law_L_refund
set_option maxRecDepth 20000 in
theorem ggL_law_X5_refund : GoodIn wsL_law wsX5_refund := goodIn_r _ [555, 487, 488, 489, 5, 490, 435, 80, 81, 82, 221, 222, 223, 224, 175, 556, 557, 558, 559, 51, 257, 50, 83, 84, 85, 86, 87, 436, 437, 438, 439, 44, 55, 440, 441, 442, 443, 58, 54, 444, 445, 446, 447, 448, 449, 450, 451, 57, 311, 312, 313, 314, 47, 560, 561, 562, 563, 52, 532, 581, 582, 583, 584, 585, 586, 587, 588, 589, 590, 591, 592, 593, 594, 595, 596, 597, 598, 599, 600, 601] (by decide +kernel) (by decide +kernel)
set_option maxRecDepth 20000 in
theorem gL_law_X5_refund : GoodIn wsL_law (wsV RL 141 RX5 yX5_refund wsX5_refund) := goodIn_app (goodIn_of _ (by decide +kernel)) ggL_law_X5_refund
set_option maxRecDepth 20000 in
theorem ggL_law_L_claim : GoodIn wsL_law wsL_claim := goodIn_ca (goodIn_ca (goodIn_r _ [566, 179, 95, 567, 568, 569, 2, 570, 100, 101, 21, 540, 541, 542, 543, 467, 468, 469, 470, 188, 189, 471, 472, 473, 474, 20, 475, 105, 106, 107, 18, 108, 109, 73, 74, 75, 195, 196, 197, 198, 199, 200, 201, 202, 203, 204, 205, 206, 207, 208, 209, 210, 27, 191, 192, 193, 194, 19, 476, 365, 477, 478, 377, 184, 185, 186, 187, 190, 304, 104, 305, 306, 115, 421, 386, 422, 423, 394, 424, 425, 426, 427, 389, 428, 429, 410, 409, 408, 430, 544, 545, 546, 547, 22, 548, 549, 550, 395, 551, 138, 139, 140, 575, 576, 577, 578, 579, 580, 611, 612, 613, 602, 603, 604, 605, 606, 607, 608, 609, 610, 614, 615, 616, 617, 618, 619] (by decide +kernel) (by decide +kernel)) (goodIn_sub (fun _ h => List.mem_append_left _ (List.mem_append_right _ h)) (by decide +kernel))) (goodIn_sub (fun _ h => List.mem_append_right _ h) (by decide +kernel))
set_option maxRecDepth 20000 in
theorem gL_law_L_claim : GoodIn wsL_law (va_wsS RL 142 yL_claim wsL_claim) := goodIn_app (goodIn_of _ (by decide +kernel)) ggL_law_L_claim
set_option maxRecDepth 20000 in
theorem ggL_law_X5_claim : GoodIn wsL_law wsX5_claim := goodIn_r _ [574, 53, 487, 488, 489, 5, 490, 435, 80, 81, 82, 221, 222, 223, 224, 175, 556, 557, 558, 559, 51, 257, 50, 311, 312, 313, 314, 47, 83, 84, 85, 86, 87, 560, 561, 562, 563, 52, 532, 581, 582, 583, 584, 585, 586, 587, 588, 589, 590, 591, 592, 593, 594, 595, 596, 597, 598, 599, 600, 601] (by decide +kernel) (by decide +kernel)
set_option maxRecDepth 20000 in
theorem gL_law_X5_claim : GoodIn wsL_law (wsV RL 144 RX5 yX5_claim wsX5_claim) := goodIn_app (goodIn_of _ (by decide +kernel)) ggL_law_X5_claim
theorem dL_law_0 : decode cL_law 0 = .ok (.new 8, 3) := by decide +kernel
theorem dL_law_3 : decode cL_law 3 = .ok (.dup, 1) := by decide +kernel
theorem dL_law_4 : decode cL_law 4 = .ok (.invokespecial 67, 3) := by decide +kernel
theorem dL_law_7 : decode cL_law 7 = .ok (.astore_n 1, 1) := by decide +kernel
theorem dL_law_8 : decode cL_law 8 = .ok (.new 68, 3) := by decide +kernel
theorem dL_law_11 : decode cL_law 11 = .ok (.dup, 1) := by decide +kernel
theorem dL_law_12 : decode cL_law 12 = .ok (.invokespecial 70, 3) := by decide +kernel
theorem dL_law_15 : decode cL_law 15 = .ok (.astore_n 2, 1) := by decide +kernel
theorem dL_law_16 : decode cL_law 16 = .ok (.iconst 1, 1) := by decide +kernel
theorem dL_law_17 : decode cL_law 17 = .ok (.newarray .long, 2) := by decide +kernel
theorem dL_law_19 : decode cL_law 19 = .ok (.astore_n 3, 1) := by decide +kernel
theorem dL_law_20 : decode cL_law 20 = .ok (.iconst 0, 1) := by decide +kernel
theorem dL_law_21 : decode cL_law 21 = .ok (.istore 4, 2) := by decide +kernel
theorem dL_law_23 : decode cL_law 23 = .ok (.iload 4, 2) := by decide +kernel
theorem dL_law_25 : decode cL_law 25 = .ok (.aload_n 0, 1) := by decide +kernel
theorem dL_law_26 : decode cL_law 26 = .ok (.arraylength, 1) := by decide +kernel
theorem dL_law_27 : decode cL_law 27 = .ok (.iconst 4, 1) := by decide +kernel
theorem dL_law_28 : decode cL_law 28 = .ok (.isub, 1) := by decide +kernel
theorem dL_law_29 : decode cL_law 29 = .ok (.if_icmp .gt 1205, 3) := by decide +kernel
theorem dL_law_32 : decode cL_law 32 = .ok (.aload_n 0, 1) := by decide +kernel
theorem dL_law_33 : decode cL_law 33 = .ok (.iload 4, 2) := by decide +kernel
theorem dL_law_35 : decode cL_law 35 = .ok (.iaload, 1) := by decide +kernel
theorem dL_law_36 : decode cL_law 36 = .ok (.bipush 31, 2) := by decide +kernel
theorem dL_law_38 : decode cL_law 38 = .ok (.iand, 1) := by decide +kernel
theorem dL_law_39 : decode cL_law 39 = .ok (.tableswitch 1189 0 19 #[93, 173, 241, 321, 389, 445, 501, 514, 570, 633, 696, 752, 808, 821, 889, 957, 1025, 1039, 1053, 1121], 93) := by decide +kernel
theorem dL_law_132 : decode cL_law 132 = .ok (.aload_n 1, 1) := by decide +kernel
theorem dL_law_133 : decode cL_law 133 = .ok (.aload_n 0, 1) := by decide +kernel
theorem dL_law_134 : decode cL_law 134 = .ok (.iload 4, 2) := by decide +kernel
theorem dL_law_136 : decode cL_law 136 = .ok (.iconst 1, 1) := by decide +kernel
theorem dL_law_137 : decode cL_law 137 = .ok (.iadd, 1) := by decide +kernel
theorem dL_law_138 : decode cL_law 138 = .ok (.iaload, 1) := by decide +kernel
theorem dL_law_139 : decode cL_law 139 = .ok (.aload_n 0, 1) := by decide +kernel
theorem dL_law_140 : decode cL_law 140 = .ok (.iload 4, 2) := by decide +kernel
theorem dL_law_142 : decode cL_law 142 = .ok (.iconst 2, 1) := by decide +kernel
theorem dL_law_143 : decode cL_law 143 = .ok (.iadd, 1) := by decide +kernel
theorem dL_law_144 : decode cL_law 144 = .ok (.iaload, 1) := by decide +kernel
theorem dL_law_145 : decode cL_law 145 = .ok (.aload_n 0, 1) := by decide +kernel
theorem dL_law_146 : decode cL_law 146 = .ok (.iload 4, 2) := by decide +kernel
theorem dL_law_148 : decode cL_law 148 = .ok (.iconst 3, 1) := by decide +kernel
theorem dL_law_149 : decode cL_law 149 = .ok (.iadd, 1) := by decide +kernel
theorem dL_law_150 : decode cL_law 150 = .ok (.iaload, 1) := by decide +kernel
theorem dL_law_151 : decode cL_law 151 = .ok (.aload_n 3, 1) := by decide +kernel
theorem dL_law_152 : decode cL_law 152 = .ok (.invokestatic 71, 3) := by decide +kernel
theorem dL_law_155 : decode cL_law 155 = .ok (.istore 5, 2) := by decide +kernel
theorem dL_law_157 : decode cL_law 157 = .ok (.aload_n 2, 1) := by decide +kernel
theorem dL_law_158 : decode cL_law 158 = .ok (.aload_n 0, 1) := by decide +kernel
theorem dL_law_159 : decode cL_law 159 = .ok (.iload 4, 2) := by decide +kernel
theorem dL_law_161 : decode cL_law 161 = .ok (.iconst 1, 1) := by decide +kernel
theorem dL_law_162 : decode cL_law 162 = .ok (.iadd, 1) := by decide +kernel
theorem dL_law_163 : decode cL_law 163 = .ok (.iaload, 1) := by decide +kernel
theorem dL_law_164 : decode cL_law 164 = .ok (.aload_n 0, 1) := by decide +kernel
theorem dL_law_165 : decode cL_law 165 = .ok (.iload 4, 2) := by decide +kernel
theorem dL_law_167 : decode cL_law 167 = .ok (.iconst 2, 1) := by decide +kernel
theorem dL_law_168 : decode cL_law 168 = .ok (.iadd, 1) := by decide +kernel
theorem dL_law_169 : decode cL_law 169 = .ok (.iaload, 1) := by decide +kernel
theorem dL_law_170 : decode cL_law 170 = .ok (.aload_n 0, 1) := by decide +kernel
theorem dL_law_171 : decode cL_law 171 = .ok (.iload 4, 2) := by decide +kernel
theorem dL_law_173 : decode cL_law 173 = .ok (.iconst 3, 1) := by decide +kernel
theorem dL_law_174 : decode cL_law 174 = .ok (.iadd, 1) := by decide +kernel
theorem dL_law_175 : decode cL_law 175 = .ok (.iaload, 1) := by decide +kernel
theorem dL_law_176 : decode cL_law 176 = .ok (.invokevirtual 76, 3) := by decide +kernel
theorem dL_law_179 : decode cL_law 179 = .ok (.istore 6, 2) := by decide +kernel
theorem dL_law_181 : decode cL_law 181 = .ok (.aload_n 2, 1) := by decide +kernel
theorem dL_law_182 : decode cL_law 182 = .ok (.invokevirtual 77, 3) := by decide +kernel
theorem dL_law_185 : decode cL_law 185 = .ok (.iload 5, 2) := by decide +kernel
theorem dL_law_187 : decode cL_law 187 = .ok (.if_icmp .eq 5, 3) := by decide +kernel
theorem dL_law_190 : decode cL_law 190 = .ok (.iconst 0, 1) := by decide +kernel
theorem dL_law_191 : decode cL_law 191 = .ok (.ireturn, 1) := by decide +kernel
theorem dL_law_192 : decode cL_law 192 = .ok (.iload 5, 2) := by decide +kernel
theorem dL_law_194 : decode cL_law 194 = .ok (.ifCond .ne 15, 3) := by decide +kernel
theorem dL_law_197 : decode cL_law 197 = .ok (.aload_n 3, 1) := by decide +kernel
theorem dL_law_198 : decode cL_law 198 = .ok (.iconst 0, 1) := by decide +kernel
theorem dL_law_199 : decode cL_law 199 = .ok (.laload, 1) := by decide +kernel
theorem dL_law_200 : decode cL_law 200 = .ok (.iload 6, 2) := by decide +kernel
theorem dL_law_202 : decode cL_law 202 = .ok (.i2l, 1) := by decide +kernel
theorem dL_law_203 : decode cL_law 203 = .ok (.lcmp, 1) := by decide +kernel
theorem dL_law_204 : decode cL_law 204 = .ok (.ifCond .eq 5, 3) := by decide +kernel
theorem dL_law_207 : decode cL_law 207 = .ok (.iconst 0, 1) := by decide +kernel
theorem dL_law_208 : decode cL_law 208 = .ok (.ireturn, 1) := by decide +kernel
theorem dL_law_209 : decode cL_law 209 = .ok (.goto 1019, 3) := by decide +kernel
theorem dL_law_212 : decode cL_law 212 = .ok (.aload_n 1, 1) := by decide +kernel
theorem dL_law_213 : decode cL_law 213 = .ok (.aload_n 0, 1) := by decide +kernel
theorem dL_law_214 : decode cL_law 214 = .ok (.iload 4, 2) := by decide +kernel
theorem dL_law_216 : decode cL_law 216 = .ok (.iconst 1, 1) := by decide +kernel
theorem dL_law_217 : decode cL_law 217 = .ok (.iadd, 1) := by decide +kernel
theorem dL_law_218 : decode cL_law 218 = .ok (.iaload, 1) := by decide +kernel
theorem dL_law_219 : decode cL_law 219 = .ok (.aload_n 0, 1) := by decide +kernel
theorem dL_law_220 : decode cL_law 220 = .ok (.iload 4, 2) := by decide +kernel
theorem dL_law_222 : decode cL_law 222 = .ok (.iconst 2, 1) := by decide +kernel
theorem dL_law_223 : decode cL_law 223 = .ok (.iadd, 1) := by decide +kernel
theorem dL_law_224 : decode cL_law 224 = .ok (.iaload, 1) := by decide +kernel
theorem dL_law_225 : decode cL_law 225 = .ok (.aload_n 3, 1) := by decide +kernel
theorem dL_law_226 : decode cL_law 226 = .ok (.invokestatic 81, 3) := by decide +kernel
theorem dL_law_229 : decode cL_law 229 = .ok (.istore 5, 2) := by decide +kernel
theorem dL_law_231 : decode cL_law 231 = .ok (.aload_n 2, 1) := by decide +kernel
theorem dL_law_232 : decode cL_law 232 = .ok (.aload_n 0, 1) := by decide +kernel
theorem dL_law_233 : decode cL_law 233 = .ok (.iload 4, 2) := by decide +kernel
theorem dL_law_235 : decode cL_law 235 = .ok (.iconst 1, 1) := by decide +kernel
theorem dL_law_236 : decode cL_law 236 = .ok (.iadd, 1) := by decide +kernel
theorem dL_law_237 : decode cL_law 237 = .ok (.iaload, 1) := by decide +kernel
theorem dL_law_238 : decode cL_law 238 = .ok (.aload_n 0, 1) := by decide +kernel
theorem dL_law_239 : decode cL_law 239 = .ok (.iload 4, 2) := by decide +kernel
theorem dL_law_241 : decode cL_law 241 = .ok (.iconst 2, 1) := by decide +kernel
theorem dL_law_242 : decode cL_law 242 = .ok (.iadd, 1) := by decide +kernel
theorem dL_law_243 : decode cL_law 243 = .ok (.iaload, 1) := by decide +kernel
theorem dL_law_244 : decode cL_law 244 = .ok (.invokevirtual 84, 3) := by decide +kernel
theorem dL_law_247 : decode cL_law 247 = .ok (.istore 6, 2) := by decide +kernel
theorem dL_law_249 : decode cL_law 249 = .ok (.aload_n 2, 1) := by decide +kernel
theorem dL_law_250 : decode cL_law 250 = .ok (.invokevirtual 77, 3) := by decide +kernel
theorem dL_law_253 : decode cL_law 253 = .ok (.iload 5, 2) := by decide +kernel
theorem dL_law_255 : decode cL_law 255 = .ok (.if_icmp .eq 5, 3) := by decide +kernel
theorem dL_law_258 : decode cL_law 258 = .ok (.iconst 0, 1) := by decide +kernel
theorem dL_law_259 : decode cL_law 259 = .ok (.ireturn, 1) := by decide +kernel
theorem dL_law_260 : decode cL_law 260 = .ok (.iload 5, 2) := by decide +kernel
theorem dL_law_262 : decode cL_law 262 = .ok (.ifCond .ne 15, 3) := by decide +kernel
theorem dL_law_265 : decode cL_law 265 = .ok (.aload_n 3, 1) := by decide +kernel
theorem dL_law_266 : decode cL_law 266 = .ok (.iconst 0, 1) := by decide +kernel
theorem dL_law_267 : decode cL_law 267 = .ok (.laload, 1) := by decide +kernel
theorem dL_law_268 : decode cL_law 268 = .ok (.iload 6, 2) := by decide +kernel
theorem dL_law_270 : decode cL_law 270 = .ok (.i2l, 1) := by decide +kernel
theorem dL_law_271 : decode cL_law 271 = .ok (.lcmp, 1) := by decide +kernel
theorem dL_law_272 : decode cL_law 272 = .ok (.ifCond .eq 5, 3) := by decide +kernel
theorem dL_law_275 : decode cL_law 275 = .ok (.iconst 0, 1) := by decide +kernel
theorem dL_law_276 : decode cL_law 276 = .ok (.ireturn, 1) := by decide +kernel
theorem dL_law_277 : decode cL_law 277 = .ok (.goto 951, 3) := by decide +kernel
theorem dL_law_280 : decode cL_law 280 = .ok (.aload_n 1, 1) := by decide +kernel
theorem dL_law_281 : decode cL_law 281 = .ok (.aload_n 0, 1) := by decide +kernel
theorem dL_law_282 : decode cL_law 282 = .ok (.iload 4, 2) := by decide +kernel
theorem dL_law_284 : decode cL_law 284 = .ok (.iconst 1, 1) := by decide +kernel
theorem dL_law_285 : decode cL_law 285 = .ok (.iadd, 1) := by decide +kernel
theorem dL_law_286 : decode cL_law 286 = .ok (.iaload, 1) := by decide +kernel
theorem dL_law_287 : decode cL_law 287 = .ok (.aload_n 0, 1) := by decide +kernel
theorem dL_law_288 : decode cL_law 288 = .ok (.iload 4, 2) := by decide +kernel
theorem dL_law_290 : decode cL_law 290 = .ok (.iconst 2, 1) := by decide +kernel
theorem dL_law_291 : decode cL_law 291 = .ok (.iadd, 1) := by decide +kernel
theorem dL_law_292 : decode cL_law 292 = .ok (.iaload, 1) := by decide +kernel
theorem dL_law_293 : decode cL_law 293 = .ok (.aload_n 0, 1) := by decide +kernel
theorem dL_law_294 : decode cL_law 294 = .ok (.iload 4, 2) := by decide +kernel
theorem dL_law_296 : decode cL_law 296 = .ok (.iconst 3, 1) := by decide +kernel
theorem dL_law_297 : decode cL_law 297 = .ok (.iadd, 1) := by decide +kernel
theorem dL_law_298 : decode cL_law 298 = .ok (.iaload, 1) := by decide +kernel
theorem dL_law_299 : decode cL_law 299 = .ok (.aload_n 3, 1) := by decide +kernel
theorem dL_law_300 : decode cL_law 300 = .ok (.invokestatic 85, 3) := by decide +kernel
theorem dL_law_303 : decode cL_law 303 = .ok (.istore 5, 2) := by decide +kernel
theorem dL_law_305 : decode cL_law 305 = .ok (.aload_n 2, 1) := by decide +kernel
theorem dL_law_306 : decode cL_law 306 = .ok (.aload_n 0, 1) := by decide +kernel
theorem dL_law_307 : decode cL_law 307 = .ok (.iload 4, 2) := by decide +kernel
theorem dL_law_309 : decode cL_law 309 = .ok (.iconst 1, 1) := by decide +kernel
theorem dL_law_310 : decode cL_law 310 = .ok (.iadd, 1) := by decide +kernel
theorem dL_law_311 : decode cL_law 311 = .ok (.iaload, 1) := by decide +kernel
theorem dL_law_312 : decode cL_law 312 = .ok (.aload_n 0, 1) := by decide +kernel
theorem dL_law_313 : decode cL_law 313 = .ok (.iload 4, 2) := by decide +kernel
theorem dL_law_315 : decode cL_law 315 = .ok (.iconst 2, 1) := by decide +kernel
theorem dL_law_316 : decode cL_law 316 = .ok (.iadd, 1) := by decide +kernel
theorem dL_law_317 : decode cL_law 317 = .ok (.iaload, 1) := by decide +kernel
theorem dL_law_318 : decode cL_law 318 = .ok (.aload_n 0, 1) := by decide +kernel
theorem dL_law_319 : decode cL_law 319 = .ok (.iload 4, 2) := by decide +kernel
theorem dL_law_321 : decode cL_law 321 = .ok (.iconst 3, 1) := by decide +kernel
theorem dL_law_322 : decode cL_law 322 = .ok (.iadd, 1) := by decide +kernel
theorem dL_law_323 : decode cL_law 323 = .ok (.iaload, 1) := by decide +kernel
theorem dL_law_324 : decode cL_law 324 = .ok (.invokevirtual 87, 3) := by decide +kernel
theorem dL_law_327 : decode cL_law 327 = .ok (.istore 6, 2) := by decide +kernel
theorem dL_law_329 : decode cL_law 329 = .ok (.aload_n 2, 1) := by decide +kernel
theorem dL_law_330 : decode cL_law 330 = .ok (.invokevirtual 77, 3) := by decide +kernel
theorem dL_law_333 : decode cL_law 333 = .ok (.iload 5, 2) := by decide +kernel
theorem dL_law_335 : decode cL_law 335 = .ok (.if_icmp .eq 5, 3) := by decide +kernel
theorem dL_law_338 : decode cL_law 338 = .ok (.iconst 0, 1) := by decide +kernel
theorem dL_law_339 : decode cL_law 339 = .ok (.ireturn, 1) := by decide +kernel
theorem dL_law_340 : decode cL_law 340 = .ok (.iload 5, 2) := by decide +kernel
theorem dL_law_342 : decode cL_law 342 = .ok (.ifCond .ne 15, 3) := by decide +kernel
theorem dL_law_345 : decode cL_law 345 = .ok (.aload_n 3, 1) := by decide +kernel
theorem dL_law_346 : decode cL_law 346 = .ok (.iconst 0, 1) := by decide +kernel
theorem dL_law_347 : decode cL_law 347 = .ok (.laload, 1) := by decide +kernel
theorem dL_law_348 : decode cL_law 348 = .ok (.iload 6, 2) := by decide +kernel
theorem dL_law_350 : decode cL_law 350 = .ok (.i2l, 1) := by decide +kernel
theorem dL_law_351 : decode cL_law 351 = .ok (.lcmp, 1) := by decide +kernel
theorem dL_law_352 : decode cL_law 352 = .ok (.ifCond .eq 5, 3) := by decide +kernel
theorem dL_law_355 : decode cL_law 355 = .ok (.iconst 0, 1) := by decide +kernel
theorem dL_law_356 : decode cL_law 356 = .ok (.ireturn, 1) := by decide +kernel
theorem dL_law_357 : decode cL_law 357 = .ok (.goto 871, 3) := by decide +kernel
theorem dL_law_360 : decode cL_law 360 = .ok (.aload_n 1, 1) := by decide +kernel
theorem dL_law_361 : decode cL_law 361 = .ok (.aload_n 0, 1) := by decide +kernel
theorem dL_law_362 : decode cL_law 362 = .ok (.iload 4, 2) := by decide +kernel
theorem dL_law_364 : decode cL_law 364 = .ok (.iconst 1, 1) := by decide +kernel
theorem dL_law_365 : decode cL_law 365 = .ok (.iadd, 1) := by decide +kernel
theorem dL_law_366 : decode cL_law 366 = .ok (.iaload, 1) := by decide +kernel
theorem dL_law_367 : decode cL_law 367 = .ok (.aload_n 0, 1) := by decide +kernel
theorem dL_law_368 : decode cL_law 368 = .ok (.iload 4, 2) := by decide +kernel
theorem dL_law_370 : decode cL_law 370 = .ok (.iconst 2, 1) := by decide +kernel
theorem dL_law_371 : decode cL_law 371 = .ok (.iadd, 1) := by decide +kernel
theorem dL_law_372 : decode cL_law 372 = .ok (.iaload, 1) := by decide +kernel
theorem dL_law_373 : decode cL_law 373 = .ok (.aload_n 3, 1) := by decide +kernel
theorem dL_law_374 : decode cL_law 374 = .ok (.invokestatic 88, 3) := by decide +kernel
theorem dL_law_377 : decode cL_law 377 = .ok (.istore 5, 2) := by decide +kernel
theorem dL_law_379 : decode cL_law 379 = .ok (.aload_n 2, 1) := by decide +kernel
theorem dL_law_380 : decode cL_law 380 = .ok (.aload_n 0, 1) := by decide +kernel
theorem dL_law_381 : decode cL_law 381 = .ok (.iload 4, 2) := by decide +kernel
theorem dL_law_383 : decode cL_law 383 = .ok (.iconst 1, 1) := by decide +kernel
theorem dL_law_384 : decode cL_law 384 = .ok (.iadd, 1) := by decide +kernel
theorem dL_law_385 : decode cL_law 385 = .ok (.iaload, 1) := by decide +kernel
theorem dL_law_386 : decode cL_law 386 = .ok (.aload_n 0, 1) := by decide +kernel
theorem dL_law_387 : decode cL_law 387 = .ok (.iload 4, 2) := by decide +kernel
theorem dL_law_389 : decode cL_law 389 = .ok (.iconst 2, 1) := by decide +kernel
theorem dL_law_390 : decode cL_law 390 = .ok (.iadd, 1) := by decide +kernel
theorem dL_law_391 : decode cL_law 391 = .ok (.iaload, 1) := by decide +kernel
theorem dL_law_392 : decode cL_law 392 = .ok (.invokevirtual 90, 3) := by decide +kernel
theorem dL_law_395 : decode cL_law 395 = .ok (.istore 6, 2) := by decide +kernel
theorem dL_law_397 : decode cL_law 397 = .ok (.aload_n 2, 1) := by decide +kernel
theorem dL_law_398 : decode cL_law 398 = .ok (.invokevirtual 77, 3) := by decide +kernel
theorem dL_law_401 : decode cL_law 401 = .ok (.iload 5, 2) := by decide +kernel
theorem dL_law_403 : decode cL_law 403 = .ok (.if_icmp .eq 5, 3) := by decide +kernel
theorem dL_law_406 : decode cL_law 406 = .ok (.iconst 0, 1) := by decide +kernel
theorem dL_law_407 : decode cL_law 407 = .ok (.ireturn, 1) := by decide +kernel
theorem dL_law_408 : decode cL_law 408 = .ok (.iload 5, 2) := by decide +kernel
theorem dL_law_410 : decode cL_law 410 = .ok (.ifCond .ne 15, 3) := by decide +kernel
theorem dL_law_413 : decode cL_law 413 = .ok (.aload_n 3, 1) := by decide +kernel
theorem dL_law_414 : decode cL_law 414 = .ok (.iconst 0, 1) := by decide +kernel
theorem dL_law_415 : decode cL_law 415 = .ok (.laload, 1) := by decide +kernel
theorem dL_law_416 : decode cL_law 416 = .ok (.iload 6, 2) := by decide +kernel
theorem dL_law_418 : decode cL_law 418 = .ok (.i2l, 1) := by decide +kernel
theorem dL_law_419 : decode cL_law 419 = .ok (.lcmp, 1) := by decide +kernel
theorem dL_law_420 : decode cL_law 420 = .ok (.ifCond .eq 5, 3) := by decide +kernel
theorem dL_law_423 : decode cL_law 423 = .ok (.iconst 0, 1) := by decide +kernel
theorem dL_law_424 : decode cL_law 424 = .ok (.ireturn, 1) := by decide +kernel
theorem dL_law_425 : decode cL_law 425 = .ok (.goto 803, 3) := by decide +kernel
theorem dL_law_428 : decode cL_law 428 = .ok (.aload_n 1, 1) := by decide +kernel
theorem dL_law_429 : decode cL_law 429 = .ok (.aload_n 0, 1) := by decide +kernel
theorem dL_law_430 : decode cL_law 430 = .ok (.iload 4, 2) := by decide +kernel
theorem dL_law_432 : decode cL_law 432 = .ok (.iconst 1, 1) := by decide +kernel
theorem dL_law_433 : decode cL_law 433 = .ok (.iadd, 1) := by decide +kernel
theorem dL_law_434 : decode cL_law 434 = .ok (.iaload, 1) := by decide +kernel
theorem dL_law_435 : decode cL_law 435 = .ok (.aload_n 3, 1) := by decide +kernel
theorem dL_law_436 : decode cL_law 436 = .ok (.invokestatic 91, 3) := by decide +kernel
theorem dL_law_439 : decode cL_law 439 = .ok (.istore 5, 2) := by decide +kernel
theorem dL_law_441 : decode cL_law 441 = .ok (.aload_n 2, 1) := by decide +kernel
theorem dL_law_442 : decode cL_law 442 = .ok (.aload_n 0, 1) := by decide +kernel
theorem dL_law_443 : decode cL_law 443 = .ok (.iload 4, 2) := by decide +kernel
theorem dL_law_445 : decode cL_law 445 = .ok (.iconst 1, 1) := by decide +kernel
theorem dL_law_446 : decode cL_law 446 = .ok (.iadd, 1) := by decide +kernel
theorem dL_law_447 : decode cL_law 447 = .ok (.iaload, 1) := by decide +kernel
theorem dL_law_448 : decode cL_law 448 = .ok (.invokevirtual 94, 3) := by decide +kernel
theorem dL_law_451 : decode cL_law 451 = .ok (.istore 6, 2) := by decide +kernel
theorem dL_law_453 : decode cL_law 453 = .ok (.aload_n 2, 1) := by decide +kernel
theorem dL_law_454 : decode cL_law 454 = .ok (.invokevirtual 77, 3) := by decide +kernel
theorem dL_law_457 : decode cL_law 457 = .ok (.iload 5, 2) := by decide +kernel
theorem dL_law_459 : decode cL_law 459 = .ok (.if_icmp .eq 5, 3) := by decide +kernel
theorem dL_law_462 : decode cL_law 462 = .ok (.iconst 0, 1) := by decide +kernel
theorem dL_law_463 : decode cL_law 463 = .ok (.ireturn, 1) := by decide +kernel
theorem dL_law_464 : decode cL_law 464 = .ok (.iload 5, 2) := by decide +kernel
theorem dL_law_466 : decode cL_law 466 = .ok (.ifCond .ne 15, 3) := by decide +kernel
theorem dL_law_469 : decode cL_law 469 = .ok (.aload_n 3, 1) := by decide +kernel
theorem dL_law_470 : decode cL_law 470 = .ok (.iconst 0, 1) := by decide +kernel
theorem dL_law_471 : decode cL_law 471 = .ok (.laload, 1) := by decide +kernel
theorem dL_law_472 : decode cL_law 472 = .ok (.iload 6, 2) := by decide +kernel
theorem dL_law_474 : decode cL_law 474 = .ok (.i2l, 1) := by decide +kernel
theorem dL_law_475 : decode cL_law 475 = .ok (.lcmp, 1) := by decide +kernel
theorem dL_law_476 : decode cL_law 476 = .ok (.ifCond .eq 5, 3) := by decide +kernel
theorem dL_law_479 : decode cL_law 479 = .ok (.iconst 0, 1) := by decide +kernel
theorem dL_law_480 : decode cL_law 480 = .ok (.ireturn, 1) := by decide +kernel
theorem dL_law_481 : decode cL_law 481 = .ok (.goto 747, 3) := by decide +kernel
theorem dL_law_484 : decode cL_law 484 = .ok (.aload_n 1, 1) := by decide +kernel
theorem dL_law_485 : decode cL_law 485 = .ok (.aload_n 0, 1) := by decide +kernel
theorem dL_law_486 : decode cL_law 486 = .ok (.iload 4, 2) := by decide +kernel
theorem dL_law_488 : decode cL_law 488 = .ok (.iconst 1, 1) := by decide +kernel
theorem dL_law_489 : decode cL_law 489 = .ok (.iadd, 1) := by decide +kernel
theorem dL_law_490 : decode cL_law 490 = .ok (.iaload, 1) := by decide +kernel
theorem dL_law_491 : decode cL_law 491 = .ok (.aload_n 3, 1) := by decide +kernel
theorem dL_law_492 : decode cL_law 492 = .ok (.invokestatic 95, 3) := by decide +kernel
theorem dL_law_495 : decode cL_law 495 = .ok (.istore 5, 2) := by decide +kernel
theorem dL_law_497 : decode cL_law 497 = .ok (.aload_n 2, 1) := by decide +kernel
theorem dL_law_498 : decode cL_law 498 = .ok (.aload_n 0, 1) := by decide +kernel
theorem dL_law_499 : decode cL_law 499 = .ok (.iload 4, 2) := by decide +kernel
theorem dL_law_501 : decode cL_law 501 = .ok (.iconst 1, 1) := by decide +kernel
theorem dL_law_502 : decode cL_law 502 = .ok (.iadd, 1) := by decide +kernel
theorem dL_law_503 : decode cL_law 503 = .ok (.iaload, 1) := by decide +kernel
theorem dL_law_504 : decode cL_law 504 = .ok (.invokevirtual 97, 3) := by decide +kernel
theorem dL_law_507 : decode cL_law 507 = .ok (.istore 6, 2) := by decide +kernel
theorem dL_law_509 : decode cL_law 509 = .ok (.aload_n 2, 1) := by decide +kernel
theorem dL_law_510 : decode cL_law 510 = .ok (.invokevirtual 77, 3) := by decide +kernel
theorem dL_law_513 : decode cL_law 513 = .ok (.iload 5, 2) := by decide +kernel
theorem dL_law_515 : decode cL_law 515 = .ok (.if_icmp .eq 5, 3) := by decide +kernel
theorem dL_law_518 : decode cL_law 518 = .ok (.iconst 0, 1) := by decide +kernel
theorem dL_law_519 : decode cL_law 519 = .ok (.ireturn, 1) := by decide +kernel
theorem dL_law_520 : decode cL_law 520 = .ok (.iload 5, 2) := by decide +kernel
theorem dL_law_522 : decode cL_law 522 = .ok (.ifCond .ne 15, 3) := by decide +kernel
theorem dL_law_525 : decode cL_law 525 = .ok (.aload_n 3, 1) := by decide +kernel
theorem dL_law_526 : decode cL_law 526 = .ok (.iconst 0, 1) := by decide +kernel
theorem dL_law_527 : decode cL_law 527 = .ok (.laload, 1) := by decide +kernel
theorem dL_law_528 : decode cL_law 528 = .ok (.iload 6, 2) := by decide +kernel
theorem dL_law_530 : decode cL_law 530 = .ok (.i2l, 1) := by decide +kernel
theorem dL_law_531 : decode cL_law 531 = .ok (.lcmp, 1) := by decide +kernel
theorem dL_law_532 : decode cL_law 532 = .ok (.ifCond .eq 5, 3) := by decide +kernel
theorem dL_law_535 : decode cL_law 535 = .ok (.iconst 0, 1) := by decide +kernel
theorem dL_law_536 : decode cL_law 536 = .ok (.ireturn, 1) := by decide +kernel
theorem dL_law_537 : decode cL_law 537 = .ok (.goto 691, 3) := by decide +kernel
theorem dL_law_540 : decode cL_law 540 = .ok (.aload_n 1, 1) := by decide +kernel
theorem dL_law_541 : decode cL_law 541 = .ok (.invokevirtual 98, 3) := by decide +kernel
theorem dL_law_544 : decode cL_law 544 = .ok (.aload_n 2, 1) := by decide +kernel
theorem dL_law_545 : decode cL_law 545 = .ok (.invokevirtual 101, 3) := by decide +kernel
theorem dL_law_548 : decode cL_law 548 = .ok (.if_icmp .eq 680, 3) := by decide +kernel
theorem dL_law_551 : decode cL_law 551 = .ok (.iconst 0, 1) := by decide +kernel
theorem dL_law_552 : decode cL_law 552 = .ok (.ireturn, 1) := by decide +kernel
theorem dL_law_553 : decode cL_law 553 = .ok (.aload_n 1, 1) := by decide +kernel
theorem dL_law_554 : decode cL_law 554 = .ok (.aload_n 0, 1) := by decide +kernel
theorem dL_law_555 : decode cL_law 555 = .ok (.iload 4, 2) := by decide +kernel
theorem dL_law_557 : decode cL_law 557 = .ok (.iconst 1, 1) := by decide +kernel
theorem dL_law_558 : decode cL_law 558 = .ok (.iadd, 1) := by decide +kernel
theorem dL_law_559 : decode cL_law 559 = .ok (.iaload, 1) := by decide +kernel
theorem dL_law_560 : decode cL_law 560 = .ok (.aload_n 3, 1) := by decide +kernel
theorem dL_law_561 : decode cL_law 561 = .ok (.invokestatic 102, 3) := by decide +kernel
theorem dL_law_564 : decode cL_law 564 = .ok (.istore 5, 2) := by decide +kernel
theorem dL_law_566 : decode cL_law 566 = .ok (.aload_n 2, 1) := by decide +kernel
theorem dL_law_567 : decode cL_law 567 = .ok (.aload_n 0, 1) := by decide +kernel
theorem dL_law_568 : decode cL_law 568 = .ok (.iload 4, 2) := by decide +kernel
theorem dL_law_570 : decode cL_law 570 = .ok (.iconst 1, 1) := by decide +kernel
theorem dL_law_571 : decode cL_law 571 = .ok (.iadd, 1) := by decide +kernel
theorem dL_law_572 : decode cL_law 572 = .ok (.iaload, 1) := by decide +kernel
theorem dL_law_573 : decode cL_law 573 = .ok (.invokevirtual 104, 3) := by decide +kernel
theorem dL_law_576 : decode cL_law 576 = .ok (.istore 6, 2) := by decide +kernel
theorem dL_law_578 : decode cL_law 578 = .ok (.aload_n 2, 1) := by decide +kernel
theorem dL_law_579 : decode cL_law 579 = .ok (.invokevirtual 77, 3) := by decide +kernel
theorem dL_law_582 : decode cL_law 582 = .ok (.iload 5, 2) := by decide +kernel
theorem dL_law_584 : decode cL_law 584 = .ok (.if_icmp .eq 5, 3) := by decide +kernel
theorem dL_law_587 : decode cL_law 587 = .ok (.iconst 0, 1) := by decide +kernel
theorem dL_law_588 : decode cL_law 588 = .ok (.ireturn, 1) := by decide +kernel
theorem dL_law_589 : decode cL_law 589 = .ok (.iload 5, 2) := by decide +kernel
theorem dL_law_591 : decode cL_law 591 = .ok (.ifCond .ne 15, 3) := by decide +kernel
theorem dL_law_594 : decode cL_law 594 = .ok (.aload_n 3, 1) := by decide +kernel
theorem dL_law_595 : decode cL_law 595 = .ok (.iconst 0, 1) := by decide +kernel
theorem dL_law_596 : decode cL_law 596 = .ok (.laload, 1) := by decide +kernel
theorem dL_law_597 : decode cL_law 597 = .ok (.iload 6, 2) := by decide +kernel
theorem dL_law_599 : decode cL_law 599 = .ok (.i2l, 1) := by decide +kernel
theorem dL_law_600 : decode cL_law 600 = .ok (.lcmp, 1) := by decide +kernel
theorem dL_law_601 : decode cL_law 601 = .ok (.ifCond .eq 5, 3) := by decide +kernel
theorem dL_law_604 : decode cL_law 604 = .ok (.iconst 0, 1) := by decide +kernel
theorem dL_law_605 : decode cL_law 605 = .ok (.ireturn, 1) := by decide +kernel
theorem dL_law_606 : decode cL_law 606 = .ok (.goto 622, 3) := by decide +kernel
theorem dL_law_609 : decode cL_law 609 = .ok (.aload_n 1, 1) := by decide +kernel
theorem dL_law_610 : decode cL_law 610 = .ok (.aload_n 0, 1) := by decide +kernel
theorem dL_law_611 : decode cL_law 611 = .ok (.iload 4, 2) := by decide +kernel
theorem dL_law_613 : decode cL_law 613 = .ok (.iconst 1, 1) := by decide +kernel
theorem dL_law_614 : decode cL_law 614 = .ok (.iadd, 1) := by decide +kernel
theorem dL_law_615 : decode cL_law 615 = .ok (.iaload, 1) := by decide +kernel
theorem dL_law_616 : decode cL_law 616 = .ok (.aload_n 3, 1) := by decide +kernel
theorem dL_law_617 : decode cL_law 617 = .ok (.invokestatic 105, 3) := by decide +kernel
theorem dL_law_620 : decode cL_law 620 = .ok (.istore 5, 2) := by decide +kernel
theorem dL_law_622 : decode cL_law 622 = .ok (.aload_n 2, 1) := by decide +kernel
theorem dL_law_623 : decode cL_law 623 = .ok (.aload_n 0, 1) := by decide +kernel
theorem dL_law_624 : decode cL_law 624 = .ok (.iload 4, 2) := by decide +kernel
theorem dL_law_626 : decode cL_law 626 = .ok (.iconst 1, 1) := by decide +kernel
theorem dL_law_627 : decode cL_law 627 = .ok (.iadd, 1) := by decide +kernel
theorem dL_law_628 : decode cL_law 628 = .ok (.iaload, 1) := by decide +kernel
theorem dL_law_629 : decode cL_law 629 = .ok (.invokevirtual 107, 3) := by decide +kernel
theorem dL_law_632 : decode cL_law 632 = .ok (.istore 6, 2) := by decide +kernel
theorem dL_law_634 : decode cL_law 634 = .ok (.aload_n 2, 1) := by decide +kernel
theorem dL_law_635 : decode cL_law 635 = .ok (.invokevirtual 77, 3) := by decide +kernel
theorem dL_law_638 : decode cL_law 638 = .ok (.iload 5, 2) := by decide +kernel
theorem dL_law_640 : decode cL_law 640 = .ok (.if_icmp .eq 5, 3) := by decide +kernel
theorem dL_law_643 : decode cL_law 643 = .ok (.iconst 0, 1) := by decide +kernel
theorem dL_law_644 : decode cL_law 644 = .ok (.ireturn, 1) := by decide +kernel
theorem dL_law_645 : decode cL_law 645 = .ok (.iload 5, 2) := by decide +kernel
theorem dL_law_647 : decode cL_law 647 = .ok (.ifCond .ne 22, 3) := by decide +kernel
theorem dL_law_650 : decode cL_law 650 = .ok (.aload_n 3, 1) := by decide +kernel
theorem dL_law_651 : decode cL_law 651 = .ok (.iconst 0, 1) := by decide +kernel
theorem dL_law_652 : decode cL_law 652 = .ok (.laload, 1) := by decide +kernel
theorem dL_law_653 : decode cL_law 653 = .ok (.iload 6, 2) := by decide +kernel
theorem dL_law_655 : decode cL_law 655 = .ok (.ifCond .eq 7, 3) := by decide +kernel
theorem dL_law_658 : decode cL_law 658 = .ok (.lconst 1, 1) := by decide +kernel
theorem dL_law_659 : decode cL_law 659 = .ok (.goto 4, 3) := by decide +kernel
theorem dL_law_662 : decode cL_law 662 = .ok (.lconst 0, 1) := by decide +kernel
theorem dL_law_663 : decode cL_law 663 = .ok (.lcmp, 1) := by decide +kernel
theorem dL_law_664 : decode cL_law 664 = .ok (.ifCond .eq 5, 3) := by decide +kernel
theorem dL_law_667 : decode cL_law 667 = .ok (.iconst 0, 1) := by decide +kernel
theorem dL_law_668 : decode cL_law 668 = .ok (.ireturn, 1) := by decide +kernel
theorem dL_law_669 : decode cL_law 669 = .ok (.goto 559, 3) := by decide +kernel
theorem dL_law_672 : decode cL_law 672 = .ok (.aload_n 1, 1) := by decide +kernel
theorem dL_law_673 : decode cL_law 673 = .ok (.aload_n 0, 1) := by decide +kernel
theorem dL_law_674 : decode cL_law 674 = .ok (.iload 4, 2) := by decide +kernel
theorem dL_law_676 : decode cL_law 676 = .ok (.iconst 1, 1) := by decide +kernel
theorem dL_law_677 : decode cL_law 677 = .ok (.iadd, 1) := by decide +kernel
theorem dL_law_678 : decode cL_law 678 = .ok (.iaload, 1) := by decide +kernel
theorem dL_law_679 : decode cL_law 679 = .ok (.aload_n 3, 1) := by decide +kernel
theorem dL_law_680 : decode cL_law 680 = .ok (.invokestatic 108, 3) := by decide +kernel
theorem dL_law_683 : decode cL_law 683 = .ok (.istore 5, 2) := by decide +kernel
theorem dL_law_685 : decode cL_law 685 = .ok (.aload_n 2, 1) := by decide +kernel
theorem dL_law_686 : decode cL_law 686 = .ok (.aload_n 0, 1) := by decide +kernel
theorem dL_law_687 : decode cL_law 687 = .ok (.iload 4, 2) := by decide +kernel
theorem dL_law_689 : decode cL_law 689 = .ok (.iconst 1, 1) := by decide +kernel
theorem dL_law_690 : decode cL_law 690 = .ok (.iadd, 1) := by decide +kernel
theorem dL_law_691 : decode cL_law 691 = .ok (.iaload, 1) := by decide +kernel
theorem dL_law_692 : decode cL_law 692 = .ok (.invokevirtual 110, 3) := by decide +kernel
theorem dL_law_695 : decode cL_law 695 = .ok (.istore 6, 2) := by decide +kernel
theorem dL_law_697 : decode cL_law 697 = .ok (.aload_n 2, 1) := by decide +kernel
theorem dL_law_698 : decode cL_law 698 = .ok (.invokevirtual 77, 3) := by decide +kernel
theorem dL_law_701 : decode cL_law 701 = .ok (.iload 5, 2) := by decide +kernel
theorem dL_law_703 : decode cL_law 703 = .ok (.if_icmp .eq 5, 3) := by decide +kernel
theorem dL_law_706 : decode cL_law 706 = .ok (.iconst 0, 1) := by decide +kernel
theorem dL_law_707 : decode cL_law 707 = .ok (.ireturn, 1) := by decide +kernel
theorem dL_law_708 : decode cL_law 708 = .ok (.iload 5, 2) := by decide +kernel
theorem dL_law_710 : decode cL_law 710 = .ok (.ifCond .ne 22, 3) := by decide +kernel
theorem dL_law_713 : decode cL_law 713 = .ok (.aload_n 3, 1) := by decide +kernel
theorem dL_law_714 : decode cL_law 714 = .ok (.iconst 0, 1) := by decide +kernel
theorem dL_law_715 : decode cL_law 715 = .ok (.laload, 1) := by decide +kernel
theorem dL_law_716 : decode cL_law 716 = .ok (.iload 6, 2) := by decide +kernel
theorem dL_law_718 : decode cL_law 718 = .ok (.ifCond .eq 7, 3) := by decide +kernel
theorem dL_law_721 : decode cL_law 721 = .ok (.lconst 1, 1) := by decide +kernel
theorem dL_law_722 : decode cL_law 722 = .ok (.goto 4, 3) := by decide +kernel
theorem dL_law_725 : decode cL_law 725 = .ok (.lconst 0, 1) := by decide +kernel
theorem dL_law_726 : decode cL_law 726 = .ok (.lcmp, 1) := by decide +kernel
theorem dL_law_727 : decode cL_law 727 = .ok (.ifCond .eq 5, 3) := by decide +kernel
theorem dL_law_730 : decode cL_law 730 = .ok (.iconst 0, 1) := by decide +kernel
theorem dL_law_731 : decode cL_law 731 = .ok (.ireturn, 1) := by decide +kernel
theorem dL_law_732 : decode cL_law 732 = .ok (.goto 496, 3) := by decide +kernel
theorem dL_law_735 : decode cL_law 735 = .ok (.aload_n 1, 1) := by decide +kernel
theorem dL_law_736 : decode cL_law 736 = .ok (.aload_n 0, 1) := by decide +kernel
theorem dL_law_737 : decode cL_law 737 = .ok (.iload 4, 2) := by decide +kernel
theorem dL_law_739 : decode cL_law 739 = .ok (.iconst 1, 1) := by decide +kernel
theorem dL_law_740 : decode cL_law 740 = .ok (.iadd, 1) := by decide +kernel
theorem dL_law_741 : decode cL_law 741 = .ok (.iaload, 1) := by decide +kernel
theorem dL_law_742 : decode cL_law 742 = .ok (.aload_n 3, 1) := by decide +kernel
theorem dL_law_743 : decode cL_law 743 = .ok (.invokestatic 111, 3) := by decide +kernel
theorem dL_law_746 : decode cL_law 746 = .ok (.istore 5, 2) := by decide +kernel
theorem dL_law_748 : decode cL_law 748 = .ok (.aload_n 2, 1) := by decide +kernel
theorem dL_law_749 : decode cL_law 749 = .ok (.aload_n 0, 1) := by decide +kernel
theorem dL_law_750 : decode cL_law 750 = .ok (.iload 4, 2) := by decide +kernel
theorem dL_law_752 : decode cL_law 752 = .ok (.iconst 1, 1) := by decide +kernel
theorem dL_law_753 : decode cL_law 753 = .ok (.iadd, 1) := by decide +kernel
theorem dL_law_754 : decode cL_law 754 = .ok (.iaload, 1) := by decide +kernel
theorem dL_law_755 : decode cL_law 755 = .ok (.invokevirtual 113, 3) := by decide +kernel
theorem dL_law_758 : decode cL_law 758 = .ok (.istore 6, 2) := by decide +kernel
theorem dL_law_760 : decode cL_law 760 = .ok (.aload_n 2, 1) := by decide +kernel
theorem dL_law_761 : decode cL_law 761 = .ok (.invokevirtual 77, 3) := by decide +kernel
theorem dL_law_764 : decode cL_law 764 = .ok (.iload 5, 2) := by decide +kernel
theorem dL_law_766 : decode cL_law 766 = .ok (.if_icmp .eq 5, 3) := by decide +kernel
theorem dL_law_769 : decode cL_law 769 = .ok (.iconst 0, 1) := by decide +kernel
theorem dL_law_770 : decode cL_law 770 = .ok (.ireturn, 1) := by decide +kernel
theorem dL_law_771 : decode cL_law 771 = .ok (.iload 5, 2) := by decide +kernel
theorem dL_law_773 : decode cL_law 773 = .ok (.ifCond .ne 15, 3) := by decide +kernel
theorem dL_law_776 : decode cL_law 776 = .ok (.aload_n 3, 1) := by decide +kernel
theorem dL_law_777 : decode cL_law 777 = .ok (.iconst 0, 1) := by decide +kernel
theorem dL_law_778 : decode cL_law 778 = .ok (.laload, 1) := by decide +kernel
theorem dL_law_779 : decode cL_law 779 = .ok (.iload 6, 2) := by decide +kernel
theorem dL_law_781 : decode cL_law 781 = .ok (.i2l, 1) := by decide +kernel
theorem dL_law_782 : decode cL_law 782 = .ok (.lcmp, 1) := by decide +kernel
theorem dL_law_783 : decode cL_law 783 = .ok (.ifCond .eq 5, 3) := by decide +kernel
theorem dL_law_786 : decode cL_law 786 = .ok (.iconst 0, 1) := by decide +kernel
theorem dL_law_787 : decode cL_law 787 = .ok (.ireturn, 1) := by decide +kernel
theorem dL_law_788 : decode cL_law 788 = .ok (.goto 440, 3) := by decide +kernel
theorem dL_law_791 : decode cL_law 791 = .ok (.aload_n 1, 1) := by decide +kernel
theorem dL_law_792 : decode cL_law 792 = .ok (.aload_n 0, 1) := by decide +kernel
theorem dL_law_793 : decode cL_law 793 = .ok (.iload 4, 2) := by decide +kernel
theorem dL_law_795 : decode cL_law 795 = .ok (.iconst 1, 1) := by decide +kernel
theorem dL_law_796 : decode cL_law 796 = .ok (.iadd, 1) := by decide +kernel
theorem dL_law_797 : decode cL_law 797 = .ok (.iaload, 1) := by decide +kernel
theorem dL_law_798 : decode cL_law 798 = .ok (.aload_n 3, 1) := by decide +kernel
theorem dL_law_799 : decode cL_law 799 = .ok (.invokestatic 114, 3) := by decide +kernel
theorem dL_law_802 : decode cL_law 802 = .ok (.istore 5, 2) := by decide +kernel
theorem dL_law_804 : decode cL_law 804 = .ok (.aload_n 2, 1) := by decide +kernel
theorem dL_law_805 : decode cL_law 805 = .ok (.aload_n 0, 1) := by decide +kernel
theorem dL_law_806 : decode cL_law 806 = .ok (.iload 4, 2) := by decide +kernel
theorem dL_law_808 : decode cL_law 808 = .ok (.iconst 1, 1) := by decide +kernel
theorem dL_law_809 : decode cL_law 809 = .ok (.iadd, 1) := by decide +kernel
theorem dL_law_810 : decode cL_law 810 = .ok (.iaload, 1) := by decide +kernel
theorem dL_law_811 : decode cL_law 811 = .ok (.invokevirtual 116, 3) := by decide +kernel
theorem dL_law_814 : decode cL_law 814 = .ok (.istore 6, 2) := by decide +kernel
theorem dL_law_816 : decode cL_law 816 = .ok (.aload_n 2, 1) := by decide +kernel
theorem dL_law_817 : decode cL_law 817 = .ok (.invokevirtual 77, 3) := by decide +kernel
theorem dL_law_820 : decode cL_law 820 = .ok (.iload 5, 2) := by decide +kernel
theorem dL_law_822 : decode cL_law 822 = .ok (.if_icmp .eq 5, 3) := by decide +kernel
theorem dL_law_825 : decode cL_law 825 = .ok (.iconst 0, 1) := by decide +kernel
theorem dL_law_826 : decode cL_law 826 = .ok (.ireturn, 1) := by decide +kernel
theorem dL_law_827 : decode cL_law 827 = .ok (.iload 5, 2) := by decide +kernel
theorem dL_law_829 : decode cL_law 829 = .ok (.ifCond .ne 15, 3) := by decide +kernel
theorem dL_law_832 : decode cL_law 832 = .ok (.aload_n 3, 1) := by decide +kernel
theorem dL_law_833 : decode cL_law 833 = .ok (.iconst 0, 1) := by decide +kernel
theorem dL_law_834 : decode cL_law 834 = .ok (.laload, 1) := by decide +kernel
theorem dL_law_835 : decode cL_law 835 = .ok (.iload 6, 2) := by decide +kernel
theorem dL_law_837 : decode cL_law 837 = .ok (.i2l, 1) := by decide +kernel
theorem dL_law_838 : decode cL_law 838 = .ok (.lcmp, 1) := by decide +kernel
theorem dL_law_839 : decode cL_law 839 = .ok (.ifCond .eq 5, 3) := by decide +kernel
theorem dL_law_842 : decode cL_law 842 = .ok (.iconst 0, 1) := by decide +kernel
theorem dL_law_843 : decode cL_law 843 = .ok (.ireturn, 1) := by decide +kernel
theorem dL_law_844 : decode cL_law 844 = .ok (.goto 384, 3) := by decide +kernel
theorem dL_law_847 : decode cL_law 847 = .ok (.aload_n 1, 1) := by decide +kernel
theorem dL_law_848 : decode cL_law 848 = .ok (.invokevirtual 117, 3) := by decide +kernel
theorem dL_law_851 : decode cL_law 851 = .ok (.aload_n 2, 1) := by decide +kernel
theorem dL_law_852 : decode cL_law 852 = .ok (.invokevirtual 120, 3) := by decide +kernel
theorem dL_law_855 : decode cL_law 855 = .ok (.if_icmp .eq 373, 3) := by decide +kernel
theorem dL_law_858 : decode cL_law 858 = .ok (.iconst 0, 1) := by decide +kernel
theorem dL_law_859 : decode cL_law 859 = .ok (.ireturn, 1) := by decide +kernel
theorem dL_law_860 : decode cL_law 860 = .ok (.aload_n 1, 1) := by decide +kernel
theorem dL_law_861 : decode cL_law 861 = .ok (.aload_n 0, 1) := by decide +kernel
theorem dL_law_862 : decode cL_law 862 = .ok (.iload 4, 2) := by decide +kernel
theorem dL_law_864 : decode cL_law 864 = .ok (.iconst 1, 1) := by decide +kernel
theorem dL_law_865 : decode cL_law 865 = .ok (.iadd, 1) := by decide +kernel
theorem dL_law_866 : decode cL_law 866 = .ok (.iaload, 1) := by decide +kernel
theorem dL_law_867 : decode cL_law 867 = .ok (.aload_n 0, 1) := by decide +kernel
theorem dL_law_868 : decode cL_law 868 = .ok (.iload 4, 2) := by decide +kernel
theorem dL_law_870 : decode cL_law 870 = .ok (.iconst 2, 1) := by decide +kernel
theorem dL_law_871 : decode cL_law 871 = .ok (.iadd, 1) := by decide +kernel
theorem dL_law_872 : decode cL_law 872 = .ok (.iaload, 1) := by decide +kernel
theorem dL_law_873 : decode cL_law 873 = .ok (.aload_n 3, 1) := by decide +kernel
theorem dL_law_874 : decode cL_law 874 = .ok (.invokestatic 121, 3) := by decide +kernel
theorem dL_law_877 : decode cL_law 877 = .ok (.istore 5, 2) := by decide +kernel
theorem dL_law_879 : decode cL_law 879 = .ok (.aload_n 2, 1) := by decide +kernel
theorem dL_law_880 : decode cL_law 880 = .ok (.aload_n 0, 1) := by decide +kernel
theorem dL_law_881 : decode cL_law 881 = .ok (.iload 4, 2) := by decide +kernel
theorem dL_law_883 : decode cL_law 883 = .ok (.iconst 1, 1) := by decide +kernel
theorem dL_law_884 : decode cL_law 884 = .ok (.iadd, 1) := by decide +kernel
theorem dL_law_885 : decode cL_law 885 = .ok (.iaload, 1) := by decide +kernel
theorem dL_law_886 : decode cL_law 886 = .ok (.aload_n 0, 1) := by decide +kernel
theorem dL_law_887 : decode cL_law 887 = .ok (.iload 4, 2) := by decide +kernel
theorem dL_law_889 : decode cL_law 889 = .ok (.iconst 2, 1) := by decide +kernel
theorem dL_law_890 : decode cL_law 890 = .ok (.iadd, 1) := by decide +kernel
theorem dL_law_891 : decode cL_law 891 = .ok (.iaload, 1) := by decide +kernel
theorem dL_law_892 : decode cL_law 892 = .ok (.invokevirtual 123, 3) := by decide +kernel
theorem dL_law_895 : decode cL_law 895 = .ok (.istore 6, 2) := by decide +kernel
theorem dL_law_897 : decode cL_law 897 = .ok (.aload_n 2, 1) := by decide +kernel
theorem dL_law_898 : decode cL_law 898 = .ok (.invokevirtual 77, 3) := by decide +kernel
theorem dL_law_901 : decode cL_law 901 = .ok (.iload 5, 2) := by decide +kernel
theorem dL_law_903 : decode cL_law 903 = .ok (.if_icmp .eq 5, 3) := by decide +kernel
theorem dL_law_906 : decode cL_law 906 = .ok (.iconst 0, 1) := by decide +kernel
theorem dL_law_907 : decode cL_law 907 = .ok (.ireturn, 1) := by decide +kernel
theorem dL_law_908 : decode cL_law 908 = .ok (.iload 5, 2) := by decide +kernel
theorem dL_law_910 : decode cL_law 910 = .ok (.ifCond .ne 15, 3) := by decide +kernel
theorem dL_law_913 : decode cL_law 913 = .ok (.aload_n 3, 1) := by decide +kernel
theorem dL_law_914 : decode cL_law 914 = .ok (.iconst 0, 1) := by decide +kernel
theorem dL_law_915 : decode cL_law 915 = .ok (.laload, 1) := by decide +kernel
theorem dL_law_916 : decode cL_law 916 = .ok (.iload 6, 2) := by decide +kernel
theorem dL_law_918 : decode cL_law 918 = .ok (.i2l, 1) := by decide +kernel
theorem dL_law_919 : decode cL_law 919 = .ok (.lcmp, 1) := by decide +kernel
theorem dL_law_920 : decode cL_law 920 = .ok (.ifCond .eq 5, 3) := by decide +kernel
theorem dL_law_923 : decode cL_law 923 = .ok (.iconst 0, 1) := by decide +kernel
theorem dL_law_924 : decode cL_law 924 = .ok (.ireturn, 1) := by decide +kernel
theorem dL_law_925 : decode cL_law 925 = .ok (.goto 303, 3) := by decide +kernel
theorem dL_law_928 : decode cL_law 928 = .ok (.aload_n 1, 1) := by decide +kernel
theorem dL_law_929 : decode cL_law 929 = .ok (.aload_n 0, 1) := by decide +kernel
theorem dL_law_930 : decode cL_law 930 = .ok (.iload 4, 2) := by decide +kernel
theorem dL_law_932 : decode cL_law 932 = .ok (.iconst 1, 1) := by decide +kernel
theorem dL_law_933 : decode cL_law 933 = .ok (.iadd, 1) := by decide +kernel
theorem dL_law_934 : decode cL_law 934 = .ok (.iaload, 1) := by decide +kernel
theorem dL_law_935 : decode cL_law 935 = .ok (.aload_n 0, 1) := by decide +kernel
theorem dL_law_936 : decode cL_law 936 = .ok (.iload 4, 2) := by decide +kernel
theorem dL_law_938 : decode cL_law 938 = .ok (.iconst 2, 1) := by decide +kernel
theorem dL_law_939 : decode cL_law 939 = .ok (.iadd, 1) := by decide +kernel
theorem dL_law_940 : decode cL_law 940 = .ok (.iaload, 1) := by decide +kernel
theorem dL_law_941 : decode cL_law 941 = .ok (.aload_n 3, 1) := by decide +kernel
theorem dL_law_942 : decode cL_law 942 = .ok (.invokestatic 124, 3) := by decide +kernel
theorem dL_law_945 : decode cL_law 945 = .ok (.istore 5, 2) := by decide +kernel
theorem dL_law_947 : decode cL_law 947 = .ok (.aload_n 2, 1) := by decide +kernel
theorem dL_law_948 : decode cL_law 948 = .ok (.aload_n 0, 1) := by decide +kernel
theorem dL_law_949 : decode cL_law 949 = .ok (.iload 4, 2) := by decide +kernel
theorem dL_law_951 : decode cL_law 951 = .ok (.iconst 1, 1) := by decide +kernel
theorem dL_law_952 : decode cL_law 952 = .ok (.iadd, 1) := by decide +kernel
theorem dL_law_953 : decode cL_law 953 = .ok (.iaload, 1) := by decide +kernel
theorem dL_law_954 : decode cL_law 954 = .ok (.aload_n 0, 1) := by decide +kernel
theorem dL_law_955 : decode cL_law 955 = .ok (.iload 4, 2) := by decide +kernel
theorem dL_law_957 : decode cL_law 957 = .ok (.iconst 2, 1) := by decide +kernel
theorem dL_law_958 : decode cL_law 958 = .ok (.iadd, 1) := by decide +kernel
theorem dL_law_959 : decode cL_law 959 = .ok (.iaload, 1) := by decide +kernel
theorem dL_law_960 : decode cL_law 960 = .ok (.invokevirtual 126, 3) := by decide +kernel
theorem dL_law_963 : decode cL_law 963 = .ok (.istore 6, 2) := by decide +kernel
theorem dL_law_965 : decode cL_law 965 = .ok (.aload_n 2, 1) := by decide +kernel
theorem dL_law_966 : decode cL_law 966 = .ok (.invokevirtual 77, 3) := by decide +kernel
theorem dL_law_969 : decode cL_law 969 = .ok (.iload 5, 2) := by decide +kernel
theorem dL_law_971 : decode cL_law 971 = .ok (.if_icmp .eq 5, 3) := by decide +kernel
theorem dL_law_974 : decode cL_law 974 = .ok (.iconst 0, 1) := by decide +kernel
theorem dL_law_975 : decode cL_law 975 = .ok (.ireturn, 1) := by decide +kernel
theorem dL_law_976 : decode cL_law 976 = .ok (.iload 5, 2) := by decide +kernel
theorem dL_law_978 : decode cL_law 978 = .ok (.ifCond .ne 15, 3) := by decide +kernel
theorem dL_law_981 : decode cL_law 981 = .ok (.aload_n 3, 1) := by decide +kernel
theorem dL_law_982 : decode cL_law 982 = .ok (.iconst 0, 1) := by decide +kernel
theorem dL_law_983 : decode cL_law 983 = .ok (.laload, 1) := by decide +kernel
theorem dL_law_984 : decode cL_law 984 = .ok (.iload 6, 2) := by decide +kernel
theorem dL_law_986 : decode cL_law 986 = .ok (.i2l, 1) := by decide +kernel
theorem dL_law_987 : decode cL_law 987 = .ok (.lcmp, 1) := by decide +kernel
theorem dL_law_988 : decode cL_law 988 = .ok (.ifCond .eq 5, 3) := by decide +kernel
theorem dL_law_991 : decode cL_law 991 = .ok (.iconst 0, 1) := by decide +kernel
theorem dL_law_992 : decode cL_law 992 = .ok (.ireturn, 1) := by decide +kernel
theorem dL_law_993 : decode cL_law 993 = .ok (.goto 235, 3) := by decide +kernel
theorem dL_law_996 : decode cL_law 996 = .ok (.aload_n 1, 1) := by decide +kernel
theorem dL_law_997 : decode cL_law 997 = .ok (.aload_n 0, 1) := by decide +kernel
theorem dL_law_998 : decode cL_law 998 = .ok (.iload 4, 2) := by decide +kernel
theorem dL_law_1000 : decode cL_law 1000 = .ok (.iconst 1, 1) := by decide +kernel
theorem dL_law_1001 : decode cL_law 1001 = .ok (.iadd, 1) := by decide +kernel
theorem dL_law_1002 : decode cL_law 1002 = .ok (.iaload, 1) := by decide +kernel
theorem dL_law_1003 : decode cL_law 1003 = .ok (.aload_n 0, 1) := by decide +kernel
theorem dL_law_1004 : decode cL_law 1004 = .ok (.iload 4, 2) := by decide +kernel
theorem dL_law_1006 : decode cL_law 1006 = .ok (.iconst 2, 1) := by decide +kernel
theorem dL_law_1007 : decode cL_law 1007 = .ok (.iadd, 1) := by decide +kernel
theorem dL_law_1008 : decode cL_law 1008 = .ok (.iaload, 1) := by decide +kernel
theorem dL_law_1009 : decode cL_law 1009 = .ok (.aload_n 3, 1) := by decide +kernel
theorem dL_law_1010 : decode cL_law 1010 = .ok (.invokestatic 127, 3) := by decide +kernel
theorem dL_law_1013 : decode cL_law 1013 = .ok (.istore 5, 2) := by decide +kernel
theorem dL_law_1015 : decode cL_law 1015 = .ok (.aload_n 2, 1) := by decide +kernel
theorem dL_law_1016 : decode cL_law 1016 = .ok (.aload_n 0, 1) := by decide +kernel
theorem dL_law_1017 : decode cL_law 1017 = .ok (.iload 4, 2) := by decide +kernel
theorem dL_law_1019 : decode cL_law 1019 = .ok (.iconst 1, 1) := by decide +kernel
theorem dL_law_1020 : decode cL_law 1020 = .ok (.iadd, 1) := by decide +kernel
theorem dL_law_1021 : decode cL_law 1021 = .ok (.iaload, 1) := by decide +kernel
theorem dL_law_1022 : decode cL_law 1022 = .ok (.aload_n 0, 1) := by decide +kernel
theorem dL_law_1023 : decode cL_law 1023 = .ok (.iload 4, 2) := by decide +kernel
theorem dL_law_1025 : decode cL_law 1025 = .ok (.iconst 2, 1) := by decide +kernel
theorem dL_law_1026 : decode cL_law 1026 = .ok (.iadd, 1) := by decide +kernel
theorem dL_law_1027 : decode cL_law 1027 = .ok (.iaload, 1) := by decide +kernel
theorem dL_law_1028 : decode cL_law 1028 = .ok (.invokevirtual 129, 3) := by decide +kernel
theorem dL_law_1031 : decode cL_law 1031 = .ok (.istore 6, 2) := by decide +kernel
theorem dL_law_1033 : decode cL_law 1033 = .ok (.aload_n 2, 1) := by decide +kernel
theorem dL_law_1034 : decode cL_law 1034 = .ok (.invokevirtual 77, 3) := by decide +kernel
theorem dL_law_1037 : decode cL_law 1037 = .ok (.iload 5, 2) := by decide +kernel
theorem dL_law_1039 : decode cL_law 1039 = .ok (.if_icmp .eq 5, 3) := by decide +kernel
theorem dL_law_1042 : decode cL_law 1042 = .ok (.iconst 0, 1) := by decide +kernel
theorem dL_law_1043 : decode cL_law 1043 = .ok (.ireturn, 1) := by decide +kernel
theorem dL_law_1044 : decode cL_law 1044 = .ok (.iload 5, 2) := by decide +kernel
theorem dL_law_1046 : decode cL_law 1046 = .ok (.ifCond .ne 15, 3) := by decide +kernel
theorem dL_law_1049 : decode cL_law 1049 = .ok (.aload_n 3, 1) := by decide +kernel
theorem dL_law_1050 : decode cL_law 1050 = .ok (.iconst 0, 1) := by decide +kernel
theorem dL_law_1051 : decode cL_law 1051 = .ok (.laload, 1) := by decide +kernel
theorem dL_law_1052 : decode cL_law 1052 = .ok (.iload 6, 2) := by decide +kernel
theorem dL_law_1054 : decode cL_law 1054 = .ok (.i2l, 1) := by decide +kernel
theorem dL_law_1055 : decode cL_law 1055 = .ok (.lcmp, 1) := by decide +kernel
theorem dL_law_1056 : decode cL_law 1056 = .ok (.ifCond .eq 5, 3) := by decide +kernel
theorem dL_law_1059 : decode cL_law 1059 = .ok (.iconst 0, 1) := by decide +kernel
theorem dL_law_1060 : decode cL_law 1060 = .ok (.ireturn, 1) := by decide +kernel
theorem dL_law_1061 : decode cL_law 1061 = .ok (.goto 167, 3) := by decide +kernel
theorem dL_law_1064 : decode cL_law 1064 = .ok (.aload_n 1, 1) := by decide +kernel
theorem dL_law_1065 : decode cL_law 1065 = .ok (.invokevirtual 130, 3) := by decide +kernel
theorem dL_law_1068 : decode cL_law 1068 = .ok (.aload_n 2, 1) := by decide +kernel
theorem dL_law_1069 : decode cL_law 1069 = .ok (.invokevirtual 134, 3) := by decide +kernel
theorem dL_law_1072 : decode cL_law 1072 = .ok (.lcmp, 1) := by decide +kernel
theorem dL_law_1073 : decode cL_law 1073 = .ok (.ifCond .eq 155, 3) := by decide +kernel
theorem dL_law_1076 : decode cL_law 1076 = .ok (.iconst 0, 1) := by decide +kernel
theorem dL_law_1077 : decode cL_law 1077 = .ok (.ireturn, 1) := by decide +kernel
theorem dL_law_1078 : decode cL_law 1078 = .ok (.aload_n 1, 1) := by decide +kernel
theorem dL_law_1079 : decode cL_law 1079 = .ok (.invokevirtual 135, 3) := by decide +kernel
theorem dL_law_1082 : decode cL_law 1082 = .ok (.aload_n 2, 1) := by decide +kernel
theorem dL_law_1083 : decode cL_law 1083 = .ok (.invokevirtual 138, 3) := by decide +kernel
theorem dL_law_1086 : decode cL_law 1086 = .ok (.lcmp, 1) := by decide +kernel
theorem dL_law_1087 : decode cL_law 1087 = .ok (.ifCond .eq 141, 3) := by decide +kernel
theorem dL_law_1090 : decode cL_law 1090 = .ok (.iconst 0, 1) := by decide +kernel
theorem dL_law_1091 : decode cL_law 1091 = .ok (.ireturn, 1) := by decide +kernel
theorem dL_law_1092 : decode cL_law 1092 = .ok (.aload_n 1, 1) := by decide +kernel
theorem dL_law_1093 : decode cL_law 1093 = .ok (.aload_n 0, 1) := by decide +kernel
theorem dL_law_1094 : decode cL_law 1094 = .ok (.iload 4, 2) := by decide +kernel
theorem dL_law_1096 : decode cL_law 1096 = .ok (.iconst 1, 1) := by decide +kernel
theorem dL_law_1097 : decode cL_law 1097 = .ok (.iadd, 1) := by decide +kernel
theorem dL_law_1098 : decode cL_law 1098 = .ok (.iaload, 1) := by decide +kernel
theorem dL_law_1099 : decode cL_law 1099 = .ok (.aload_n 0, 1) := by decide +kernel
theorem dL_law_1100 : decode cL_law 1100 = .ok (.iload 4, 2) := by decide +kernel
theorem dL_law_1102 : decode cL_law 1102 = .ok (.iconst 2, 1) := by decide +kernel
theorem dL_law_1103 : decode cL_law 1103 = .ok (.iadd, 1) := by decide +kernel
theorem dL_law_1104 : decode cL_law 1104 = .ok (.iaload, 1) := by decide +kernel
theorem dL_law_1105 : decode cL_law 1105 = .ok (.aload_n 3, 1) := by decide +kernel
theorem dL_law_1106 : decode cL_law 1106 = .ok (.invokestatic 139, 3) := by decide +kernel
theorem dL_law_1109 : decode cL_law 1109 = .ok (.istore 5, 2) := by decide +kernel
theorem dL_law_1111 : decode cL_law 1111 = .ok (.aload_n 2, 1) := by decide +kernel
theorem dL_law_1112 : decode cL_law 1112 = .ok (.aload_n 0, 1) := by decide +kernel
theorem dL_law_1113 : decode cL_law 1113 = .ok (.iload 4, 2) := by decide +kernel
theorem dL_law_1115 : decode cL_law 1115 = .ok (.iconst 1, 1) := by decide +kernel
theorem dL_law_1116 : decode cL_law 1116 = .ok (.iadd, 1) := by decide +kernel
theorem dL_law_1117 : decode cL_law 1117 = .ok (.iaload, 1) := by decide +kernel
theorem dL_law_1118 : decode cL_law 1118 = .ok (.aload_n 0, 1) := by decide +kernel
theorem dL_law_1119 : decode cL_law 1119 = .ok (.iload 4, 2) := by decide +kernel
theorem dL_law_1121 : decode cL_law 1121 = .ok (.iconst 2, 1) := by decide +kernel
theorem dL_law_1122 : decode cL_law 1122 = .ok (.iadd, 1) := by decide +kernel
theorem dL_law_1123 : decode cL_law 1123 = .ok (.iaload, 1) := by decide +kernel
theorem dL_law_1124 : decode cL_law 1124 = .ok (.invokevirtual 141, 3) := by decide +kernel
theorem dL_law_1127 : decode cL_law 1127 = .ok (.istore 6, 2) := by decide +kernel
theorem dL_law_1129 : decode cL_law 1129 = .ok (.aload_n 2, 1) := by decide +kernel
theorem dL_law_1130 : decode cL_law 1130 = .ok (.invokevirtual 77, 3) := by decide +kernel
theorem dL_law_1133 : decode cL_law 1133 = .ok (.iload 5, 2) := by decide +kernel
theorem dL_law_1135 : decode cL_law 1135 = .ok (.if_icmp .eq 5, 3) := by decide +kernel
theorem dL_law_1138 : decode cL_law 1138 = .ok (.iconst 0, 1) := by decide +kernel
theorem dL_law_1139 : decode cL_law 1139 = .ok (.ireturn, 1) := by decide +kernel
theorem dL_law_1140 : decode cL_law 1140 = .ok (.iload 5, 2) := by decide +kernel
theorem dL_law_1142 : decode cL_law 1142 = .ok (.ifCond .ne 15, 3) := by decide +kernel
theorem dL_law_1145 : decode cL_law 1145 = .ok (.aload_n 3, 1) := by decide +kernel
theorem dL_law_1146 : decode cL_law 1146 = .ok (.iconst 0, 1) := by decide +kernel
theorem dL_law_1147 : decode cL_law 1147 = .ok (.laload, 1) := by decide +kernel
theorem dL_law_1148 : decode cL_law 1148 = .ok (.iload 6, 2) := by decide +kernel
theorem dL_law_1150 : decode cL_law 1150 = .ok (.i2l, 1) := by decide +kernel
theorem dL_law_1151 : decode cL_law 1151 = .ok (.lcmp, 1) := by decide +kernel
theorem dL_law_1152 : decode cL_law 1152 = .ok (.ifCond .eq 5, 3) := by decide +kernel
theorem dL_law_1155 : decode cL_law 1155 = .ok (.iconst 0, 1) := by decide +kernel
theorem dL_law_1156 : decode cL_law 1156 = .ok (.ireturn, 1) := by decide +kernel
theorem dL_law_1157 : decode cL_law 1157 = .ok (.goto 71, 3) := by decide +kernel
theorem dL_law_1160 : decode cL_law 1160 = .ok (.aload_n 1, 1) := by decide +kernel
theorem dL_law_1161 : decode cL_law 1161 = .ok (.aload_n 0, 1) := by decide +kernel
theorem dL_law_1162 : decode cL_law 1162 = .ok (.iload 4, 2) := by decide +kernel
theorem dL_law_1164 : decode cL_law 1164 = .ok (.iconst 1, 1) := by decide +kernel
theorem dL_law_1165 : decode cL_law 1165 = .ok (.iadd, 1) := by decide +kernel
theorem dL_law_1166 : decode cL_law 1166 = .ok (.iaload, 1) := by decide +kernel
theorem dL_law_1167 : decode cL_law 1167 = .ok (.aload_n 0, 1) := by decide +kernel
theorem dL_law_1168 : decode cL_law 1168 = .ok (.iload 4, 2) := by decide +kernel
theorem dL_law_1170 : decode cL_law 1170 = .ok (.iconst 2, 1) := by decide +kernel
theorem dL_law_1171 : decode cL_law 1171 = .ok (.iadd, 1) := by decide +kernel
theorem dL_law_1172 : decode cL_law 1172 = .ok (.iaload, 1) := by decide +kernel
theorem dL_law_1173 : decode cL_law 1173 = .ok (.aload_n 3, 1) := by decide +kernel
theorem dL_law_1174 : decode cL_law 1174 = .ok (.invokestatic 142, 3) := by decide +kernel
theorem dL_law_1177 : decode cL_law 1177 = .ok (.istore 5, 2) := by decide +kernel
theorem dL_law_1179 : decode cL_law 1179 = .ok (.aload_n 2, 1) := by decide +kernel
theorem dL_law_1180 : decode cL_law 1180 = .ok (.aload_n 0, 1) := by decide +kernel
theorem dL_law_1181 : decode cL_law 1181 = .ok (.iload 4, 2) := by decide +kernel
theorem dL_law_1183 : decode cL_law 1183 = .ok (.iconst 1, 1) := by decide +kernel
theorem dL_law_1184 : decode cL_law 1184 = .ok (.iadd, 1) := by decide +kernel
theorem dL_law_1185 : decode cL_law 1185 = .ok (.iaload, 1) := by decide +kernel
theorem dL_law_1186 : decode cL_law 1186 = .ok (.aload_n 0, 1) := by decide +kernel
theorem dL_law_1187 : decode cL_law 1187 = .ok (.iload 4, 2) := by decide +kernel
theorem dL_law_1189 : decode cL_law 1189 = .ok (.iconst 2, 1) := by decide +kernel
theorem dL_law_1190 : decode cL_law 1190 = .ok (.iadd, 1) := by decide +kernel
theorem dL_law_1191 : decode cL_law 1191 = .ok (.iaload, 1) := by decide +kernel
theorem dL_law_1192 : decode cL_law 1192 = .ok (.invokevirtual 144, 3) := by decide +kernel
theorem dL_law_1195 : decode cL_law 1195 = .ok (.istore 6, 2) := by decide +kernel
theorem dL_law_1197 : decode cL_law 1197 = .ok (.aload_n 2, 1) := by decide +kernel
theorem dL_law_1198 : decode cL_law 1198 = .ok (.invokevirtual 77, 3) := by decide +kernel
theorem dL_law_1201 : decode cL_law 1201 = .ok (.iload 5, 2) := by decide +kernel
theorem dL_law_1203 : decode cL_law 1203 = .ok (.if_icmp .eq 5, 3) := by decide +kernel
theorem dL_law_1206 : decode cL_law 1206 = .ok (.iconst 0, 1) := by decide +kernel
theorem dL_law_1207 : decode cL_law 1207 = .ok (.ireturn, 1) := by decide +kernel
theorem dL_law_1208 : decode cL_law 1208 = .ok (.iload 5, 2) := by decide +kernel
theorem dL_law_1210 : decode cL_law 1210 = .ok (.ifCond .ne 15, 3) := by decide +kernel
theorem dL_law_1213 : decode cL_law 1213 = .ok (.aload_n 3, 1) := by decide +kernel
theorem dL_law_1214 : decode cL_law 1214 = .ok (.iconst 0, 1) := by decide +kernel
theorem dL_law_1215 : decode cL_law 1215 = .ok (.laload, 1) := by decide +kernel
theorem dL_law_1216 : decode cL_law 1216 = .ok (.iload 6, 2) := by decide +kernel
theorem dL_law_1218 : decode cL_law 1218 = .ok (.i2l, 1) := by decide +kernel
theorem dL_law_1219 : decode cL_law 1219 = .ok (.lcmp, 1) := by decide +kernel
theorem dL_law_1220 : decode cL_law 1220 = .ok (.ifCond .eq 5, 3) := by decide +kernel
theorem dL_law_1223 : decode cL_law 1223 = .ok (.iconst 0, 1) := by decide +kernel
theorem dL_law_1224 : decode cL_law 1224 = .ok (.ireturn, 1) := by decide +kernel
theorem dL_law_1225 : decode cL_law 1225 = .ok (.goto 3, 3) := by decide +kernel
theorem dL_law_1228 : decode cL_law 1228 = .ok (.iinc 4 4, 3) := by decide +kernel
theorem dL_law_1231 : decode cL_law 1231 = .ok (.goto (-1208), 3) := by decide +kernel
theorem dL_law_1234 : decode cL_law 1234 = .ok (.iconst 1, 1) := by decide +kernel
theorem dL_law_1235 : decode cL_law 1235 = .ok (.ireturn, 1) := by decide +kernel
abbrev vwCl : List vw_C := [(RJx4a65c, TJx4a65c, 3), (RX0, TX0, 3), (RX1, TX1, 6), (RX2, TX2, 3), (RX3, TX3, 3), (RX4, TX4, 6), (RX5, TX5, 21)]

