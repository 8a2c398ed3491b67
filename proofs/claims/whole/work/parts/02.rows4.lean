theorem dX7_ask_181 : decode cX7_ask 181 = .ok (.iinc 8 1, 3) := by decide +kernel
theorem dX7_ask_184 : decode cX7_ask 184 = .ok (.goto (-126), 3) := by decide +kernel
theorem dX7_ask_187 : decode cX7_ask 187 = .ok (.iinc 7 1, 3) := by decide +kernel
theorem dX7_ask_190 : decode cX7_ask 190 = .ok (.goto (-142), 3) := by decide +kernel
theorem dX7_ask_193 : decode cX7_ask 193 = .ok (.iload 6, 2) := by decide +kernel
theorem dX7_ask_195 : decode cX7_ask 195 = .ok (.bipush (-4), 2) := by decide +kernel
theorem dX7_ask_197 : decode cX7_ask 197 = .ok (.if_icmp .eq 7, 3) := by decide +kernel
theorem dX7_ask_200 : decode cX7_ask 200 = .ok (.iload_n 2, 1) := by decide +kernel
theorem dX7_ask_201 : decode cX7_ask 201 = .ok (.ifCond .ne 8, 3) := by decide +kernel
theorem dX7_ask_204 : decode cX7_ask 204 = .ok (.iload 6, 2) := by decide +kernel
theorem dX7_ask_206 : decode cX7_ask 206 = .ok (.goto 5, 3) := by decide +kernel
theorem dX7_ask_209 : decode cX7_ask 209 = .ok (.iload 5, 2) := by decide +kernel
theorem dX7_ask_211 : decode cX7_ask 211 = .ok (.ireturn, 1) := by decide +kernel
set_option maxRecDepth 20000 in
theorem ggX7_drift_X7_in : GoodIn wsX7_drift wsX7_in := goodIn_r _ [7] (by decide +kernel) (by decide +kernel)
set_option maxRecDepth 20000 in
theorem gX7_drift_X7_in : GoodIn wsX7_drift (va_wsS RX7 53 yX7_in wsX7_in) := goodIn_app (goodIn_of _ (by decide +kernel)) ggX7_drift_X7_in
set_option maxRecDepth 20000 in
theorem ggX7_drift_X7_copies : GoodIn wsX7_drift wsX7_copies := goodIn_r _ [11, 2, 56, 57, 58, 59, 60, 61, 62, 63, 64, 65, 66, 67, 68, 69, 70, 71, 72, 73, 74, 75, 76, 77, 78, 79, 80] (by decide +kernel) (by decide +kernel)
set_option maxRecDepth 20000 in
theorem gX7_drift_X7_copies : GoodIn wsX7_drift (wsV RX7 202 RX7 yX7_copies wsX7_copies) := goodIn_app (goodIn_of _ (by decide +kernel)) ggX7_drift_X7_copies
set_option maxRecDepth 20000 in
theorem ggX7_drift_X7_dayOn : GoodIn wsX7_drift wsX7_dayOn := goodIn_r _ [15, 2, 16, 17, 18, 19, 6, 20, 21, 22, 23, 24, 25, 26, 27, 28, 29, 30, 31, 32, 33, 34, 35, 36, 37, 38, 39, 40, 41, 42, 43, 44, 56, 57, 58, 59, 60, 61, 62, 63, 64, 65, 66, 67, 68, 69, 70, 71, 72, 73, 74, 75, 76, 77, 78, 79, 80] (by decide +kernel) (by decide +kernel)
set_option maxRecDepth 20000 in
theorem gX7_drift_X7_dayOn : GoodIn wsX7_drift (wsV RX7 198 RX7 yX7_dayOn wsX7_dayOn) := goodIn_app (goodIn_of _ (by decide +kernel)) ggX7_drift_X7_dayOn
set_option maxRecDepth 20000 in
theorem ggX7_drift_X7_guestsOn : GoodIn wsX7_drift wsX7_guestsOn := goodIn_r _ [48, 2, 56, 57, 58, 59, 60, 61, 62, 63, 64, 65, 66, 67, 68, 69, 70, 71, 72, 73, 74, 75, 76, 77, 78, 79, 80] (by decide +kernel) (by decide +kernel)
set_option maxRecDepth 20000 in
theorem gX7_drift_X7_guestsOn : GoodIn wsX7_drift (wsV RX7 162 RX7 yX7_guestsOn wsX7_guestsOn) := goodIn_app (goodIn_of _ (by decide +kernel)) ggX7_drift_X7_guestsOn
set_option maxRecDepth 20000 in
theorem ggX7_drift_X7_bitsOf : GoodIn wsX7_drift wsX7_bitsOf := goodIn_r _ [51] (by decide +kernel) (by decide +kernel)
set_option maxRecDepth 20000 in
theorem gX7_drift_X7_bitsOf : GoodIn wsX7_drift (va_wsS RX7 159 yX7_bitsOf wsX7_bitsOf) := goodIn_app (goodIn_of _ (by decide +kernel)) ggX7_drift_X7_bitsOf
set_option maxRecDepth 20000 in
theorem ggX7_drift_X7_standOn : GoodIn wsX7_drift wsX7_standOn := goodIn_r _ [55, 2, 56, 57, 58, 59, 60, 61, 62, 63, 64, 65, 66, 67, 68, 69, 70, 71, 72, 73, 74, 75, 76, 77, 78, 79, 80] (by decide +kernel) (by decide +kernel)
set_option maxRecDepth 20000 in
theorem gX7_drift_X7_standOn : GoodIn wsX7_drift (wsV RX7 156 RX7 yX7_standOn wsX7_standOn) := goodIn_app (goodIn_of _ (by decide +kernel)) ggX7_drift_X7_standOn
theorem dX7_drift_0 : decode cX7_drift 0 = .ok (.iload_n 2, 1) := by decide +kernel
theorem dX7_drift_1 : decode cX7_drift 1 = .ok (.i2l, 1) := by decide +kernel
theorem dX7_drift_2 : decode cX7_drift 2 = .ok (.lconst 1, 1) := by decide +kernel
theorem dX7_drift_3 : decode cX7_drift 3 = .ok (.ldc2_w 194, 3) := by decide +kernel
theorem dX7_drift_6 : decode cX7_drift 6 = .ok (.invokestatic 53, 3) := by decide +kernel
theorem dX7_drift_9 : decode cX7_drift 9 = .ok (.ifCond .eq 13, 3) := by decide +kernel
theorem dX7_drift_12 : decode cX7_drift 12 = .ok (.iload_n 3, 1) := by decide +kernel
theorem dX7_drift_13 : decode cX7_drift 13 = .ok (.i2l, 1) := by decide +kernel
theorem dX7_drift_14 : decode cX7_drift 14 = .ok (.lconst 0, 1) := by decide +kernel
theorem dX7_drift_15 : decode cX7_drift 15 = .ok (.lconst 1, 1) := by decide +kernel
theorem dX7_drift_16 : decode cX7_drift 16 = .ok (.invokestatic 53, 3) := by decide +kernel
theorem dX7_drift_19 : decode cX7_drift 19 = .ok (.ifCond .ne 5, 3) := by decide +kernel
theorem dX7_drift_22 : decode cX7_drift 22 = .ok (.iconst (-1), 1) := by decide +kernel
theorem dX7_drift_23 : decode cX7_drift 23 = .ok (.ireturn, 1) := by decide +kernel
theorem dX7_drift_24 : decode cX7_drift 24 = .ok (.aload_n 0, 1) := by decide +kernel
theorem dX7_drift_25 : decode cX7_drift 25 = .ok (.getfield 7, 3) := by decide +kernel
theorem dX7_drift_28 : decode cX7_drift 28 = .ok (.bipush 51, 2) := by decide +kernel
theorem dX7_drift_30 : decode cX7_drift 30 = .ok (.iaload, 1) := by decide +kernel
theorem dX7_drift_31 : decode cX7_drift 31 = .ok (.ifCond .ne 6, 3) := by decide +kernel
theorem dX7_drift_34 : decode cX7_drift 34 = .ok (.bipush (-2), 2) := by decide +kernel
theorem dX7_drift_36 : decode cX7_drift 36 = .ok (.ireturn, 1) := by decide +kernel
theorem dX7_drift_37 : decode cX7_drift 37 = .ok (.aload_n 0, 1) := by decide +kernel
theorem dX7_drift_38 : decode cX7_drift 38 = .ok (.iconst 0, 1) := by decide +kernel
theorem dX7_drift_39 : decode cX7_drift 39 = .ok (.sipush 212, 3) := by decide +kernel
theorem dX7_drift_42 : decode cX7_drift 42 = .ok (.invokevirtual 202, 3) := by decide +kernel
theorem dX7_drift_45 : decode cX7_drift 45 = .ok (.iload_n 1, 1) := by decide +kernel
theorem dX7_drift_46 : decode cX7_drift 46 = .ok (.istore 4, 2) := by decide +kernel
theorem dX7_drift_48 : decode cX7_drift 48 = .ok (.iconst 0, 1) := by decide +kernel
theorem dX7_drift_49 : decode cX7_drift 49 = .ok (.istore 5, 2) := by decide +kernel
theorem dX7_drift_51 : decode cX7_drift 51 = .ok (.iload 5, 2) := by decide +kernel
theorem dX7_drift_53 : decode cX7_drift 53 = .ok (.iload_n 2, 1) := by decide +kernel
theorem dX7_drift_54 : decode cX7_drift 54 = .ok (.if_icmp .ge 66, 3) := by decide +kernel
theorem dX7_drift_57 : decode cX7_drift 57 = .ok (.iload 4, 2) := by decide +kernel
theorem dX7_drift_59 : decode cX7_drift 59 = .ok (.ldc 230, 2) := by decide +kernel
theorem dX7_drift_61 : decode cX7_drift 61 = .ok (.imul, 1) := by decide +kernel
theorem dX7_drift_62 : decode cX7_drift 62 = .ok (.sipush 12345, 3) := by decide +kernel
theorem dX7_drift_65 : decode cX7_drift 65 = .ok (.iadd, 1) := by decide +kernel
theorem dX7_drift_66 : decode cX7_drift 66 = .ok (.istore 4, 2) := by decide +kernel
theorem dX7_drift_68 : decode cX7_drift 68 = .ok (.iload 4, 2) := by decide +kernel
theorem dX7_drift_70 : decode cX7_drift 70 = .ok (.bipush 16, 2) := by decide +kernel
theorem dX7_drift_72 : decode cX7_drift 72 = .ok (.ishr, 1) := by decide +kernel
theorem dX7_drift_73 : decode cX7_drift 73 = .ok (.sipush 32767, 3) := by decide +kernel
theorem dX7_drift_76 : decode cX7_drift 76 = .ok (.iand, 1) := by decide +kernel
theorem dX7_drift_77 : decode cX7_drift 77 = .ok (.bipush 24, 2) := by decide +kernel
theorem dX7_drift_79 : decode cX7_drift 79 = .ok (.irem, 1) := by decide +kernel
theorem dX7_drift_80 : decode cX7_drift 80 = .ok (.istore 6, 2) := by decide +kernel
theorem dX7_drift_82 : decode cX7_drift 82 = .ok (.aload_n 0, 1) := by decide +kernel
theorem dX7_drift_83 : decode cX7_drift 83 = .ok (.getfield 7, 3) := by decide +kernel
theorem dX7_drift_86 : decode cX7_drift 86 = .ok (.sipush 212, 3) := by decide +kernel
theorem dX7_drift_89 : decode cX7_drift 89 = .ok (.iload 6, 2) := by decide +kernel
theorem dX7_drift_91 : decode cX7_drift 91 = .ok (.iadd, 1) := by decide +kernel
theorem dX7_drift_92 : decode cX7_drift 92 = .ok (.iconst 1, 1) := by decide +kernel
theorem dX7_drift_93 : decode cX7_drift 93 = .ok (.aload_n 0, 1) := by decide +kernel
theorem dX7_drift_94 : decode cX7_drift 94 = .ok (.getfield 7, 3) := by decide +kernel
theorem dX7_drift_97 : decode cX7_drift 97 = .ok (.sipush 212, 3) := by decide +kernel
theorem dX7_drift_100 : decode cX7_drift 100 = .ok (.iload 6, 2) := by decide +kernel
theorem dX7_drift_102 : decode cX7_drift 102 = .ok (.iadd, 1) := by decide +kernel
theorem dX7_drift_103 : decode cX7_drift 103 = .ok (.iaload, 1) := by decide +kernel
theorem dX7_drift_104 : decode cX7_drift 104 = .ok (.isub, 1) := by decide +kernel
theorem dX7_drift_105 : decode cX7_drift 105 = .ok (.iastore, 1) := by decide +kernel
theorem dX7_drift_106 : decode cX7_drift 106 = .ok (.aload_n 0, 1) := by decide +kernel
theorem dX7_drift_107 : decode cX7_drift 107 = .ok (.sipush 212, 3) := by decide +kernel
theorem dX7_drift_110 : decode cX7_drift 110 = .ok (.iconst 0, 1) := by decide +kernel
theorem dX7_drift_111 : decode cX7_drift 111 = .ok (.invokevirtual 198, 3) := by decide +kernel
theorem dX7_drift_114 : decode cX7_drift 114 = .ok (.iinc 5 1, 3) := by decide +kernel
theorem dX7_drift_117 : decode cX7_drift 117 = .ok (.goto (-66), 3) := by decide +kernel
theorem dX7_drift_120 : decode cX7_drift 120 = .ok (.iload_n 3, 1) := by decide +kernel
theorem dX7_drift_121 : decode cX7_drift 121 = .ok (.ifCond .ne 17, 3) := by decide +kernel
theorem dX7_drift_124 : decode cX7_drift 124 = .ok (.aload_n 0, 1) := by decide +kernel
theorem dX7_drift_125 : decode cX7_drift 125 = .ok (.sipush 212, 3) := by decide +kernel
theorem dX7_drift_128 : decode cX7_drift 128 = .ok (.iconst 1, 1) := by decide +kernel
theorem dX7_drift_129 : decode cX7_drift 129 = .ok (.invokevirtual 162, 3) := by decide +kernel
theorem dX7_drift_132 : decode cX7_drift 132 = .ok (.invokestatic 159, 3) := by decide +kernel
theorem dX7_drift_135 : decode cX7_drift 135 = .ok (.goto 13, 3) := by decide +kernel
theorem dX7_drift_138 : decode cX7_drift 138 = .ok (.aload_n 0, 1) := by decide +kernel
theorem dX7_drift_139 : decode cX7_drift 139 = .ok (.sipush 212, 3) := by decide +kernel
theorem dX7_drift_142 : decode cX7_drift 142 = .ok (.invokevirtual 156, 3) := by decide +kernel
theorem dX7_drift_145 : decode cX7_drift 145 = .ok (.invokestatic 159, 3) := by decide +kernel
theorem dX7_drift_148 : decode cX7_drift 148 = .ok (.ireturn, 1) := by decide +kernel
set_option maxRecDepth 20000 in
theorem ggX7_keep_X7_in : GoodIn wsX7_keep wsX7_in := goodIn_r _ [5] (by decide +kernel) (by decide +kernel)
set_option maxRecDepth 20000 in
theorem gX7_keep_X7_in : GoodIn wsX7_keep (va_wsS RX7 53 yX7_in wsX7_in) := goodIn_app (goodIn_of _ (by decide +kernel)) ggX7_keep_X7_in
set_option maxRecDepth 20000 in
theorem ggX7_keep_X7_copies : GoodIn wsX7_keep wsX7_copies := goodIn_r _ [9, 10, 11, 12, 13, 14, 15, 16, 17, 18, 19, 20, 21, 22, 23, 24, 25, 26, 27, 28, 29, 30, 31, 32, 33, 34, 35] (by decide +kernel) (by decide +kernel)
set_option maxRecDepth 20000 in
theorem gX7_keep_X7_copies : GoodIn wsX7_keep (wsV RX7 202 RX7 yX7_copies wsX7_copies) := goodIn_app (goodIn_of _ (by decide +kernel)) ggX7_keep_X7_copies
theorem dX7_keep_0 : decode cX7_keep 0 = .ok (.iload_n 1, 1) := by decide +kernel
theorem dX7_keep_1 : decode cX7_keep 1 = .ok (.i2l, 1) := by decide +kernel
theorem dX7_keep_2 : decode cX7_keep 2 = .ok (.lconst 0, 1) := by decide +kernel
theorem dX7_keep_3 : decode cX7_keep 3 = .ok (.lconst 1, 1) := by decide +kernel
theorem dX7_keep_4 : decode cX7_keep 4 = .ok (.invokestatic 53, 3) := by decide +kernel
theorem dX7_keep_7 : decode cX7_keep 7 = .ok (.ifCond .ne 5, 3) := by decide +kernel
theorem dX7_keep_10 : decode cX7_keep 10 = .ok (.iconst (-1), 1) := by decide +kernel
theorem dX7_keep_11 : decode cX7_keep 11 = .ok (.ireturn, 1) := by decide +kernel
theorem dX7_keep_12 : decode cX7_keep 12 = .ok (.aload_n 0, 1) := by decide +kernel
theorem dX7_keep_13 : decode cX7_keep 13 = .ok (.iconst 0, 1) := by decide +kernel
theorem dX7_keep_14 : decode cX7_keep 14 = .ok (.bipush 53, 2) := by decide +kernel
theorem dX7_keep_16 : decode cX7_keep 16 = .ok (.iload_n 1, 1) := by decide +kernel
theorem dX7_keep_17 : decode cX7_keep 17 = .ok (.iconst 1, 1) := by decide +kernel
theorem dX7_keep_18 : decode cX7_keep 18 = .ok (.iadd, 1) := by decide +kernel
theorem dX7_keep_19 : decode cX7_keep 19 = .ok (.imul, 1) := by decide +kernel
theorem dX7_keep_20 : decode cX7_keep 20 = .ok (.invokevirtual 202, 3) := by decide +kernel
theorem dX7_keep_23 : decode cX7_keep 23 = .ok (.aload_n 0, 1) := by decide +kernel
theorem dX7_keep_24 : decode cX7_keep 24 = .ok (.getfield 38, 3) := by decide +kernel
theorem dX7_keep_27 : decode cX7_keep 27 = .ok (.iload_n 1, 1) := by decide +kernel
theorem dX7_keep_28 : decode cX7_keep 28 = .ok (.baload, 1) := by decide +kernel
theorem dX7_keep_29 : decode cX7_keep 29 = .ok (.ifCond .eq 7, 3) := by decide +kernel
theorem dX7_keep_32 : decode cX7_keep 32 = .ok (.iconst 1, 1) := by decide +kernel
theorem dX7_keep_33 : decode cX7_keep 33 = .ok (.goto 4, 3) := by decide +kernel
theorem dX7_keep_36 : decode cX7_keep 36 = .ok (.iconst 0, 1) := by decide +kernel
theorem dX7_keep_37 : decode cX7_keep 37 = .ok (.istore_n 2, 1) := by decide +kernel
theorem dX7_keep_38 : decode cX7_keep 38 = .ok (.aload_n 0, 1) := by decide +kernel
theorem dX7_keep_39 : decode cX7_keep 39 = .ok (.getfield 38, 3) := by decide +kernel
theorem dX7_keep_42 : decode cX7_keep 42 = .ok (.iload_n 1, 1) := by decide +kernel
theorem dX7_keep_43 : decode cX7_keep 43 = .ok (.iconst 1, 1) := by decide +kernel
theorem dX7_keep_44 : decode cX7_keep 44 = .ok (.bastore, 1) := by decide +kernel
theorem dX7_keep_45 : decode cX7_keep 45 = .ok (.iload_n 2, 1) := by decide +kernel
theorem dX7_keep_46 : decode cX7_keep 46 = .ok (.ireturn, 1) := by decide +kernel
set_option maxRecDepth 20000 in
theorem ggX7_back_X7_in : GoodIn wsX7_back wsX7_in := goodIn_r _ [6] (by decide +kernel) (by decide +kernel)
set_option maxRecDepth 20000 in
theorem gX7_back_X7_in : GoodIn wsX7_back (va_wsS RX7 53 yX7_in wsX7_in) := goodIn_app (goodIn_of _ (by decide +kernel)) ggX7_back_X7_in
set_option maxRecDepth 20000 in
theorem ggX7_back_X7_copies : GoodIn wsX7_back wsX7_copies := goodIn_r _ [10, 2, 11, 12, 13, 14, 15, 16, 17, 18, 19, 20, 21, 22, 23, 24, 25, 26, 27, 28, 29, 30, 31, 32, 33, 34, 35] (by decide +kernel) (by decide +kernel)
set_option maxRecDepth 20000 in
theorem gX7_back_X7_copies : GoodIn wsX7_back (wsV RX7 202 RX7 yX7_copies wsX7_copies) := goodIn_app (goodIn_of _ (by decide +kernel)) ggX7_back_X7_copies
theorem dX7_back_0 : decode cX7_back 0 = .ok (.iload_n 1, 1) := by decide +kernel
theorem dX7_back_1 : decode cX7_back 1 = .ok (.i2l, 1) := by decide +kernel
theorem dX7_back_2 : decode cX7_back 2 = .ok (.lconst 0, 1) := by decide +kernel
theorem dX7_back_3 : decode cX7_back 3 = .ok (.lconst 1, 1) := by decide +kernel
theorem dX7_back_4 : decode cX7_back 4 = .ok (.invokestatic 53, 3) := by decide +kernel
theorem dX7_back_7 : decode cX7_back 7 = .ok (.ifCond .ne 5, 3) := by decide +kernel
theorem dX7_back_10 : decode cX7_back 10 = .ok (.iconst (-1), 1) := by decide +kernel
theorem dX7_back_11 : decode cX7_back 11 = .ok (.ireturn, 1) := by decide +kernel
theorem dX7_back_12 : decode cX7_back 12 = .ok (.aload_n 0, 1) := by decide +kernel
theorem dX7_back_13 : decode cX7_back 13 = .ok (.getfield 38, 3) := by decide +kernel
theorem dX7_back_16 : decode cX7_back 16 = .ok (.iload_n 1, 1) := by decide +kernel
theorem dX7_back_17 : decode cX7_back 17 = .ok (.baload, 1) := by decide +kernel
theorem dX7_back_18 : decode cX7_back 18 = .ok (.ifCond .ne 6, 3) := by decide +kernel
theorem dX7_back_21 : decode cX7_back 21 = .ok (.bipush (-2), 2) := by decide +kernel
theorem dX7_back_23 : decode cX7_back 23 = .ok (.ireturn, 1) := by decide +kernel
theorem dX7_back_24 : decode cX7_back 24 = .ok (.aload_n 0, 1) := by decide +kernel
theorem dX7_back_25 : decode cX7_back 25 = .ok (.bipush 53, 2) := by decide +kernel
theorem dX7_back_27 : decode cX7_back 27 = .ok (.iload_n 1, 1) := by decide +kernel
theorem dX7_back_28 : decode cX7_back 28 = .ok (.iconst 1, 1) := by decide +kernel
theorem dX7_back_29 : decode cX7_back 29 = .ok (.iadd, 1) := by decide +kernel
theorem dX7_back_30 : decode cX7_back 30 = .ok (.imul, 1) := by decide +kernel
theorem dX7_back_31 : decode cX7_back 31 = .ok (.iconst 0, 1) := by decide +kernel
theorem dX7_back_32 : decode cX7_back 32 = .ok (.invokevirtual 202, 3) := by decide +kernel
theorem dX7_back_35 : decode cX7_back 35 = .ok (.aload_n 0, 1) := by decide +kernel
theorem dX7_back_36 : decode cX7_back 36 = .ok (.getfield 7, 3) := by decide +kernel
theorem dX7_back_39 : decode cX7_back 39 = .ok (.bipush 52, 2) := by decide +kernel
theorem dX7_back_41 : decode cX7_back 41 = .ok (.iaload, 1) := by decide +kernel
theorem dX7_back_42 : decode cX7_back 42 = .ok (.ireturn, 1) := by decide +kernel
set_option maxRecDepth 20000 in
theorem ggX7_sheet_X7_in : GoodIn wsX7_sheet wsX7_in := goodIn_r _ [9] (by decide +kernel) (by decide +kernel)
set_option maxRecDepth 20000 in
theorem gX7_sheet_X7_in : GoodIn wsX7_sheet (va_wsS RX7 53 yX7_in wsX7_in) := goodIn_app (goodIn_of _ (by decide +kernel)) ggX7_sheet_X7_in
theorem dX7_sheet_0 : decode cX7_sheet 0 = .ok (.iload_n 1, 1) := by decide +kernel
theorem dX7_sheet_1 : decode cX7_sheet 1 = .ok (.i2l, 1) := by decide +kernel
theorem dX7_sheet_2 : decode cX7_sheet 2 = .ok (.lconst 0, 1) := by decide +kernel
theorem dX7_sheet_3 : decode cX7_sheet 3 = .ok (.ldc2_w 175, 3) := by decide +kernel
theorem dX7_sheet_6 : decode cX7_sheet 6 = .ok (.invokestatic 53, 3) := by decide +kernel
theorem dX7_sheet_9 : decode cX7_sheet 9 = .ok (.ifCond .eq 21, 3) := by decide +kernel
theorem dX7_sheet_12 : decode cX7_sheet 12 = .ok (.iload_n 2, 1) := by decide +kernel
theorem dX7_sheet_13 : decode cX7_sheet 13 = .ok (.i2l, 1) := by decide +kernel
theorem dX7_sheet_14 : decode cX7_sheet 14 = .ok (.lconst 0, 1) := by decide +kernel
theorem dX7_sheet_15 : decode cX7_sheet 15 = .ok (.ldc2_w 180, 3) := by decide +kernel
theorem dX7_sheet_18 : decode cX7_sheet 18 = .ok (.invokestatic 53, 3) := by decide +kernel
theorem dX7_sheet_21 : decode cX7_sheet 21 = .ok (.ifCond .eq 9, 3) := by decide +kernel
theorem dX7_sheet_24 : decode cX7_sheet 24 = .ok (.iload_n 3, 1) := by decide +kernel
theorem dX7_sheet_25 : decode cX7_sheet 25 = .ok (.bipush 40, 2) := by decide +kernel
theorem dX7_sheet_27 : decode cX7_sheet 27 = .ok (.if_icmp .le 5, 3) := by decide +kernel
theorem dX7_sheet_30 : decode cX7_sheet 30 = .ok (.iconst (-1), 1) := by decide +kernel
theorem dX7_sheet_31 : decode cX7_sheet 31 = .ok (.ireturn, 1) := by decide +kernel
theorem dX7_sheet_32 : decode cX7_sheet 32 = .ok (.iload_n 3, 1) := by decide +kernel
theorem dX7_sheet_33 : decode cX7_sheet 33 = .ok (.ifCond .ge 6, 3) := by decide +kernel
theorem dX7_sheet_36 : decode cX7_sheet 36 = .ok (.bipush (-14), 2) := by decide +kernel
theorem dX7_sheet_38 : decode cX7_sheet 38 = .ok (.ireturn, 1) := by decide +kernel
theorem dX7_sheet_39 : decode cX7_sheet 39 = .ok (.aload_n 0, 1) := by decide +kernel
theorem dX7_sheet_40 : decode cX7_sheet 40 = .ok (.getfield 42, 3) := by decide +kernel
theorem dX7_sheet_43 : decode cX7_sheet 43 = .ok (.iload_n 1, 1) := by decide +kernel
theorem dX7_sheet_44 : decode cX7_sheet 44 = .ok (.iload_n 2, 1) := by decide +kernel
theorem dX7_sheet_45 : decode cX7_sheet 45 = .ok (.iastore, 1) := by decide +kernel
theorem dX7_sheet_46 : decode cX7_sheet 46 = .ok (.aload_n 0, 1) := by decide +kernel
theorem dX7_sheet_47 : decode cX7_sheet 47 = .ok (.getfield 45, 3) := by decide +kernel
theorem dX7_sheet_50 : decode cX7_sheet 50 = .ok (.iload_n 1, 1) := by decide +kernel
theorem dX7_sheet_51 : decode cX7_sheet 51 = .ok (.iload_n 3, 1) := by decide +kernel
theorem dX7_sheet_52 : decode cX7_sheet 52 = .ok (.iastore, 1) := by decide +kernel
theorem dX7_sheet_53 : decode cX7_sheet 53 = .ok (.iconst 0, 1) := by decide +kernel
theorem dX7_sheet_54 : decode cX7_sheet 54 = .ok (.istore 4, 2) := by decide +kernel
theorem dX7_sheet_56 : decode cX7_sheet 56 = .ok (.iload 4, 2) := by decide +kernel
theorem dX7_sheet_58 : decode cX7_sheet 58 = .ok (.bipush 40, 2) := by decide +kernel
theorem dX7_sheet_60 : decode cX7_sheet 60 = .ok (.if_icmp .ge 22, 3) := by decide +kernel
theorem dX7_sheet_63 : decode cX7_sheet 63 = .ok (.aload_n 0, 1) := by decide +kernel
theorem dX7_sheet_64 : decode cX7_sheet 64 = .ok (.getfield 48, 3) := by decide +kernel
theorem dX7_sheet_67 : decode cX7_sheet 67 = .ok (.bipush 40, 2) := by decide +kernel
theorem dX7_sheet_69 : decode cX7_sheet 69 = .ok (.iload_n 1, 1) := by decide +kernel
theorem dX7_sheet_70 : decode cX7_sheet 70 = .ok (.imul, 1) := by decide +kernel
theorem dX7_sheet_71 : decode cX7_sheet 71 = .ok (.iload 4, 2) := by decide +kernel
theorem dX7_sheet_73 : decode cX7_sheet 73 = .ok (.iadd, 1) := by decide +kernel
theorem dX7_sheet_74 : decode cX7_sheet 74 = .ok (.iconst 0, 1) := by decide +kernel
theorem dX7_sheet_75 : decode cX7_sheet 75 = .ok (.iastore, 1) := by decide +kernel
theorem dX7_sheet_76 : decode cX7_sheet 76 = .ok (.iinc 4 1, 3) := by decide +kernel
theorem dX7_sheet_79 : decode cX7_sheet 79 = .ok (.goto (-23), 3) := by decide +kernel
theorem dX7_sheet_82 : decode cX7_sheet 82 = .ok (.iconst 1, 1) := by decide +kernel
theorem dX7_sheet_83 : decode cX7_sheet 83 = .ok (.ireturn, 1) := by decide +kernel
set_option maxRecDepth 20000 in
theorem ggX7_lay_X7_in : GoodIn wsX7_lay wsX7_in := goodIn_r _ [8] (by decide +kernel) (by decide +kernel)
set_option maxRecDepth 20000 in
theorem gX7_lay_X7_in : GoodIn wsX7_lay (va_wsS RX7 53 yX7_in wsX7_in) := goodIn_app (goodIn_of _ (by decide +kernel)) ggX7_lay_X7_in
theorem dX7_lay_0 : decode cX7_lay 0 = .ok (.iload_n 1, 1) := by decide +kernel
theorem dX7_lay_1 : decode cX7_lay 1 = .ok (.i2l, 1) := by decide +kernel
theorem dX7_lay_2 : decode cX7_lay 2 = .ok (.lconst 0, 1) := by decide +kernel
theorem dX7_lay_3 : decode cX7_lay 3 = .ok (.ldc2_w 175, 3) := by decide +kernel
theorem dX7_lay_6 : decode cX7_lay 6 = .ok (.invokestatic 53, 3) := by decide +kernel
theorem dX7_lay_9 : decode cX7_lay 9 = .ok (.ifCond .ne 5, 3) := by decide +kernel
theorem dX7_lay_12 : decode cX7_lay 12 = .ok (.iconst (-1), 1) := by decide +kernel
theorem dX7_lay_13 : decode cX7_lay 13 = .ok (.ireturn, 1) := by decide +kernel
theorem dX7_lay_14 : decode cX7_lay 14 = .ok (.aload_n 0, 1) := by decide +kernel
theorem dX7_lay_15 : decode cX7_lay 15 = .ok (.getfield 42, 3) := by decide +kernel
theorem dX7_lay_18 : decode cX7_lay 18 = .ok (.iload_n 1, 1) := by decide +kernel
theorem dX7_lay_19 : decode cX7_lay 19 = .ok (.iaload, 1) := by decide +kernel
theorem dX7_lay_20 : decode cX7_lay 20 = .ok (.bipush (-4), 2) := by decide +kernel
theorem dX7_lay_22 : decode cX7_lay 22 = .ok (.if_icmp .ne 6, 3) := by decide +kernel
theorem dX7_lay_25 : decode cX7_lay 25 = .ok (.bipush (-11), 2) := by decide +kernel
theorem dX7_lay_27 : decode cX7_lay 27 = .ok (.ireturn, 1) := by decide +kernel
theorem dX7_lay_28 : decode cX7_lay 28 = .ok (.iload_n 2, 1) := by decide +kernel
theorem dX7_lay_29 : decode cX7_lay 29 = .ok (.i2l, 1) := by decide +kernel
theorem dX7_lay_30 : decode cX7_lay 30 = .ok (.lconst 0, 1) := by decide +kernel
theorem dX7_lay_31 : decode cX7_lay 31 = .ok (.aload_n 0, 1) := by decide +kernel
theorem dX7_lay_32 : decode cX7_lay 32 = .ok (.getfield 45, 3) := by decide +kernel
theorem dX7_lay_35 : decode cX7_lay 35 = .ok (.iload_n 1, 1) := by decide +kernel
theorem dX7_lay_36 : decode cX7_lay 36 = .ok (.iaload, 1) := by decide +kernel
theorem dX7_lay_37 : decode cX7_lay 37 = .ok (.iconst 1, 1) := by decide +kernel
theorem dX7_lay_38 : decode cX7_lay 38 = .ok (.isub, 1) := by decide +kernel
theorem dX7_lay_39 : decode cX7_lay 39 = .ok (.i2l, 1) := by decide +kernel
theorem dX7_lay_40 : decode cX7_lay 40 = .ok (.invokestatic 53, 3) := by decide +kernel
theorem dX7_lay_43 : decode cX7_lay 43 = .ok (.ifCond .ne 6, 3) := by decide +kernel
theorem dX7_lay_46 : decode cX7_lay 46 = .ok (.bipush (-12), 2) := by decide +kernel
theorem dX7_lay_48 : decode cX7_lay 48 = .ok (.ireturn, 1) := by decide +kernel
theorem dX7_lay_49 : decode cX7_lay 49 = .ok (.aload_n 0, 1) := by decide +kernel
theorem dX7_lay_50 : decode cX7_lay 50 = .ok (.getfield 48, 3) := by decide +kernel
theorem dX7_lay_53 : decode cX7_lay 53 = .ok (.bipush 40, 2) := by decide +kernel
theorem dX7_lay_55 : decode cX7_lay 55 = .ok (.iload_n 1, 1) := by decide +kernel
theorem dX7_lay_56 : decode cX7_lay 56 = .ok (.imul, 1) := by decide +kernel
theorem dX7_lay_57 : decode cX7_lay 57 = .ok (.iload_n 2, 1) := by decide +kernel
theorem dX7_lay_58 : decode cX7_lay 58 = .ok (.iadd, 1) := by decide +kernel
theorem dX7_lay_59 : decode cX7_lay 59 = .ok (.aload_n 0, 1) := by decide +kernel
theorem dX7_lay_60 : decode cX7_lay 60 = .ok (.getfield 42, 3) := by decide +kernel
theorem dX7_lay_63 : decode cX7_lay 63 = .ok (.iload_n 1, 1) := by decide +kernel
theorem dX7_lay_64 : decode cX7_lay 64 = .ok (.iaload, 1) := by decide +kernel
theorem dX7_lay_65 : decode cX7_lay 65 = .ok (.ifCond .ne 13, 3) := by decide +kernel
theorem dX7_lay_68 : decode cX7_lay 68 = .ok (.iload_n 3, 1) := by decide +kernel
theorem dX7_lay_69 : decode cX7_lay 69 = .ok (.bipush 24, 2) := by decide +kernel
theorem dX7_lay_71 : decode cX7_lay 71 = .ok (.ishl, 1) := by decide +kernel
theorem dX7_lay_72 : decode cX7_lay 72 = .ok (.bipush 24, 2) := by decide +kernel
theorem dX7_lay_74 : decode cX7_lay 74 = .ok (.ishr, 1) := by decide +kernel
theorem dX7_lay_75 : decode cX7_lay 75 = .ok (.goto 24, 3) := by decide +kernel
theorem dX7_lay_78 : decode cX7_lay 78 = .ok (.aload_n 0, 1) := by decide +kernel
theorem dX7_lay_79 : decode cX7_lay 79 = .ok (.getfield 42, 3) := by decide +kernel
theorem dX7_lay_82 : decode cX7_lay 82 = .ok (.iload_n 1, 1) := by decide +kernel
theorem dX7_lay_83 : decode cX7_lay 83 = .ok (.iaload, 1) := by decide +kernel
theorem dX7_lay_84 : decode cX7_lay 84 = .ok (.iconst 1, 1) := by decide +kernel
theorem dX7_lay_85 : decode cX7_lay 85 = .ok (.if_icmp .ne 13, 3) := by decide +kernel
theorem dX7_lay_88 : decode cX7_lay 88 = .ok (.iload_n 3, 1) := by decide +kernel
theorem dX7_lay_89 : decode cX7_lay 89 = .ok (.bipush 16, 2) := by decide +kernel
theorem dX7_lay_91 : decode cX7_lay 91 = .ok (.ishl, 1) := by decide +kernel
theorem dX7_lay_92 : decode cX7_lay 92 = .ok (.bipush 16, 2) := by decide +kernel
theorem dX7_lay_94 : decode cX7_lay 94 = .ok (.ishr, 1) := by decide +kernel
theorem dX7_lay_95 : decode cX7_lay 95 = .ok (.goto 4, 3) := by decide +kernel
theorem dX7_lay_98 : decode cX7_lay 98 = .ok (.iload_n 3, 1) := by decide +kernel
theorem dX7_lay_99 : decode cX7_lay 99 = .ok (.iastore, 1) := by decide +kernel
theorem dX7_lay_100 : decode cX7_lay 100 = .ok (.iconst 1, 1) := by decide +kernel
theorem dX7_lay_101 : decode cX7_lay 101 = .ok (.ireturn, 1) := by decide +kernel
set_option maxRecDepth 20000 in
theorem ggX7_read_X7_in : GoodIn wsX7_read wsX7_in := goodIn_r _ [11] (by decide +kernel) (by decide +kernel)
set_option maxRecDepth 20000 in
theorem gX7_read_X7_in : GoodIn wsX7_read (va_wsS RX7 53 yX7_in wsX7_in) := goodIn_app (goodIn_of _ (by decide +kernel)) ggX7_read_X7_in
set_option maxRecDepth 20000 in
theorem ggX7_read_X7_copies : GoodIn wsX7_read wsX7_copies := goodIn_r _ [15, 16, 29, 30, 31, 32, 33, 34, 35, 36, 37, 38, 39, 40, 41, 42, 43, 44, 45, 46, 47, 48, 49, 50, 51, 52, 53] (by decide +kernel) (by decide +kernel)
set_option maxRecDepth 20000 in
theorem gX7_read_X7_copies : GoodIn wsX7_read (wsV RX7 202 RX7 yX7_copies wsX7_copies) := goodIn_app (goodIn_of _ (by decide +kernel)) ggX7_read_X7_copies
set_option maxRecDepth 20000 in
theorem ggX7_read_X7_grows : GoodIn wsX7_read wsX7_grows := goodIn_r _ [20, 21, 22, 10, 23, 24, 8, 9, 11, 25, 26, 27, 28, 16, 29, 30, 31, 32, 33, 34, 35, 36, 37, 38, 39, 40, 41, 42, 43, 44, 45, 46, 47, 48, 49, 50, 51, 52, 53] (by decide +kernel) (by decide +kernel)
set_option maxRecDepth 20000 in
theorem gX7_read_X7_grows : GoodIn wsX7_read (wsV RX7 189 RX7 yX7_grows wsX7_grows) := goodIn_app (goodIn_of _ (by decide +kernel)) ggX7_read_X7_grows
theorem dX7_read_0 : decode cX7_read 0 = .ok (.iload_n 1, 1) := by decide +kernel
theorem dX7_read_1 : decode cX7_read 1 = .ok (.i2l, 1) := by decide +kernel
theorem dX7_read_2 : decode cX7_read 2 = .ok (.lconst 0, 1) := by decide +kernel
theorem dX7_read_3 : decode cX7_read 3 = .ok (.ldc2_w 175, 3) := by decide +kernel
theorem dX7_read_6 : decode cX7_read 6 = .ok (.invokestatic 53, 3) := by decide +kernel
theorem dX7_read_9 : decode cX7_read 9 = .ok (.ifCond .eq 28, 3) := by decide +kernel
theorem dX7_read_12 : decode cX7_read 12 = .ok (.iload_n 2, 1) := by decide +kernel
theorem dX7_read_13 : decode cX7_read 13 = .ok (.i2l, 1) := by decide +kernel
theorem dX7_read_14 : decode cX7_read 14 = .ok (.lconst 0, 1) := by decide +kernel
theorem dX7_read_15 : decode cX7_read 15 = .ok (.ldc2_w 180, 3) := by decide +kernel
theorem dX7_read_18 : decode cX7_read 18 = .ok (.invokestatic 53, 3) := by decide +kernel
theorem dX7_read_21 : decode cX7_read 21 = .ok (.ifCond .eq 16, 3) := by decide +kernel
theorem dX7_read_24 : decode cX7_read 24 = .ok (.iload 4, 2) := by decide +kernel
theorem dX7_read_26 : decode cX7_read 26 = .ok (.i2l, 1) := by decide +kernel
theorem dX7_read_27 : decode cX7_read 27 = .ok (.lconst 0, 1) := by decide +kernel
theorem dX7_read_28 : decode cX7_read 28 = .ok (.ldc2_w 222, 3) := by decide +kernel
theorem dX7_read_31 : decode cX7_read 31 = .ok (.invokestatic 53, 3) := by decide +kernel
theorem dX7_read_34 : decode cX7_read 34 = .ok (.ifCond .ne 5, 3) := by decide +kernel
theorem dX7_read_37 : decode cX7_read 37 = .ok (.iconst (-1), 1) := by decide +kernel
theorem dX7_read_38 : decode cX7_read 38 = .ok (.ireturn, 1) := by decide +kernel
theorem dX7_read_39 : decode cX7_read 39 = .ok (.aload_n 0, 1) := by decide +kernel
theorem dX7_read_40 : decode cX7_read 40 = .ok (.iconst 0, 1) := by decide +kernel
theorem dX7_read_41 : decode cX7_read 41 = .ok (.sipush 159, 3) := by decide +kernel
theorem dX7_read_44 : decode cX7_read 44 = .ok (.invokevirtual 202, 3) := by decide +kernel
theorem dX7_read_47 : decode cX7_read 47 = .ok (.iconst 0, 1) := by decide +kernel
theorem dX7_read_48 : decode cX7_read 48 = .ok (.istore 5, 2) := by decide +kernel
theorem dX7_read_50 : decode cX7_read 50 = .ok (.iconst 0, 1) := by decide +kernel
theorem dX7_read_51 : decode cX7_read 51 = .ok (.istore 6, 2) := by decide +kernel
theorem dX7_read_53 : decode cX7_read 53 = .ok (.iconst 0, 1) := by decide +kernel
theorem dX7_read_54 : decode cX7_read 54 = .ok (.istore 7, 2) := by decide +kernel
theorem dX7_read_56 : decode cX7_read 56 = .ok (.iload 7, 2) := by decide +kernel
theorem dX7_read_58 : decode cX7_read 58 = .ok (.iconst 2, 1) := by decide +kernel
theorem dX7_read_59 : decode cX7_read 59 = .ok (.iload 4, 2) := by decide +kernel
theorem dX7_read_61 : decode cX7_read 61 = .ok (.imul, 1) := by decide +kernel
theorem dX7_read_62 : decode cX7_read 62 = .ok (.if_icmp .ge 136, 3) := by decide +kernel
theorem dX7_read_65 : decode cX7_read 65 = .ok (.iload 5, 2) := by decide +kernel
theorem dX7_read_67 : decode cX7_read 67 = .ok (.ifCond .ne 131, 3) := by decide +kernel
theorem dX7_read_70 : decode cX7_read 70 = .ok (.aload_n 0, 1) := by decide +kernel
theorem dX7_read_71 : decode cX7_read 71 = .ok (.getfield 42, 3) := by decide +kernel
theorem dX7_read_74 : decode cX7_read 74 = .ok (.iload_n 1, 1) := by decide +kernel
theorem dX7_read_75 : decode cX7_read 75 = .ok (.iaload, 1) := by decide +kernel
theorem dX7_read_76 : decode cX7_read 76 = .ok (.bipush (-4), 2) := by decide +kernel
theorem dX7_read_78 : decode cX7_read 78 = .ok (.if_icmp .ne 7, 3) := by decide +kernel
theorem dX7_read_81 : decode cX7_read 81 = .ok (.iconst 1, 1) := by decide +kernel
theorem dX7_read_82 : decode cX7_read 82 = .ok (.goto 44, 3) := by decide +kernel
theorem dX7_read_85 : decode cX7_read 85 = .ok (.aload_n 0, 1) := by decide +kernel
theorem dX7_read_86 : decode cX7_read 86 = .ok (.getfield 42, 3) := by decide +kernel
theorem dX7_read_89 : decode cX7_read 89 = .ok (.iload_n 1, 1) := by decide +kernel
theorem dX7_read_90 : decode cX7_read 90 = .ok (.iaload, 1) := by decide +kernel
theorem dX7_read_91 : decode cX7_read 91 = .ok (.iload_n 2, 1) := by decide +kernel
theorem dX7_read_92 : decode cX7_read 92 = .ok (.if_icmp .eq 7, 3) := by decide +kernel
theorem dX7_read_95 : decode cX7_read 95 = .ok (.iconst 3, 1) := by decide +kernel
theorem dX7_read_96 : decode cX7_read 96 = .ok (.goto 30, 3) := by decide +kernel
theorem dX7_read_99 : decode cX7_read 99 = .ok (.iload_n 3, 1) := by decide +kernel
theorem dX7_read_100 : decode cX7_read 100 = .ok (.i2l, 1) := by decide +kernel
theorem dX7_read_101 : decode cX7_read 101 = .ok (.iload 7, 2) := by decide +kernel
theorem dX7_read_103 : decode cX7_read 103 = .ok (.i2l, 1) := by decide +kernel
theorem dX7_read_104 : decode cX7_read 104 = .ok (.ladd, 1) := by decide +kernel
theorem dX7_read_105 : decode cX7_read 105 = .ok (.lconst 0, 1) := by decide +kernel
theorem dX7_read_106 : decode cX7_read 106 = .ok (.aload_n 0, 1) := by decide +kernel
theorem dX7_read_107 : decode cX7_read 107 = .ok (.getfield 45, 3) := by decide +kernel
theorem dX7_read_110 : decode cX7_read 110 = .ok (.iload_n 1, 1) := by decide +kernel
theorem dX7_read_111 : decode cX7_read 111 = .ok (.iaload, 1) := by decide +kernel
theorem dX7_read_112 : decode cX7_read 112 = .ok (.iconst 1, 1) := by decide +kernel
theorem dX7_read_113 : decode cX7_read 113 = .ok (.isub, 1) := by decide +kernel
theorem dX7_read_114 : decode cX7_read 114 = .ok (.i2l, 1) := by decide +kernel
theorem dX7_read_115 : decode cX7_read 115 = .ok (.invokestatic 53, 3) := by decide +kernel
theorem dX7_read_118 : decode cX7_read 118 = .ok (.ifCond .ne 7, 3) := by decide +kernel
theorem dX7_read_121 : decode cX7_read 121 = .ok (.iconst 2, 1) := by decide +kernel
theorem dX7_read_122 : decode cX7_read 122 = .ok (.goto 4, 3) := by decide +kernel
theorem dX7_read_125 : decode cX7_read 125 = .ok (.iconst 0, 1) := by decide +kernel
theorem dX7_read_126 : decode cX7_read 126 = .ok (.istore 5, 2) := by decide +kernel
theorem dX7_read_128 : decode cX7_read 128 = .ok (.iload 5, 2) := by decide +kernel
theorem dX7_read_130 : decode cX7_read 130 = .ok (.ifCond .ne 62, 3) := by decide +kernel
theorem dX7_read_133 : decode cX7_read 133 = .ok (.iload 7, 2) := by decide +kernel
theorem dX7_read_135 : decode cX7_read 135 = .ok (.iconst 2, 1) := by decide +kernel
theorem dX7_read_136 : decode cX7_read 136 = .ok (.irem, 1) := by decide +kernel
theorem dX7_read_137 : decode cX7_read 137 = .ok (.iconst 1, 1) := by decide +kernel
theorem dX7_read_138 : decode cX7_read 138 = .ok (.if_icmp .ne 54, 3) := by decide +kernel
theorem dX7_read_141 : decode cX7_read 141 = .ok (.bipush 40, 2) := by decide +kernel
theorem dX7_read_143 : decode cX7_read 143 = .ok (.iload_n 1, 1) := by decide +kernel
theorem dX7_read_144 : decode cX7_read 144 = .ok (.imul, 1) := by decide +kernel
theorem dX7_read_145 : decode cX7_read 145 = .ok (.iload_n 3, 1) := by decide +kernel
theorem dX7_read_146 : decode cX7_read 146 = .ok (.iadd, 1) := by decide +kernel
theorem dX7_read_147 : decode cX7_read 147 = .ok (.iload 7, 2) := by decide +kernel
theorem dX7_read_149 : decode cX7_read 149 = .ok (.iadd, 1) := by decide +kernel
theorem dX7_read_150 : decode cX7_read 150 = .ok (.istore 8, 2) := by decide +kernel
theorem dX7_read_152 : decode cX7_read 152 = .ok (.aload_n 0, 1) := by decide +kernel
theorem dX7_read_153 : decode cX7_read 153 = .ok (.aload_n 0, 1) := by decide +kernel
theorem dX7_read_154 : decode cX7_read 154 = .ok (.getfield 48, 3) := by decide +kernel
theorem dX7_read_157 : decode cX7_read 157 = .ok (.iload 8, 2) := by decide +kernel
theorem dX7_read_159 : decode cX7_read 159 = .ok (.iconst 1, 1) := by decide +kernel
theorem dX7_read_160 : decode cX7_read 160 = .ok (.isub, 1) := by decide +kernel
theorem dX7_read_161 : decode cX7_read 161 = .ok (.iaload, 1) := by decide +kernel
theorem dX7_read_162 : decode cX7_read 162 = .ok (.aload_n 0, 1) := by decide +kernel
theorem dX7_read_163 : decode cX7_read 163 = .ok (.getfield 48, 3) := by decide +kernel
theorem dX7_read_166 : decode cX7_read 166 = .ok (.iload 8, 2) := by decide +kernel
theorem dX7_read_168 : decode cX7_read 168 = .ok (.iaload, 1) := by decide +kernel
theorem dX7_read_169 : decode cX7_read 169 = .ok (.invokevirtual 189, 3) := by decide +kernel
theorem dX7_read_172 : decode cX7_read 172 = .ok (.ifCond .ge 17, 3) := by decide +kernel
theorem dX7_read_175 : decode cX7_read 175 = .ok (.aload_n 0, 1) := by decide +kernel
theorem dX7_read_176 : decode cX7_read 176 = .ok (.sipush 159, 3) := by decide +kernel
theorem dX7_read_179 : decode cX7_read 179 = .ok (.iconst 0, 1) := by decide +kernel
theorem dX7_read_180 : decode cX7_read 180 = .ok (.invokevirtual 202, 3) := by decide +kernel
theorem dX7_read_183 : decode cX7_read 183 = .ok (.bipush (-20), 2) := by decide +kernel
theorem dX7_read_185 : decode cX7_read 185 = .ok (.iload 6, 2) := by decide +kernel
theorem dX7_read_187 : decode cX7_read 187 = .ok (.isub, 1) := by decide +kernel
theorem dX7_read_188 : decode cX7_read 188 = .ok (.ireturn, 1) := by decide +kernel
theorem dX7_read_189 : decode cX7_read 189 = .ok (.iinc 6 1, 3) := by decide +kernel
theorem dX7_read_192 : decode cX7_read 192 = .ok (.iinc 7 1, 3) := by decide +kernel
theorem dX7_read_195 : decode cX7_read 195 = .ok (.goto (-139), 3) := by decide +kernel
theorem dX7_read_198 : decode cX7_read 198 = .ok (.aload_n 0, 1) := by decide +kernel
theorem dX7_read_199 : decode cX7_read 199 = .ok (.iload 5, 2) := by decide +kernel
theorem dX7_read_201 : decode cX7_read 201 = .ok (.putfield 231, 3) := by decide +kernel
theorem dX7_read_204 : decode cX7_read 204 = .ok (.iload 6, 2) := by decide +kernel
theorem dX7_read_206 : decode cX7_read 206 = .ok (.ireturn, 1) := by decide +kernel
theorem dX7_torn_0 : decode cX7_torn 0 = .ok (.aload_n 0, 1) := by decide +kernel
theorem dX7_torn_1 : decode cX7_torn 1 = .ok (.getfield 231, 3) := by decide +kernel
theorem dX7_torn_4 : decode cX7_torn 4 = .ok (.ireturn, 1) := by decide +kernel
theorem dX7_count_0 : decode cX7_count 0 = .ok (.iconst 0, 1) := by decide +kernel
theorem dX7_count_1 : decode cX7_count 1 = .ok (.istore_n 2, 1) := by decide +kernel
theorem dX7_count_2 : decode cX7_count 2 = .ok (.iconst 0, 1) := by decide +kernel
theorem dX7_count_3 : decode cX7_count 3 = .ok (.istore_n 3, 1) := by decide +kernel
theorem dX7_count_4 : decode cX7_count 4 = .ok (.iconst 0, 1) := by decide +kernel
theorem dX7_count_5 : decode cX7_count 5 = .ok (.istore 4, 2) := by decide +kernel
theorem dX7_count_7 : decode cX7_count 7 = .ok (.iload 4, 2) := by decide +kernel
theorem dX7_count_9 : decode cX7_count 9 = .ok (.aload_n 0, 1) := by decide +kernel
theorem dX7_count_10 : decode cX7_count 10 = .ok (.getfield 7, 3) := by decide +kernel
theorem dX7_count_13 : decode cX7_count 13 = .ok (.bipush 51, 2) := by decide +kernel
theorem dX7_count_15 : decode cX7_count 15 = .ok (.iaload, 1) := by decide +kernel
theorem dX7_count_16 : decode cX7_count 16 = .ok (.if_icmp .ge 22, 3) := by decide +kernel
theorem dX7_count_19 : decode cX7_count 19 = .ok (.iload_n 2, 1) := by decide +kernel
theorem dX7_count_20 : decode cX7_count 20 = .ok (.aload_n 0, 1) := by decide +kernel
theorem dX7_count_21 : decode cX7_count 21 = .ok (.getfield 7, 3) := by decide +kernel
theorem dX7_count_24 : decode cX7_count 24 = .ok (.bipush 43, 2) := by decide +kernel
theorem dX7_count_26 : decode cX7_count 26 = .ok (.iload 4, 2) := by decide +kernel
theorem dX7_count_28 : decode cX7_count 28 = .ok (.iadd, 1) := by decide +kernel
theorem dX7_count_29 : decode cX7_count 29 = .ok (.iaload, 1) := by decide +kernel
theorem dX7_count_30 : decode cX7_count 30 = .ok (.iadd, 1) := by decide +kernel
theorem dX7_count_31 : decode cX7_count 31 = .ok (.istore_n 2, 1) := by decide +kernel
theorem dX7_count_32 : decode cX7_count 32 = .ok (.iinc 4 1, 3) := by decide +kernel
theorem dX7_count_35 : decode cX7_count 35 = .ok (.goto (-28), 3) := by decide +kernel
theorem dX7_count_38 : decode cX7_count 38 = .ok (.iconst 0, 1) := by decide +kernel
theorem dX7_count_39 : decode cX7_count 39 = .ok (.istore 4, 2) := by decide +kernel
theorem dX7_count_41 : decode cX7_count 41 = .ok (.iload 4, 2) := by decide +kernel
theorem dX7_count_43 : decode cX7_count 43 = .ok (.aload_n 0, 1) := by decide +kernel
theorem dX7_count_44 : decode cX7_count 44 = .ok (.getfield 7, 3) := by decide +kernel
theorem dX7_count_47 : decode cX7_count 47 = .ok (.bipush 37, 2) := by decide +kernel
theorem dX7_count_49 : decode cX7_count 49 = .ok (.iaload, 1) := by decide +kernel
theorem dX7_count_50 : decode cX7_count 50 = .ok (.if_icmp .ge 22, 3) := by decide +kernel
theorem dX7_count_53 : decode cX7_count 53 = .ok (.iload_n 3, 1) := by decide +kernel
theorem dX7_count_54 : decode cX7_count 54 = .ok (.aload_n 0, 1) := by decide +kernel
theorem dX7_count_55 : decode cX7_count 55 = .ok (.getfield 7, 3) := by decide +kernel
theorem dX7_count_58 : decode cX7_count 58 = .ok (.bipush 33, 2) := by decide +kernel
theorem dX7_count_60 : decode cX7_count 60 = .ok (.iload 4, 2) := by decide +kernel
theorem dX7_count_62 : decode cX7_count 62 = .ok (.iadd, 1) := by decide +kernel
theorem dX7_count_63 : decode cX7_count 63 = .ok (.iaload, 1) := by decide +kernel
theorem dX7_count_64 : decode cX7_count 64 = .ok (.iadd, 1) := by decide +kernel
theorem dX7_count_65 : decode cX7_count 65 = .ok (.istore_n 3, 1) := by decide +kernel
theorem dX7_count_66 : decode cX7_count 66 = .ok (.iinc 4 1, 3) := by decide +kernel
theorem dX7_count_69 : decode cX7_count 69 = .ok (.goto (-28), 3) := by decide +kernel
theorem dX7_count_72 : decode cX7_count 72 = .ok (.iload_n 1, 1) := by decide +kernel
theorem dX7_count_73 : decode cX7_count 73 = .ok (.tableswitch 106 0 5 #[39, 44, 74, 79, 102, 104], 39) := by decide +kernel
theorem dX7_count_112 : decode cX7_count 112 = .ok (.aload_n 0, 1) := by decide +kernel
theorem dX7_count_113 : decode cX7_count 113 = .ok (.getfield 128, 3) := by decide +kernel
theorem dX7_count_116 : decode cX7_count 116 = .ok (.ireturn, 1) := by decide +kernel
theorem dX7_count_117 : decode cX7_count 117 = .ok (.aload_n 0, 1) := by decide +kernel
theorem dX7_count_118 : decode cX7_count 118 = .ok (.getfield 38, 3) := by decide +kernel
theorem dX7_count_121 : decode cX7_count 121 = .ok (.iconst 0, 1) := by decide +kernel
theorem dX7_count_122 : decode cX7_count 122 = .ok (.baload, 1) := by decide +kernel
theorem dX7_count_123 : decode cX7_count 123 = .ok (.ifCond .eq 7, 3) := by decide +kernel
theorem dX7_count_126 : decode cX7_count 126 = .ok (.iconst 1, 1) := by decide +kernel
theorem dX7_count_127 : decode cX7_count 127 = .ok (.goto 4, 3) := by decide +kernel
theorem dX7_count_130 : decode cX7_count 130 = .ok (.iconst 0, 1) := by decide +kernel
theorem dX7_count_131 : decode cX7_count 131 = .ok (.aload_n 0, 1) := by decide +kernel
theorem dX7_count_132 : decode cX7_count 132 = .ok (.getfield 38, 3) := by decide +kernel
theorem dX7_count_135 : decode cX7_count 135 = .ok (.iconst 1, 1) := by decide +kernel
theorem dX7_count_136 : decode cX7_count 136 = .ok (.baload, 1) := by decide +kernel
theorem dX7_count_137 : decode cX7_count 137 = .ok (.ifCond .eq 7, 3) := by decide +kernel
theorem dX7_count_140 : decode cX7_count 140 = .ok (.iconst 1, 1) := by decide +kernel
theorem dX7_count_141 : decode cX7_count 141 = .ok (.goto 4, 3) := by decide +kernel
theorem dX7_count_144 : decode cX7_count 144 = .ok (.iconst 0, 1) := by decide +kernel
theorem dX7_count_145 : decode cX7_count 145 = .ok (.iadd, 1) := by decide +kernel
theorem dX7_count_146 : decode cX7_count 146 = .ok (.ireturn, 1) := by decide +kernel
theorem dX7_count_147 : decode cX7_count 147 = .ok (.aload_n 0, 1) := by decide +kernel
theorem dX7_count_148 : decode cX7_count 148 = .ok (.getfield 57, 3) := by decide +kernel
theorem dX7_count_151 : decode cX7_count 151 = .ok (.ireturn, 1) := by decide +kernel
theorem dX7_count_152 : decode cX7_count 152 = .ok (.aload_n 0, 1) := by decide +kernel
theorem dX7_count_153 : decode cX7_count 153 = .ok (.getfield 42, 3) := by decide +kernel
theorem dX7_count_156 : decode cX7_count 156 = .ok (.iconst 0, 1) := by decide +kernel
theorem dX7_count_157 : decode cX7_count 157 = .ok (.iaload, 1) := by decide +kernel
theorem dX7_count_158 : decode cX7_count 158 = .ok (.bipush (-4), 2) := by decide +kernel
theorem dX7_count_160 : decode cX7_count 160 = .ok (.if_icmp .ne 8, 3) := by decide +kernel
theorem dX7_count_163 : decode cX7_count 163 = .ok (.bipush (-4), 2) := by decide +kernel
theorem dX7_count_165 : decode cX7_count 165 = .ok (.goto 9, 3) := by decide +kernel
theorem dX7_count_168 : decode cX7_count 168 = .ok (.aload_n 0, 1) := by decide +kernel
theorem dX7_count_169 : decode cX7_count 169 = .ok (.getfield 45, 3) := by decide +kernel
theorem dX7_count_172 : decode cX7_count 172 = .ok (.iconst 0, 1) := by decide +kernel
theorem dX7_count_173 : decode cX7_count 173 = .ok (.iaload, 1) := by decide +kernel
theorem dX7_count_174 : decode cX7_count 174 = .ok (.ireturn, 1) := by decide +kernel
theorem dX7_count_175 : decode cX7_count 175 = .ok (.iload_n 2, 1) := by decide +kernel
theorem dX7_count_176 : decode cX7_count 176 = .ok (.ireturn, 1) := by decide +kernel
theorem dX7_count_177 : decode cX7_count 177 = .ok (.iload_n 3, 1) := by decide +kernel
theorem dX7_count_178 : decode cX7_count 178 = .ok (.ireturn, 1) := by decide +kernel
theorem dX7_count_179 : decode cX7_count 179 = .ok (.iconst (-1), 1) := by decide +kernel
theorem dX7_count_180 : decode cX7_count 180 = .ok (.ireturn, 1) := by decide +kernel
theorem dJ6_numberOfTrailingZeros_0f7a4_0 : decode cJ6_numberOfTrailingZeros_0f7a4 0 = .ok (.iload_n 0, 1) := by decide +kernel
theorem dJ6_numberOfTrailingZeros_0f7a4_1 : decode cJ6_numberOfTrailingZeros_0f7a4 1 = .ok (.iconst (-1), 1) := by decide +kernel
theorem dJ6_numberOfTrailingZeros_0f7a4_2 : decode cJ6_numberOfTrailingZeros_0f7a4 2 = .ok (.ixor, 1) := by decide +kernel
theorem dJ6_numberOfTrailingZeros_0f7a4_3 : decode cJ6_numberOfTrailingZeros_0f7a4 3 = .ok (.iload_n 0, 1) := by decide +kernel
theorem dJ6_numberOfTrailingZeros_0f7a4_4 : decode cJ6_numberOfTrailingZeros_0f7a4 4 = .ok (.iconst 1, 1) := by decide +kernel
theorem dJ6_numberOfTrailingZeros_0f7a4_5 : decode cJ6_numberOfTrailingZeros_0f7a4 5 = .ok (.isub, 1) := by decide +kernel
theorem dJ6_numberOfTrailingZeros_0f7a4_6 : decode cJ6_numberOfTrailingZeros_0f7a4 6 = .ok (.iand, 1) := by decide +kernel
theorem dJ6_numberOfTrailingZeros_0f7a4_7 : decode cJ6_numberOfTrailingZeros_0f7a4 7 = .ok (.istore_n 0, 1) := by decide +kernel
theorem dJ6_numberOfTrailingZeros_0f7a4_8 : decode cJ6_numberOfTrailingZeros_0f7a4 8 = .ok (.iload_n 0, 1) := by decide +kernel
theorem dJ6_numberOfTrailingZeros_0f7a4_9 : decode cJ6_numberOfTrailingZeros_0f7a4 9 = .ok (.ifCond .gt 8, 3) := by decide +kernel
theorem dJ6_numberOfTrailingZeros_0f7a4_12 : decode cJ6_numberOfTrailingZeros_0f7a4 12 = .ok (.iload_n 0, 1) := by decide +kernel
theorem dJ6_numberOfTrailingZeros_0f7a4_13 : decode cJ6_numberOfTrailingZeros_0f7a4 13 = .ok (.bipush 32, 2) := by decide +kernel
theorem dJ6_numberOfTrailingZeros_0f7a4_15 : decode cJ6_numberOfTrailingZeros_0f7a4 15 = .ok (.iand, 1) := by decide +kernel
theorem dJ6_numberOfTrailingZeros_0f7a4_16 : decode cJ6_numberOfTrailingZeros_0f7a4 16 = .ok (.ireturn, 1) := by decide +kernel
theorem dJ6_numberOfTrailingZeros_0f7a4_17 : decode cJ6_numberOfTrailingZeros_0f7a4 17 = .ok (.iconst 1, 1) := by decide +kernel
theorem dJ6_numberOfTrailingZeros_0f7a4_18 : decode cJ6_numberOfTrailingZeros_0f7a4 18 = .ok (.istore_n 1, 1) := by decide +kernel
theorem dJ6_numberOfTrailingZeros_0f7a4_19 : decode cJ6_numberOfTrailingZeros_0f7a4 19 = .ok (.iload_n 0, 1) := by decide +kernel
theorem dJ6_numberOfTrailingZeros_0f7a4_20 : decode cJ6_numberOfTrailingZeros_0f7a4 20 = .ok (.ldc_w 264, 3) := by decide +kernel
theorem dJ6_numberOfTrailingZeros_0f7a4_23 : decode cJ6_numberOfTrailingZeros_0f7a4 23 = .ok (.if_icmp .le 11, 3) := by decide +kernel
theorem dJ6_numberOfTrailingZeros_0f7a4_26 : decode cJ6_numberOfTrailingZeros_0f7a4 26 = .ok (.iinc 1 16, 3) := by decide +kernel
theorem dJ6_numberOfTrailingZeros_0f7a4_29 : decode cJ6_numberOfTrailingZeros_0f7a4 29 = .ok (.iload_n 0, 1) := by decide +kernel
theorem dJ6_numberOfTrailingZeros_0f7a4_30 : decode cJ6_numberOfTrailingZeros_0f7a4 30 = .ok (.bipush 16, 2) := by decide +kernel
theorem dJ6_numberOfTrailingZeros_0f7a4_32 : decode cJ6_numberOfTrailingZeros_0f7a4 32 = .ok (.iushr, 1) := by decide +kernel
theorem dJ6_numberOfTrailingZeros_0f7a4_33 : decode cJ6_numberOfTrailingZeros_0f7a4 33 = .ok (.istore_n 0, 1) := by decide +kernel
theorem dJ6_numberOfTrailingZeros_0f7a4_34 : decode cJ6_numberOfTrailingZeros_0f7a4 34 = .ok (.iload_n 0, 1) := by decide +kernel
theorem dJ6_numberOfTrailingZeros_0f7a4_35 : decode cJ6_numberOfTrailingZeros_0f7a4 35 = .ok (.sipush 256, 3) := by decide +kernel
theorem dJ6_numberOfTrailingZeros_0f7a4_38 : decode cJ6_numberOfTrailingZeros_0f7a4 38 = .ok (.if_icmp .le 11, 3) := by decide +kernel
theorem dJ6_numberOfTrailingZeros_0f7a4_41 : decode cJ6_numberOfTrailingZeros_0f7a4 41 = .ok (.iinc 1 8, 3) := by decide +kernel
theorem dJ6_numberOfTrailingZeros_0f7a4_44 : decode cJ6_numberOfTrailingZeros_0f7a4 44 = .ok (.iload_n 0, 1) := by decide +kernel
theorem dJ6_numberOfTrailingZeros_0f7a4_45 : decode cJ6_numberOfTrailingZeros_0f7a4 45 = .ok (.bipush 8, 2) := by decide +kernel
theorem dJ6_numberOfTrailingZeros_0f7a4_47 : decode cJ6_numberOfTrailingZeros_0f7a4 47 = .ok (.iushr, 1) := by decide +kernel
theorem dJ6_numberOfTrailingZeros_0f7a4_48 : decode cJ6_numberOfTrailingZeros_0f7a4 48 = .ok (.istore_n 0, 1) := by decide +kernel
theorem dJ6_numberOfTrailingZeros_0f7a4_49 : decode cJ6_numberOfTrailingZeros_0f7a4 49 = .ok (.iload_n 0, 1) := by decide +kernel
theorem dJ6_numberOfTrailingZeros_0f7a4_50 : decode cJ6_numberOfTrailingZeros_0f7a4 50 = .ok (.bipush 16, 2) := by decide +kernel
theorem dJ6_numberOfTrailingZeros_0f7a4_52 : decode cJ6_numberOfTrailingZeros_0f7a4 52 = .ok (.if_icmp .le 10, 3) := by decide +kernel
theorem dJ6_numberOfTrailingZeros_0f7a4_55 : decode cJ6_numberOfTrailingZeros_0f7a4 55 = .ok (.iinc 1 4, 3) := by decide +kernel
theorem dJ6_numberOfTrailingZeros_0f7a4_58 : decode cJ6_numberOfTrailingZeros_0f7a4 58 = .ok (.iload_n 0, 1) := by decide +kernel
theorem dJ6_numberOfTrailingZeros_0f7a4_59 : decode cJ6_numberOfTrailingZeros_0f7a4 59 = .ok (.iconst 4, 1) := by decide +kernel
theorem dJ6_numberOfTrailingZeros_0f7a4_60 : decode cJ6_numberOfTrailingZeros_0f7a4 60 = .ok (.iushr, 1) := by decide +kernel
theorem dJ6_numberOfTrailingZeros_0f7a4_61 : decode cJ6_numberOfTrailingZeros_0f7a4 61 = .ok (.istore_n 0, 1) := by decide +kernel
theorem dJ6_numberOfTrailingZeros_0f7a4_62 : decode cJ6_numberOfTrailingZeros_0f7a4 62 = .ok (.iload_n 0, 1) := by decide +kernel
theorem dJ6_numberOfTrailingZeros_0f7a4_63 : decode cJ6_numberOfTrailingZeros_0f7a4 63 = .ok (.iconst 4, 1) := by decide +kernel
theorem dJ6_numberOfTrailingZeros_0f7a4_64 : decode cJ6_numberOfTrailingZeros_0f7a4 64 = .ok (.if_icmp .le 10, 3) := by decide +kernel
theorem dJ6_numberOfTrailingZeros_0f7a4_67 : decode cJ6_numberOfTrailingZeros_0f7a4 67 = .ok (.iinc 1 2, 3) := by decide +kernel
theorem dJ6_numberOfTrailingZeros_0f7a4_70 : decode cJ6_numberOfTrailingZeros_0f7a4 70 = .ok (.iload_n 0, 1) := by decide +kernel
theorem dJ6_numberOfTrailingZeros_0f7a4_71 : decode cJ6_numberOfTrailingZeros_0f7a4 71 = .ok (.iconst 2, 1) := by decide +kernel
theorem dJ6_numberOfTrailingZeros_0f7a4_72 : decode cJ6_numberOfTrailingZeros_0f7a4 72 = .ok (.iushr, 1) := by decide +kernel
theorem dJ6_numberOfTrailingZeros_0f7a4_73 : decode cJ6_numberOfTrailingZeros_0f7a4 73 = .ok (.istore_n 0, 1) := by decide +kernel
theorem dJ6_numberOfTrailingZeros_0f7a4_74 : decode cJ6_numberOfTrailingZeros_0f7a4 74 = .ok (.iload_n 1, 1) := by decide +kernel
theorem dJ6_numberOfTrailingZeros_0f7a4_75 : decode cJ6_numberOfTrailingZeros_0f7a4 75 = .ok (.iload_n 0, 1) := by decide +kernel
theorem dJ6_numberOfTrailingZeros_0f7a4_76 : decode cJ6_numberOfTrailingZeros_0f7a4 76 = .ok (.iconst 1, 1) := by decide +kernel
theorem dJ6_numberOfTrailingZeros_0f7a4_77 : decode cJ6_numberOfTrailingZeros_0f7a4 77 = .ok (.iushr, 1) := by decide +kernel
theorem dJ6_numberOfTrailingZeros_0f7a4_78 : decode cJ6_numberOfTrailingZeros_0f7a4 78 = .ok (.iadd, 1) := by decide +kernel
theorem dJ6_numberOfTrailingZeros_0f7a4_79 : decode cJ6_numberOfTrailingZeros_0f7a4 79 = .ok (.ireturn, 1) := by decide +kernel
theorem dJ6_bitCount_0f7a4_0 : decode cJ6_bitCount_0f7a4 0 = .ok (.iload_n 0, 1) := by decide +kernel
theorem dJ6_bitCount_0f7a4_1 : decode cJ6_bitCount_0f7a4 1 = .ok (.iload_n 0, 1) := by decide +kernel
theorem dJ6_bitCount_0f7a4_2 : decode cJ6_bitCount_0f7a4 2 = .ok (.iconst 1, 1) := by decide +kernel
theorem dJ6_bitCount_0f7a4_3 : decode cJ6_bitCount_0f7a4 3 = .ok (.iushr, 1) := by decide +kernel
theorem dJ6_bitCount_0f7a4_4 : decode cJ6_bitCount_0f7a4 4 = .ok (.ldc_w 265, 3) := by decide +kernel
theorem dJ6_bitCount_0f7a4_7 : decode cJ6_bitCount_0f7a4 7 = .ok (.iand, 1) := by decide +kernel
theorem dJ6_bitCount_0f7a4_8 : decode cJ6_bitCount_0f7a4 8 = .ok (.isub, 1) := by decide +kernel
theorem dJ6_bitCount_0f7a4_9 : decode cJ6_bitCount_0f7a4 9 = .ok (.istore_n 0, 1) := by decide +kernel
theorem dJ6_bitCount_0f7a4_10 : decode cJ6_bitCount_0f7a4 10 = .ok (.iload_n 0, 1) := by decide +kernel
theorem dJ6_bitCount_0f7a4_11 : decode cJ6_bitCount_0f7a4 11 = .ok (.ldc_w 266, 3) := by decide +kernel
theorem dJ6_bitCount_0f7a4_14 : decode cJ6_bitCount_0f7a4 14 = .ok (.iand, 1) := by decide +kernel
theorem dJ6_bitCount_0f7a4_15 : decode cJ6_bitCount_0f7a4 15 = .ok (.iload_n 0, 1) := by decide +kernel
theorem dJ6_bitCount_0f7a4_16 : decode cJ6_bitCount_0f7a4 16 = .ok (.iconst 2, 1) := by decide +kernel
theorem dJ6_bitCount_0f7a4_17 : decode cJ6_bitCount_0f7a4 17 = .ok (.iushr, 1) := by decide +kernel
theorem dJ6_bitCount_0f7a4_18 : decode cJ6_bitCount_0f7a4 18 = .ok (.ldc_w 266, 3) := by decide +kernel
theorem dJ6_bitCount_0f7a4_21 : decode cJ6_bitCount_0f7a4 21 = .ok (.iand, 1) := by decide +kernel
theorem dJ6_bitCount_0f7a4_22 : decode cJ6_bitCount_0f7a4 22 = .ok (.iadd, 1) := by decide +kernel
theorem dJ6_bitCount_0f7a4_23 : decode cJ6_bitCount_0f7a4 23 = .ok (.istore_n 0, 1) := by decide +kernel
theorem dJ6_bitCount_0f7a4_24 : decode cJ6_bitCount_0f7a4 24 = .ok (.iload_n 0, 1) := by decide +kernel
theorem dJ6_bitCount_0f7a4_25 : decode cJ6_bitCount_0f7a4 25 = .ok (.iload_n 0, 1) := by decide +kernel
theorem dJ6_bitCount_0f7a4_26 : decode cJ6_bitCount_0f7a4 26 = .ok (.iconst 4, 1) := by decide +kernel
theorem dJ6_bitCount_0f7a4_27 : decode cJ6_bitCount_0f7a4 27 = .ok (.iushr, 1) := by decide +kernel
theorem dJ6_bitCount_0f7a4_28 : decode cJ6_bitCount_0f7a4 28 = .ok (.iadd, 1) := by decide +kernel
theorem dJ6_bitCount_0f7a4_29 : decode cJ6_bitCount_0f7a4 29 = .ok (.ldc_w 267, 3) := by decide +kernel
theorem dJ6_bitCount_0f7a4_32 : decode cJ6_bitCount_0f7a4 32 = .ok (.iand, 1) := by decide +kernel
theorem dJ6_bitCount_0f7a4_33 : decode cJ6_bitCount_0f7a4 33 = .ok (.istore_n 0, 1) := by decide +kernel
theorem dJ6_bitCount_0f7a4_34 : decode cJ6_bitCount_0f7a4 34 = .ok (.iload_n 0, 1) := by decide +kernel
theorem dJ6_bitCount_0f7a4_35 : decode cJ6_bitCount_0f7a4 35 = .ok (.iload_n 0, 1) := by decide +kernel
theorem dJ6_bitCount_0f7a4_36 : decode cJ6_bitCount_0f7a4 36 = .ok (.bipush 8, 2) := by decide +kernel
theorem dJ6_bitCount_0f7a4_38 : decode cJ6_bitCount_0f7a4 38 = .ok (.iushr, 1) := by decide +kernel
theorem dJ6_bitCount_0f7a4_39 : decode cJ6_bitCount_0f7a4 39 = .ok (.iadd, 1) := by decide +kernel
theorem dJ6_bitCount_0f7a4_40 : decode cJ6_bitCount_0f7a4 40 = .ok (.istore_n 0, 1) := by decide +kernel
theorem dJ6_bitCount_0f7a4_41 : decode cJ6_bitCount_0f7a4 41 = .ok (.iload_n 0, 1) := by decide +kernel
theorem dJ6_bitCount_0f7a4_42 : decode cJ6_bitCount_0f7a4 42 = .ok (.iload_n 0, 1) := by decide +kernel
theorem dJ6_bitCount_0f7a4_43 : decode cJ6_bitCount_0f7a4 43 = .ok (.bipush 16, 2) := by decide +kernel
theorem dJ6_bitCount_0f7a4_45 : decode cJ6_bitCount_0f7a4 45 = .ok (.iushr, 1) := by decide +kernel
theorem dJ6_bitCount_0f7a4_46 : decode cJ6_bitCount_0f7a4 46 = .ok (.iadd, 1) := by decide +kernel
theorem dJ6_bitCount_0f7a4_47 : decode cJ6_bitCount_0f7a4 47 = .ok (.istore_n 0, 1) := by decide +kernel
theorem dJ6_bitCount_0f7a4_48 : decode cJ6_bitCount_0f7a4 48 = .ok (.iload_n 0, 1) := by decide +kernel
theorem dJ6_bitCount_0f7a4_49 : decode cJ6_bitCount_0f7a4 49 = .ok (.bipush 63, 2) := by decide +kernel
theorem dJ6_bitCount_0f7a4_51 : decode cJ6_bitCount_0f7a4 51 = .ok (.iand, 1) := by decide +kernel
theorem dJ6_bitCount_0f7a4_52 : decode cJ6_bitCount_0f7a4 52 = .ok (.ireturn, 1) := by decide +kernel
theorem dJ9_max_7cf53_0 : decode cJ9_max_7cf53 0 = .ok (.iload_n 0, 1) := by decide +kernel
theorem dJ9_max_7cf53_1 : decode cJ9_max_7cf53 1 = .ok (.iload_n 1, 1) := by decide +kernel
theorem dJ9_max_7cf53_2 : decode cJ9_max_7cf53 2 = .ok (.if_icmp .lt 7, 3) := by decide +kernel
theorem dJ9_max_7cf53_5 : decode cJ9_max_7cf53 5 = .ok (.iload_n 0, 1) := by decide +kernel
theorem dJ9_max_7cf53_6 : decode cJ9_max_7cf53 6 = .ok (.goto 4, 3) := by decide +kernel
theorem dJ9_max_7cf53_9 : decode cJ9_max_7cf53 9 = .ok (.iload_n 1, 1) := by decide +kernel
theorem dJ9_max_7cf53_10 : decode cJ9_max_7cf53 10 = .ok (.ireturn, 1) := by decide +kernel
set_option maxRecDepth 20000 in
theorem ggJ0_length_8abf5_J0_coder_7d493 : GoodIn wsJ0_length_8abf5 wsJ0_coder_7d493 := goodIn_r _ [6, 7, 8] (by decide +kernel) (by decide +kernel)
set_option maxRecDepth 20000 in
theorem gJ0_length_8abf5_J0_coder_7d493 : GoodIn wsJ0_length_8abf5 (wsV RJ0 335 RJ0 yJ0_coder_7d493 wsJ0_coder_7d493) := goodIn_app (goodIn_of _ (by decide +kernel)) ggJ0_length_8abf5_J0_coder_7d493
theorem dJ0_length_8abf5_0 : decode cJ0_length_8abf5 0 = .ok (.aload_n 0, 1) := by decide +kernel
theorem dJ0_length_8abf5_1 : decode cJ0_length_8abf5 1 = .ok (.getfield 9, 3) := by decide +kernel
theorem dJ0_length_8abf5_4 : decode cJ0_length_8abf5 4 = .ok (.arraylength, 1) := by decide +kernel
theorem dJ0_length_8abf5_5 : decode cJ0_length_8abf5 5 = .ok (.aload_n 0, 1) := by decide +kernel
theorem dJ0_length_8abf5_6 : decode cJ0_length_8abf5 6 = .ok (.invokevirtual 335, 3) := by decide +kernel
theorem dJ0_length_8abf5_9 : decode cJ0_length_8abf5 9 = .ok (.ishr, 1) := by decide +kernel
theorem dJ0_length_8abf5_10 : decode cJ0_length_8abf5 10 = .ok (.ireturn, 1) := by decide +kernel
set_option maxRecDepth 20000 in
theorem ggJ0_charAt_5068e_J0_isLatin1_aae02 : GoodIn wsJ0_charAt_5068e wsJ0_isLatin1_aae02 := goodIn_r _ [6, 7, 8] (by decide +kernel) (by decide +kernel)
set_option maxRecDepth 20000 in
theorem gJ0_charAt_5068e_J0_isLatin1_aae02 : GoodIn wsJ0_charAt_5068e (wsV RJ0 492 RJ0 yJ0_isLatin1_aae02 wsJ0_isLatin1_aae02) := goodIn_app (goodIn_of _ (by decide +kernel)) ggJ0_charAt_5068e_J0_isLatin1_aae02
set_option maxRecDepth 20000 in
theorem ggJ0_charAt_5068e_J1_charAt_3b067 : GoodIn wsJ0_charAt_5068e wsJ1_charAt_3b067 := goodIn_r _ [12, 13, 14, 5, 15, 16, 17, 18, 19, 20] (by decide +kernel) (by decide +kernel)
set_option maxRecDepth 20000 in
theorem gJ0_charAt_5068e_J1_charAt_3b067 : GoodIn wsJ0_charAt_5068e (va_wsS RJ0 495 yJ1_charAt_3b067 wsJ1_charAt_3b067) := goodIn_app (goodIn_of _ (by decide +kernel)) ggJ0_charAt_5068e_J1_charAt_3b067
set_option maxRecDepth 20000 in
theorem ggJ0_charAt_5068e_J2_charAt_3b067 : GoodIn wsJ0_charAt_5068e wsJ2_charAt_3b067 := goodIn_r _ [24, 25, 26, 23, 27, 28, 29, 30, 31, 14, 5, 15, 16, 17, 18, 19, 20, 32, 33, 34, 35, 36, 37] (by decide +kernel) (by decide +kernel)
set_option maxRecDepth 20000 in
theorem gJ0_charAt_5068e_J2_charAt_3b067 : GoodIn wsJ0_charAt_5068e (va_wsS RJ0 498 yJ2_charAt_3b067 wsJ2_charAt_3b067) := goodIn_app (goodIn_of _ (by decide +kernel)) ggJ0_charAt_5068e_J2_charAt_3b067
theorem dJ0_charAt_5068e_0 : decode cJ0_charAt_5068e 0 = .ok (.aload_n 0, 1) := by decide +kernel
theorem dJ0_charAt_5068e_1 : decode cJ0_charAt_5068e 1 = .ok (.invokevirtual 492, 3) := by decide +kernel
theorem dJ0_charAt_5068e_4 : decode cJ0_charAt_5068e 4 = .ok (.ifCond .eq 12, 3) := by decide +kernel
theorem dJ0_charAt_5068e_7 : decode cJ0_charAt_5068e 7 = .ok (.aload_n 0, 1) := by decide +kernel
theorem dJ0_charAt_5068e_8 : decode cJ0_charAt_5068e 8 = .ok (.getfield 9, 3) := by decide +kernel
theorem dJ0_charAt_5068e_11 : decode cJ0_charAt_5068e 11 = .ok (.iload_n 1, 1) := by decide +kernel
theorem dJ0_charAt_5068e_12 : decode cJ0_charAt_5068e 12 = .ok (.invokestatic 495, 3) := by decide +kernel
theorem dJ0_charAt_5068e_15 : decode cJ0_charAt_5068e 15 = .ok (.ireturn, 1) := by decide +kernel
theorem dJ0_charAt_5068e_16 : decode cJ0_charAt_5068e 16 = .ok (.aload_n 0, 1) := by decide +kernel
theorem dJ0_charAt_5068e_17 : decode cJ0_charAt_5068e 17 = .ok (.getfield 9, 3) := by decide +kernel
theorem dJ0_charAt_5068e_20 : decode cJ0_charAt_5068e 20 = .ok (.iload_n 1, 1) := by decide +kernel
theorem dJ0_charAt_5068e_21 : decode cJ0_charAt_5068e 21 = .ok (.invokestatic 498, 3) := by decide +kernel
theorem dJ0_charAt_5068e_24 : decode cJ0_charAt_5068e 24 = .ok (.ireturn, 1) := by decide +kernel
theorem dJ0_coder_7d493_0 : decode cJ0_coder_7d493 0 = .ok (.getstatic 38, 3) := by decide +kernel
theorem dJ0_coder_7d493_3 : decode cJ0_coder_7d493 3 = .ok (.ifCond .eq 10, 3) := by decide +kernel
theorem dJ0_coder_7d493_6 : decode cJ0_coder_7d493 6 = .ok (.aload_n 0, 1) := by decide +kernel
theorem dJ0_coder_7d493_7 : decode cJ0_coder_7d493 7 = .ok (.getfield 15, 3) := by decide +kernel
theorem dJ0_coder_7d493_10 : decode cJ0_coder_7d493 10 = .ok (.goto 4, 3) := by decide +kernel
theorem dJ0_coder_7d493_13 : decode cJ0_coder_7d493 13 = .ok (.iconst 1, 1) := by decide +kernel
theorem dJ0_coder_7d493_14 : decode cJ0_coder_7d493 14 = .ok (.ireturn, 1) := by decide +kernel
theorem dJ0_isLatin1_aae02_0 : decode cJ0_isLatin1_aae02 0 = .ok (.getstatic 38, 3) := by decide +kernel
theorem dJ0_isLatin1_aae02_3 : decode cJ0_isLatin1_aae02 3 = .ok (.ifCond .eq 14, 3) := by decide +kernel
theorem dJ0_isLatin1_aae02_6 : decode cJ0_isLatin1_aae02 6 = .ok (.aload_n 0, 1) := by decide +kernel
theorem dJ0_isLatin1_aae02_7 : decode cJ0_isLatin1_aae02 7 = .ok (.getfield 15, 3) := by decide +kernel
theorem dJ0_isLatin1_aae02_10 : decode cJ0_isLatin1_aae02 10 = .ok (.ifCond .ne 7, 3) := by decide +kernel
theorem dJ0_isLatin1_aae02_13 : decode cJ0_isLatin1_aae02 13 = .ok (.iconst 1, 1) := by decide +kernel
theorem dJ0_isLatin1_aae02_14 : decode cJ0_isLatin1_aae02 14 = .ok (.goto 4, 3) := by decide +kernel
theorem dJ0_isLatin1_aae02_17 : decode cJ0_isLatin1_aae02 17 = .ok (.iconst 0, 1) := by decide +kernel
theorem dJ0_isLatin1_aae02_18 : decode cJ0_isLatin1_aae02 18 = .ok (.ireturn, 1) := by decide +kernel
set_option maxRecDepth 20000 in
theorem ggJ0_checkIndex_df160_J3_checkIndex_8e157 : GoodIn wsJ0_checkIndex_df160 wsJ3_checkIndex_8e157 := goodIn_r _ [5] (by decide +kernel) (by decide +kernel)
set_option maxRecDepth 20000 in
theorem gJ0_checkIndex_df160_J3_checkIndex_8e157 : GoodIn wsJ0_checkIndex_df160 (va_wsS RJ0 1059 yJ3_checkIndex_8e157 wsJ3_checkIndex_8e157) := goodIn_app (goodIn_of _ (by decide +kernel)) ggJ0_checkIndex_df160_J3_checkIndex_8e157
theorem dJ0_checkIndex_df160_0 : decode cJ0_checkIndex_df160 0 = .ok (.iload_n 0, 1) := by decide +kernel
theorem dJ0_checkIndex_df160_1 : decode cJ0_checkIndex_df160 1 = .ok (.iload_n 1, 1) := by decide +kernel
theorem dJ0_checkIndex_df160_2 : decode cJ0_checkIndex_df160 2 = .ok (.getstatic 1053, 3) := by decide +kernel
theorem dJ0_checkIndex_df160_5 : decode cJ0_checkIndex_df160 5 = .ok (.invokestatic 1059, 3) := by decide +kernel
theorem dJ0_checkIndex_df160_8 : decode cJ0_checkIndex_df160 8 = .ok (.pop, 1) := by decide +kernel
theorem dJ0_checkIndex_df160_9 : decode cJ0_checkIndex_df160 9 = .ok (.return_, 1) := by decide +kernel
set_option maxRecDepth 20000 in
theorem ggJ1_charAt_3b067_J0_checkIndex_df160 : GoodIn wsJ1_charAt_3b067 wsJ0_checkIndex_df160 := goodIn_r _ [4, 5, 6, 7, 8, 9] (by decide +kernel) (by decide +kernel)
set_option maxRecDepth 20000 in
theorem gJ1_charAt_3b067_J0_checkIndex_df160 : GoodIn wsJ1_charAt_3b067 (va_wsS RJ1 9 yJ0_checkIndex_df160 wsJ0_checkIndex_df160) := goodIn_app (goodIn_of _ (by decide +kernel)) ggJ1_charAt_3b067_J0_checkIndex_df160
theorem dJ1_charAt_3b067_0 : decode cJ1_charAt_3b067 0 = .ok (.iload_n 1, 1) := by decide +kernel
theorem dJ1_charAt_3b067_1 : decode cJ1_charAt_3b067 1 = .ok (.aload_n 0, 1) := by decide +kernel
theorem dJ1_charAt_3b067_2 : decode cJ1_charAt_3b067 2 = .ok (.arraylength, 1) := by decide +kernel
theorem dJ1_charAt_3b067_3 : decode cJ1_charAt_3b067 3 = .ok (.invokestatic 9, 3) := by decide +kernel
theorem dJ1_charAt_3b067_6 : decode cJ1_charAt_3b067 6 = .ok (.aload_n 0, 1) := by decide +kernel
theorem dJ1_charAt_3b067_7 : decode cJ1_charAt_3b067 7 = .ok (.iload_n 1, 1) := by decide +kernel
theorem dJ1_charAt_3b067_8 : decode cJ1_charAt_3b067 8 = .ok (.baload, 1) := by decide +kernel
theorem dJ1_charAt_3b067_9 : decode cJ1_charAt_3b067 9 = .ok (.sipush 255, 3) := by decide +kernel
theorem dJ1_charAt_3b067_12 : decode cJ1_charAt_3b067 12 = .ok (.iand, 1) := by decide +kernel
theorem dJ1_charAt_3b067_13 : decode cJ1_charAt_3b067 13 = .ok (.i2c, 1) := by decide +kernel
theorem dJ1_charAt_3b067_14 : decode cJ1_charAt_3b067 14 = .ok (.ireturn, 1) := by decide +kernel
set_option maxRecDepth 20000 in
theorem ggJ2_getChar_3b067_J2_length_9d52b : GoodIn wsJ2_getChar_3b067 wsJ2_length_9d52b := goodIn_r _ [7] (by decide +kernel) (by decide +kernel)
set_option maxRecDepth 20000 in
theorem gJ2_getChar_3b067_J2_length_9d52b : GoodIn wsJ2_getChar_3b067 (va_wsS RJ2 48 yJ2_length_9d52b wsJ2_length_9d52b) := goodIn_app (goodIn_of _ (by decide +kernel)) ggJ2_getChar_3b067_J2_length_9d52b
theorem dJ2_getChar_3b067_0 : decode cJ2_getChar_3b067 0 = .ok (.getstatic 44, 3) := by decide +kernel
theorem dJ2_getChar_3b067_3 : decode cJ2_getChar_3b067 3 = .ok (.ifCond .ne 25, 3) := by decide +kernel
theorem dJ2_getChar_3b067_6 : decode cJ2_getChar_3b067 6 = .ok (.iload_n 1, 1) := by decide +kernel
theorem dJ2_getChar_3b067_7 : decode cJ2_getChar_3b067 7 = .ok (.ifCond .lt 11, 3) := by decide +kernel
theorem dJ2_getChar_3b067_10 : decode cJ2_getChar_3b067 10 = .ok (.iload_n 1, 1) := by decide +kernel
theorem dJ2_getChar_3b067_11 : decode cJ2_getChar_3b067 11 = .ok (.aload_n 0, 1) := by decide +kernel
theorem dJ2_getChar_3b067_12 : decode cJ2_getChar_3b067 12 = .ok (.invokestatic 48, 3) := by decide +kernel
theorem dJ2_getChar_3b067_15 : decode cJ2_getChar_3b067 15 = .ok (.if_icmp .lt 13, 3) := by decide +kernel
theorem dJ2_getChar_3b067_18 : decode cJ2_getChar_3b067 18 = .ok (.new 52, 3) := by decide +kernel
theorem dJ2_getChar_3b067_21 : decode cJ2_getChar_3b067 21 = .ok (.dup, 1) := by decide +kernel
theorem dJ2_getChar_3b067_22 : decode cJ2_getChar_3b067 22 = .ok (.ldc 54, 2) := by decide +kernel
theorem dJ2_getChar_3b067_24 : decode cJ2_getChar_3b067 24 = .ok (.invokespecial 56, 3) := by decide +kernel
theorem dJ2_getChar_3b067_27 : decode cJ2_getChar_3b067 27 = .ok (.athrow, 1) := by decide +kernel
theorem dJ2_getChar_3b067_28 : decode cJ2_getChar_3b067 28 = .ok (.iload_n 1, 1) := by decide +kernel
theorem dJ2_getChar_3b067_29 : decode cJ2_getChar_3b067 29 = .ok (.iconst 1, 1) := by decide +kernel
theorem dJ2_getChar_3b067_30 : decode cJ2_getChar_3b067 30 = .ok (.ishl, 1) := by decide +kernel
theorem dJ2_getChar_3b067_31 : decode cJ2_getChar_3b067 31 = .ok (.istore_n 1, 1) := by decide +kernel
theorem dJ2_getChar_3b067_32 : decode cJ2_getChar_3b067 32 = .ok (.aload_n 0, 1) := by decide +kernel
theorem dJ2_getChar_3b067_33 : decode cJ2_getChar_3b067 33 = .ok (.iload_n 1, 1) := by decide +kernel
theorem dJ2_getChar_3b067_34 : decode cJ2_getChar_3b067 34 = .ok (.iinc 1 1, 3) := by decide +kernel
theorem dJ2_getChar_3b067_37 : decode cJ2_getChar_3b067 37 = .ok (.baload, 1) := by decide +kernel
theorem dJ2_getChar_3b067_38 : decode cJ2_getChar_3b067 38 = .ok (.sipush 255, 3) := by decide +kernel
theorem dJ2_getChar_3b067_41 : decode cJ2_getChar_3b067 41 = .ok (.iand, 1) := by decide +kernel
theorem dJ2_getChar_3b067_42 : decode cJ2_getChar_3b067 42 = .ok (.getstatic 59, 3) := by decide +kernel
theorem dJ2_getChar_3b067_45 : decode cJ2_getChar_3b067 45 = .ok (.ishl, 1) := by decide +kernel
theorem dJ2_getChar_3b067_46 : decode cJ2_getChar_3b067 46 = .ok (.aload_n 0, 1) := by decide +kernel
theorem dJ2_getChar_3b067_47 : decode cJ2_getChar_3b067 47 = .ok (.iload_n 1, 1) := by decide +kernel
theorem dJ2_getChar_3b067_48 : decode cJ2_getChar_3b067 48 = .ok (.baload, 1) := by decide +kernel
theorem dJ2_getChar_3b067_49 : decode cJ2_getChar_3b067 49 = .ok (.sipush 255, 3) := by decide +kernel
theorem dJ2_getChar_3b067_52 : decode cJ2_getChar_3b067 52 = .ok (.iand, 1) := by decide +kernel
theorem dJ2_getChar_3b067_53 : decode cJ2_getChar_3b067 53 = .ok (.getstatic 63, 3) := by decide +kernel
theorem dJ2_getChar_3b067_56 : decode cJ2_getChar_3b067 56 = .ok (.ishl, 1) := by decide +kernel
theorem dJ2_getChar_3b067_57 : decode cJ2_getChar_3b067 57 = .ok (.ior, 1) := by decide +kernel
theorem dJ2_getChar_3b067_58 : decode cJ2_getChar_3b067 58 = .ok (.i2c, 1) := by decide +kernel
theorem dJ2_getChar_3b067_59 : decode cJ2_getChar_3b067 59 = .ok (.ireturn, 1) := by decide +kernel
theorem dJ2_length_9d52b_0 : decode cJ2_length_9d52b 0 = .ok (.aload_n 0, 1) := by decide +kernel
theorem dJ2_length_9d52b_1 : decode cJ2_length_9d52b 1 = .ok (.arraylength, 1) := by decide +kernel
theorem dJ2_length_9d52b_2 : decode cJ2_length_9d52b 2 = .ok (.iconst 1, 1) := by decide +kernel
theorem dJ2_length_9d52b_3 : decode cJ2_length_9d52b 3 = .ok (.ishr, 1) := by decide +kernel
theorem dJ2_length_9d52b_4 : decode cJ2_length_9d52b 4 = .ok (.ireturn, 1) := by decide +kernel
set_option maxRecDepth 20000 in
theorem ggJ2_charAt_3b067_J2_checkIndex_2214a : GoodIn wsJ2_charAt_3b067 wsJ2_checkIndex_2214a := goodIn_r _ [4, 5, 6, 3, 7, 8, 9, 10, 11, 12, 13, 14, 15, 16] (by decide +kernel) (by decide +kernel)
set_option maxRecDepth 20000 in
theorem gJ2_charAt_3b067_J2_checkIndex_2214a : GoodIn wsJ2_charAt_3b067 (va_wsS RJ2 67 yJ2_checkIndex_2214a wsJ2_checkIndex_2214a) := goodIn_app (goodIn_of _ (by decide +kernel)) ggJ2_charAt_3b067_J2_checkIndex_2214a
set_option maxRecDepth 20000 in
theorem ggJ2_charAt_3b067_J2_getChar_3b067 : GoodIn wsJ2_charAt_3b067 wsJ2_getChar_3b067 := goodIn_r _ [19, 20, 21, 22, 5, 6, 3, 7] (by decide +kernel) (by decide +kernel)
set_option maxRecDepth 20000 in
theorem gJ2_charAt_3b067_J2_getChar_3b067 : GoodIn wsJ2_charAt_3b067 (va_wsS RJ2 71 yJ2_getChar_3b067 wsJ2_getChar_3b067) := goodIn_app (goodIn_of _ (by decide +kernel)) ggJ2_charAt_3b067_J2_getChar_3b067
theorem dJ2_charAt_3b067_0 : decode cJ2_charAt_3b067 0 = .ok (.iload_n 1, 1) := by decide +kernel
theorem dJ2_charAt_3b067_1 : decode cJ2_charAt_3b067 1 = .ok (.aload_n 0, 1) := by decide +kernel
theorem dJ2_charAt_3b067_2 : decode cJ2_charAt_3b067 2 = .ok (.invokestatic 67, 3) := by decide +kernel
theorem dJ2_charAt_3b067_5 : decode cJ2_charAt_3b067 5 = .ok (.aload_n 0, 1) := by decide +kernel
theorem dJ2_charAt_3b067_6 : decode cJ2_charAt_3b067 6 = .ok (.iload_n 1, 1) := by decide +kernel
theorem dJ2_charAt_3b067_7 : decode cJ2_charAt_3b067 7 = .ok (.invokestatic 71, 3) := by decide +kernel
theorem dJ2_charAt_3b067_10 : decode cJ2_charAt_3b067 10 = .ok (.ireturn, 1) := by decide +kernel
set_option maxRecDepth 20000 in
theorem ggJ2_checkIndex_2214a_J2_length_9d52b : GoodIn wsJ2_checkIndex_2214a wsJ2_length_9d52b := goodIn_r _ [4] (by decide +kernel) (by decide +kernel)
set_option maxRecDepth 20000 in
theorem gJ2_checkIndex_2214a_J2_length_9d52b : GoodIn wsJ2_checkIndex_2214a (va_wsS RJ2 48 yJ2_length_9d52b wsJ2_length_9d52b) := goodIn_app (goodIn_of _ (by decide +kernel)) ggJ2_checkIndex_2214a_J2_length_9d52b
set_option maxRecDepth 20000 in
theorem ggJ2_checkIndex_2214a_J0_checkIndex_df160 : GoodIn wsJ2_checkIndex_2214a wsJ0_checkIndex_df160 := goodIn_r _ [8, 9, 10, 11, 12, 13] (by decide +kernel) (by decide +kernel)
set_option maxRecDepth 20000 in
theorem gJ2_checkIndex_2214a_J0_checkIndex_df160 : GoodIn wsJ2_checkIndex_2214a (va_wsS RJ2 414 yJ0_checkIndex_df160 wsJ0_checkIndex_df160) := goodIn_app (goodIn_of _ (by decide +kernel)) ggJ2_checkIndex_2214a_J0_checkIndex_df160
theorem dJ2_checkIndex_2214a_0 : decode cJ2_checkIndex_2214a 0 = .ok (.iload_n 0, 1) := by decide +kernel
theorem dJ2_checkIndex_2214a_1 : decode cJ2_checkIndex_2214a 1 = .ok (.aload_n 1, 1) := by decide +kernel
theorem dJ2_checkIndex_2214a_2 : decode cJ2_checkIndex_2214a 2 = .ok (.invokestatic 48, 3) := by decide +kernel
theorem dJ2_checkIndex_2214a_5 : decode cJ2_checkIndex_2214a 5 = .ok (.invokestatic 414, 3) := by decide +kernel
theorem dJ2_checkIndex_2214a_8 : decode cJ2_checkIndex_2214a 8 = .ok (.return_, 1) := by decide +kernel
theorem dJ7_fill_53178_0 : decode cJ7_fill_53178 0 = .ok (.iconst 0, 1) := by decide +kernel
theorem dJ7_fill_53178_1 : decode cJ7_fill_53178 1 = .ok (.istore_n 2, 1) := by decide +kernel
theorem dJ7_fill_53178_2 : decode cJ7_fill_53178 2 = .ok (.aload_n 0, 1) := by decide +kernel
theorem dJ7_fill_53178_3 : decode cJ7_fill_53178 3 = .ok (.arraylength, 1) := by decide +kernel
theorem dJ7_fill_53178_4 : decode cJ7_fill_53178 4 = .ok (.istore_n 3, 1) := by decide +kernel
theorem dJ7_fill_53178_5 : decode cJ7_fill_53178 5 = .ok (.iload_n 2, 1) := by decide +kernel
theorem dJ7_fill_53178_6 : decode cJ7_fill_53178 6 = .ok (.iload_n 3, 1) := by decide +kernel
theorem dJ7_fill_53178_7 : decode cJ7_fill_53178 7 = .ok (.if_icmp .ge 13, 3) := by decide +kernel
theorem dJ7_fill_53178_10 : decode cJ7_fill_53178 10 = .ok (.aload_n 0, 1) := by decide +kernel
theorem dJ7_fill_53178_11 : decode cJ7_fill_53178 11 = .ok (.iload_n 2, 1) := by decide +kernel
theorem dJ7_fill_53178_12 : decode cJ7_fill_53178 12 = .ok (.iload_n 1, 1) := by decide +kernel
theorem dJ7_fill_53178_13 : decode cJ7_fill_53178 13 = .ok (.iastore, 1) := by decide +kernel
theorem dJ7_fill_53178_14 : decode cJ7_fill_53178 14 = .ok (.iinc 2 1, 3) := by decide +kernel
theorem dJ7_fill_53178_17 : decode cJ7_fill_53178 17 = .ok (.goto (-12), 3) := by decide +kernel
theorem dJ7_fill_53178_20 : decode cJ7_fill_53178 20 = .ok (.return_, 1) := by decide +kernel
theorem dJ3_checkIndex_8e157_0 : decode cJ3_checkIndex_8e157 0 = .ok (.iload_n 0, 1) := by decide +kernel
theorem dJ3_checkIndex_8e157_1 : decode cJ3_checkIndex_8e157 1 = .ok (.ifCond .lt 8, 3) := by decide +kernel
theorem dJ3_checkIndex_8e157_4 : decode cJ3_checkIndex_8e157 4 = .ok (.iload_n 0, 1) := by decide +kernel
theorem dJ3_checkIndex_8e157_5 : decode cJ3_checkIndex_8e157 5 = .ok (.iload_n 1, 1) := by decide +kernel
theorem dJ3_checkIndex_8e157_6 : decode cJ3_checkIndex_8e157 6 = .ok (.if_icmp .lt 10, 3) := by decide +kernel
theorem dJ3_checkIndex_8e157_9 : decode cJ3_checkIndex_8e157 9 = .ok (.aload_n 2, 1) := by decide +kernel
theorem dJ3_checkIndex_8e157_10 : decode cJ3_checkIndex_8e157 10 = .ok (.iload_n 0, 1) := by decide +kernel
theorem dJ3_checkIndex_8e157_11 : decode cJ3_checkIndex_8e157 11 = .ok (.iload_n 1, 1) := by decide +kernel
theorem dJ3_checkIndex_8e157_12 : decode cJ3_checkIndex_8e157 12 = .ok (.invokestatic 95, 3) := by decide +kernel
theorem dJ3_checkIndex_8e157_15 : decode cJ3_checkIndex_8e157 15 = .ok (.athrow, 1) := by decide +kernel
theorem dJ3_checkIndex_8e157_16 : decode cJ3_checkIndex_8e157 16 = .ok (.iload_n 0, 1) := by decide +kernel
theorem dJ3_checkIndex_8e157_17 : decode cJ3_checkIndex_8e157 17 = .ok (.ireturn, 1) := by decide +kernel
abbrev vwCl : List vw_C := [(RX0, TX0, 2), (RX1, TX1, 12), (RX3, TX3, 8), (RX4, TX4, 6), (RX5, TX5, 4), (RX6, TX6, 12), (RX7, TX7, 25)]
