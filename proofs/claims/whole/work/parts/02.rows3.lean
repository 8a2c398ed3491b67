theorem dX7_isOpen_61 : decode cX7_isOpen 61 = .ok (.iload 5, 2) := by decide +kernel
theorem dX7_isOpen_63 : decode cX7_isOpen 63 = .ok (.ifCond .le 26, 3) := by decide +kernel
theorem dX7_isOpen_66 : decode cX7_isOpen 66 = .ok (.aload_n 0, 1) := by decide +kernel
theorem dX7_isOpen_67 : decode cX7_isOpen 67 = .ok (.getfield 7, 3) := by decide +kernel
theorem dX7_isOpen_70 : decode cX7_isOpen 70 = .ok (.iload_n 1, 1) := by decide +kernel
theorem dX7_isOpen_71 : decode cX7_isOpen 71 = .ok (.iconst 3, 1) := by decide +kernel
theorem dX7_isOpen_72 : decode cX7_isOpen 72 = .ok (.iload 4, 2) := by decide +kernel
theorem dX7_isOpen_74 : decode cX7_isOpen 74 = .ok (.imul, 1) := by decide +kernel
theorem dX7_isOpen_75 : decode cX7_isOpen 75 = .ok (.iadd, 1) := by decide +kernel
theorem dX7_isOpen_76 : decode cX7_isOpen 76 = .ok (.iload 5, 2) := by decide +kernel
theorem dX7_isOpen_78 : decode cX7_isOpen 78 = .ok (.iadd, 1) := by decide +kernel
theorem dX7_isOpen_79 : decode cX7_isOpen 79 = .ok (.iconst 1, 1) := by decide +kernel
theorem dX7_isOpen_80 : decode cX7_isOpen 80 = .ok (.isub, 1) := by decide +kernel
theorem dX7_isOpen_81 : decode cX7_isOpen 81 = .ok (.iaload, 1) := by decide +kernel
theorem dX7_isOpen_82 : decode cX7_isOpen 82 = .ok (.ifCond .ne 7, 3) := by decide +kernel
theorem dX7_isOpen_85 : decode cX7_isOpen 85 = .ok (.iconst 1, 1) := by decide +kernel
theorem dX7_isOpen_86 : decode cX7_isOpen 86 = .ok (.goto 4, 3) := by decide +kernel
theorem dX7_isOpen_89 : decode cX7_isOpen 89 = .ok (.iconst 0, 1) := by decide +kernel
theorem dX7_isOpen_90 : decode cX7_isOpen 90 = .ok (.ireturn, 1) := by decide +kernel
theorem dX7_isOpen_91 : decode cX7_isOpen 91 = .ok (.iload 5, 2) := by decide +kernel
theorem dX7_isOpen_93 : decode cX7_isOpen 93 = .ok (.iconst 3, 1) := by decide +kernel
theorem dX7_isOpen_94 : decode cX7_isOpen 94 = .ok (.if_icmp .ge 24, 3) := by decide +kernel
theorem dX7_isOpen_97 : decode cX7_isOpen 97 = .ok (.aload_n 0, 1) := by decide +kernel
theorem dX7_isOpen_98 : decode cX7_isOpen 98 = .ok (.getfield 7, 3) := by decide +kernel
theorem dX7_isOpen_101 : decode cX7_isOpen 101 = .ok (.iload_n 1, 1) := by decide +kernel
theorem dX7_isOpen_102 : decode cX7_isOpen 102 = .ok (.iconst 3, 1) := by decide +kernel
theorem dX7_isOpen_103 : decode cX7_isOpen 103 = .ok (.iload 4, 2) := by decide +kernel
theorem dX7_isOpen_105 : decode cX7_isOpen 105 = .ok (.imul, 1) := by decide +kernel
theorem dX7_isOpen_106 : decode cX7_isOpen 106 = .ok (.iadd, 1) := by decide +kernel
theorem dX7_isOpen_107 : decode cX7_isOpen 107 = .ok (.iload 5, 2) := by decide +kernel
theorem dX7_isOpen_109 : decode cX7_isOpen 109 = .ok (.iadd, 1) := by decide +kernel
theorem dX7_isOpen_110 : decode cX7_isOpen 110 = .ok (.iaload, 1) := by decide +kernel
theorem dX7_isOpen_111 : decode cX7_isOpen 111 = .ok (.ifCond .ne 7, 3) := by decide +kernel
theorem dX7_isOpen_114 : decode cX7_isOpen 114 = .ok (.iconst 1, 1) := by decide +kernel
theorem dX7_isOpen_115 : decode cX7_isOpen 115 = .ok (.goto 4, 3) := by decide +kernel
theorem dX7_isOpen_118 : decode cX7_isOpen 118 = .ok (.iconst 0, 1) := by decide +kernel
theorem dX7_isOpen_119 : decode cX7_isOpen 119 = .ok (.ireturn, 1) := by decide +kernel
theorem dX7_isOpen_120 : decode cX7_isOpen 120 = .ok (.iload 4, 2) := by decide +kernel
theorem dX7_isOpen_122 : decode cX7_isOpen 122 = .ok (.iconst 3, 1) := by decide +kernel
theorem dX7_isOpen_123 : decode cX7_isOpen 123 = .ok (.if_icmp .ge 21, 3) := by decide +kernel
theorem dX7_isOpen_126 : decode cX7_isOpen 126 = .ok (.aload_n 0, 1) := by decide +kernel
theorem dX7_isOpen_127 : decode cX7_isOpen 127 = .ok (.getfield 7, 3) := by decide +kernel
theorem dX7_isOpen_130 : decode cX7_isOpen 130 = .ok (.iload_n 1, 1) := by decide +kernel
theorem dX7_isOpen_131 : decode cX7_isOpen 131 = .ok (.bipush 12, 2) := by decide +kernel
theorem dX7_isOpen_133 : decode cX7_isOpen 133 = .ok (.iadd, 1) := by decide +kernel
theorem dX7_isOpen_134 : decode cX7_isOpen 134 = .ok (.iload_n 2, 1) := by decide +kernel
theorem dX7_isOpen_135 : decode cX7_isOpen 135 = .ok (.iadd, 1) := by decide +kernel
theorem dX7_isOpen_136 : decode cX7_isOpen 136 = .ok (.iaload, 1) := by decide +kernel
theorem dX7_isOpen_137 : decode cX7_isOpen 137 = .ok (.ifCond .ne 7, 3) := by decide +kernel
theorem dX7_isOpen_140 : decode cX7_isOpen 140 = .ok (.iconst 1, 1) := by decide +kernel
theorem dX7_isOpen_141 : decode cX7_isOpen 141 = .ok (.goto 4, 3) := by decide +kernel
theorem dX7_isOpen_144 : decode cX7_isOpen 144 = .ok (.iconst 0, 1) := by decide +kernel
theorem dX7_isOpen_145 : decode cX7_isOpen 145 = .ok (.ireturn, 1) := by decide +kernel
theorem dX7_beside_0 : decode cX7_beside 0 = .ok (.iload_n 1, 1) := by decide +kernel
theorem dX7_beside_1 : decode cX7_beside 1 = .ok (.ifCond .ne 9, 3) := by decide +kernel
theorem dX7_beside_4 : decode cX7_beside 4 = .ok (.iload_n 0, 1) := by decide +kernel
theorem dX7_beside_5 : decode cX7_beside 5 = .ok (.iconst 4, 1) := by decide +kernel
theorem dX7_beside_6 : decode cX7_beside 6 = .ok (.isub, 1) := by decide +kernel
theorem dX7_beside_7 : decode cX7_beside 7 = .ok (.goto 28, 3) := by decide +kernel
theorem dX7_beside_10 : decode cX7_beside 10 = .ok (.iload_n 1, 1) := by decide +kernel
theorem dX7_beside_11 : decode cX7_beside 11 = .ok (.iconst 1, 1) := by decide +kernel
theorem dX7_beside_12 : decode cX7_beside 12 = .ok (.if_icmp .ne 9, 3) := by decide +kernel
theorem dX7_beside_15 : decode cX7_beside 15 = .ok (.iload_n 0, 1) := by decide +kernel
theorem dX7_beside_16 : decode cX7_beside 16 = .ok (.iconst 1, 1) := by decide +kernel
theorem dX7_beside_17 : decode cX7_beside 17 = .ok (.isub, 1) := by decide +kernel
theorem dX7_beside_18 : decode cX7_beside 18 = .ok (.goto 17, 3) := by decide +kernel
theorem dX7_beside_21 : decode cX7_beside 21 = .ok (.iload_n 1, 1) := by decide +kernel
theorem dX7_beside_22 : decode cX7_beside 22 = .ok (.iconst 2, 1) := by decide +kernel
theorem dX7_beside_23 : decode cX7_beside 23 = .ok (.if_icmp .ne 9, 3) := by decide +kernel
theorem dX7_beside_26 : decode cX7_beside 26 = .ok (.iload_n 0, 1) := by decide +kernel
theorem dX7_beside_27 : decode cX7_beside 27 = .ok (.iconst 1, 1) := by decide +kernel
theorem dX7_beside_28 : decode cX7_beside 28 = .ok (.iadd, 1) := by decide +kernel
theorem dX7_beside_29 : decode cX7_beside 29 = .ok (.goto 6, 3) := by decide +kernel
theorem dX7_beside_32 : decode cX7_beside 32 = .ok (.iload_n 0, 1) := by decide +kernel
theorem dX7_beside_33 : decode cX7_beside 33 = .ok (.iconst 4, 1) := by decide +kernel
theorem dX7_beside_34 : decode cX7_beside 34 = .ok (.iadd, 1) := by decide +kernel
theorem dX7_beside_35 : decode cX7_beside 35 = .ok (.ireturn, 1) := by decide +kernel
set_option maxRecDepth 20000 in
theorem ggX7_stepsOn_X7_isOpen : GoodIn wsX7_stepsOn wsX7_isOpen := goodIn_r _ [6, 7, 11, 12, 13, 14, 15, 16, 17, 18, 19, 20, 21, 22, 23, 24, 25, 26, 27, 28, 29, 30, 31, 32, 33, 34, 35] (by decide +kernel) (by decide +kernel)
set_option maxRecDepth 20000 in
theorem gX7_stepsOn_X7_isOpen : GoodIn wsX7_stepsOn (wsV RX7 133 RX7 yX7_isOpen wsX7_isOpen) := goodIn_app (goodIn_of _ (by decide +kernel)) ggX7_stepsOn_X7_isOpen
set_option maxRecDepth 20000 in
theorem ggX7_stepsOn_X7_beside : GoodIn wsX7_stepsOn wsX7_beside := goodIn_r _ [10] (by decide +kernel) (by decide +kernel)
set_option maxRecDepth 20000 in
theorem gX7_stepsOn_X7_beside : GoodIn wsX7_stepsOn (va_wsS RX7 137 yX7_beside wsX7_beside) := goodIn_app (goodIn_of _ (by decide +kernel)) ggX7_stepsOn_X7_beside
theorem dX7_stepsOn_0 : decode cX7_stepsOn 0 = .ok (.iconst 0, 1) := by decide +kernel
theorem dX7_stepsOn_1 : decode cX7_stepsOn 1 = .ok (.istore_n 3, 1) := by decide +kernel
theorem dX7_stepsOn_2 : decode cX7_stepsOn 2 = .ok (.iload_n 3, 1) := by decide +kernel
theorem dX7_stepsOn_3 : decode cX7_stepsOn 3 = .ok (.bipush 16, 2) := by decide +kernel
theorem dX7_stepsOn_5 : decode cX7_stepsOn 5 = .ok (.if_icmp .ge 26, 3) := by decide +kernel
theorem dX7_stepsOn_8 : decode cX7_stepsOn 8 = .ok (.aload_n 0, 1) := by decide +kernel
theorem dX7_stepsOn_9 : decode cX7_stepsOn 9 = .ok (.getfield 25, 3) := by decide +kernel
theorem dX7_stepsOn_12 : decode cX7_stepsOn 12 = .ok (.iload_n 3, 1) := by decide +kernel
theorem dX7_stepsOn_13 : decode cX7_stepsOn 13 = .ok (.iload_n 3, 1) := by decide +kernel
theorem dX7_stepsOn_14 : decode cX7_stepsOn 14 = .ok (.iload_n 2, 1) := by decide +kernel
theorem dX7_stepsOn_15 : decode cX7_stepsOn 15 = .ok (.if_icmp .ne 7, 3) := by decide +kernel
theorem dX7_stepsOn_18 : decode cX7_stepsOn 18 = .ok (.iconst 0, 1) := by decide +kernel
theorem dX7_stepsOn_19 : decode cX7_stepsOn 19 = .ok (.goto 5, 3) := by decide +kernel
theorem dX7_stepsOn_22 : decode cX7_stepsOn 22 = .ok (.bipush 99, 2) := by decide +kernel
theorem dX7_stepsOn_24 : decode cX7_stepsOn 24 = .ok (.iastore, 1) := by decide +kernel
theorem dX7_stepsOn_25 : decode cX7_stepsOn 25 = .ok (.iinc 3 1, 3) := by decide +kernel
theorem dX7_stepsOn_28 : decode cX7_stepsOn 28 = .ok (.goto (-26), 3) := by decide +kernel
theorem dX7_stepsOn_31 : decode cX7_stepsOn 31 = .ok (.iconst 1, 1) := by decide +kernel
theorem dX7_stepsOn_32 : decode cX7_stepsOn 32 = .ok (.istore_n 3, 1) := by decide +kernel
theorem dX7_stepsOn_33 : decode cX7_stepsOn 33 = .ok (.iconst 0, 1) := by decide +kernel
theorem dX7_stepsOn_34 : decode cX7_stepsOn 34 = .ok (.istore 4, 2) := by decide +kernel
theorem dX7_stepsOn_36 : decode cX7_stepsOn 36 = .ok (.iload 4, 2) := by decide +kernel
theorem dX7_stepsOn_38 : decode cX7_stepsOn 38 = .ok (.bipush 16, 2) := by decide +kernel
theorem dX7_stepsOn_40 : decode cX7_stepsOn 40 = .ok (.if_icmp .ge 105, 3) := by decide +kernel
theorem dX7_stepsOn_43 : decode cX7_stepsOn 43 = .ok (.iload_n 3, 1) := by decide +kernel
theorem dX7_stepsOn_44 : decode cX7_stepsOn 44 = .ok (.ifCond .eq 101, 3) := by decide +kernel
theorem dX7_stepsOn_47 : decode cX7_stepsOn 47 = .ok (.iconst 0, 1) := by decide +kernel
theorem dX7_stepsOn_48 : decode cX7_stepsOn 48 = .ok (.istore_n 3, 1) := by decide +kernel
theorem dX7_stepsOn_49 : decode cX7_stepsOn 49 = .ok (.iconst 0, 1) := by decide +kernel
theorem dX7_stepsOn_50 : decode cX7_stepsOn 50 = .ok (.istore 5, 2) := by decide +kernel
theorem dX7_stepsOn_52 : decode cX7_stepsOn 52 = .ok (.iload 5, 2) := by decide +kernel
theorem dX7_stepsOn_54 : decode cX7_stepsOn 54 = .ok (.bipush 16, 2) := by decide +kernel
theorem dX7_stepsOn_56 : decode cX7_stepsOn 56 = .ok (.if_icmp .ge 83, 3) := by decide +kernel
theorem dX7_stepsOn_59 : decode cX7_stepsOn 59 = .ok (.iconst 0, 1) := by decide +kernel
theorem dX7_stepsOn_60 : decode cX7_stepsOn 60 = .ok (.istore 6, 2) := by decide +kernel
theorem dX7_stepsOn_62 : decode cX7_stepsOn 62 = .ok (.iload 6, 2) := by decide +kernel
theorem dX7_stepsOn_64 : decode cX7_stepsOn 64 = .ok (.iconst 4, 1) := by decide +kernel
theorem dX7_stepsOn_65 : decode cX7_stepsOn 65 = .ok (.if_icmp .ge 68, 3) := by decide +kernel
theorem dX7_stepsOn_68 : decode cX7_stepsOn 68 = .ok (.aload_n 0, 1) := by decide +kernel
theorem dX7_stepsOn_69 : decode cX7_stepsOn 69 = .ok (.iload_n 1, 1) := by decide +kernel
theorem dX7_stepsOn_70 : decode cX7_stepsOn 70 = .ok (.iload 5, 2) := by decide +kernel
theorem dX7_stepsOn_72 : decode cX7_stepsOn 72 = .ok (.iload 6, 2) := by decide +kernel
theorem dX7_stepsOn_74 : decode cX7_stepsOn 74 = .ok (.invokevirtual 133, 3) := by decide +kernel
theorem dX7_stepsOn_77 : decode cX7_stepsOn 77 = .ok (.ifCond .eq 50, 3) := by decide +kernel
theorem dX7_stepsOn_80 : decode cX7_stepsOn 80 = .ok (.aload_n 0, 1) := by decide +kernel
theorem dX7_stepsOn_81 : decode cX7_stepsOn 81 = .ok (.getfield 25, 3) := by decide +kernel
theorem dX7_stepsOn_84 : decode cX7_stepsOn 84 = .ok (.iload 5, 2) := by decide +kernel
theorem dX7_stepsOn_86 : decode cX7_stepsOn 86 = .ok (.iload 6, 2) := by decide +kernel
theorem dX7_stepsOn_88 : decode cX7_stepsOn 88 = .ok (.invokestatic 137, 3) := by decide +kernel
theorem dX7_stepsOn_91 : decode cX7_stepsOn 91 = .ok (.iaload, 1) := by decide +kernel
theorem dX7_stepsOn_92 : decode cX7_stepsOn 92 = .ok (.iconst 1, 1) := by decide +kernel
theorem dX7_stepsOn_93 : decode cX7_stepsOn 93 = .ok (.iadd, 1) := by decide +kernel
theorem dX7_stepsOn_94 : decode cX7_stepsOn 94 = .ok (.aload_n 0, 1) := by decide +kernel
theorem dX7_stepsOn_95 : decode cX7_stepsOn 95 = .ok (.getfield 25, 3) := by decide +kernel
theorem dX7_stepsOn_98 : decode cX7_stepsOn 98 = .ok (.iload 5, 2) := by decide +kernel
theorem dX7_stepsOn_100 : decode cX7_stepsOn 100 = .ok (.iaload, 1) := by decide +kernel
theorem dX7_stepsOn_101 : decode cX7_stepsOn 101 = .ok (.if_icmp .ge 26, 3) := by decide +kernel
theorem dX7_stepsOn_104 : decode cX7_stepsOn 104 = .ok (.aload_n 0, 1) := by decide +kernel
theorem dX7_stepsOn_105 : decode cX7_stepsOn 105 = .ok (.getfield 25, 3) := by decide +kernel
theorem dX7_stepsOn_108 : decode cX7_stepsOn 108 = .ok (.iload 5, 2) := by decide +kernel
theorem dX7_stepsOn_110 : decode cX7_stepsOn 110 = .ok (.aload_n 0, 1) := by decide +kernel
theorem dX7_stepsOn_111 : decode cX7_stepsOn 111 = .ok (.getfield 25, 3) := by decide +kernel
theorem dX7_stepsOn_114 : decode cX7_stepsOn 114 = .ok (.iload 5, 2) := by decide +kernel
theorem dX7_stepsOn_116 : decode cX7_stepsOn 116 = .ok (.iload 6, 2) := by decide +kernel
theorem dX7_stepsOn_118 : decode cX7_stepsOn 118 = .ok (.invokestatic 137, 3) := by decide +kernel
theorem dX7_stepsOn_121 : decode cX7_stepsOn 121 = .ok (.iaload, 1) := by decide +kernel
theorem dX7_stepsOn_122 : decode cX7_stepsOn 122 = .ok (.iconst 1, 1) := by decide +kernel
theorem dX7_stepsOn_123 : decode cX7_stepsOn 123 = .ok (.iadd, 1) := by decide +kernel
theorem dX7_stepsOn_124 : decode cX7_stepsOn 124 = .ok (.iastore, 1) := by decide +kernel
theorem dX7_stepsOn_125 : decode cX7_stepsOn 125 = .ok (.iconst 1, 1) := by decide +kernel
theorem dX7_stepsOn_126 : decode cX7_stepsOn 126 = .ok (.istore_n 3, 1) := by decide +kernel
theorem dX7_stepsOn_127 : decode cX7_stepsOn 127 = .ok (.iinc 6 1, 3) := by decide +kernel
theorem dX7_stepsOn_130 : decode cX7_stepsOn 130 = .ok (.goto (-68), 3) := by decide +kernel
theorem dX7_stepsOn_133 : decode cX7_stepsOn 133 = .ok (.iinc 5 1, 3) := by decide +kernel
theorem dX7_stepsOn_136 : decode cX7_stepsOn 136 = .ok (.goto (-84), 3) := by decide +kernel
theorem dX7_stepsOn_139 : decode cX7_stepsOn 139 = .ok (.iinc 4 1, 3) := by decide +kernel
theorem dX7_stepsOn_142 : decode cX7_stepsOn 142 = .ok (.goto (-106), 3) := by decide +kernel
theorem dX7_stepsOn_145 : decode cX7_stepsOn 145 = .ok (.return_, 1) := by decide +kernel
set_option maxRecDepth 20000 in
theorem ggX7_turnOn_X7_isOpen : GoodIn wsX7_turnOn wsX7_isOpen := goodIn_r _ [6, 7, 11, 12, 13, 14, 15, 16, 17, 18, 19, 20, 21, 22, 23, 24, 25, 26, 27, 28, 29, 30, 31, 32, 33, 34, 35] (by decide +kernel) (by decide +kernel)
set_option maxRecDepth 20000 in
theorem gX7_turnOn_X7_isOpen : GoodIn wsX7_turnOn (wsV RX7 133 RX7 yX7_isOpen wsX7_isOpen) := goodIn_app (goodIn_of _ (by decide +kernel)) ggX7_turnOn_X7_isOpen
set_option maxRecDepth 20000 in
theorem ggX7_turnOn_X7_beside : GoodIn wsX7_turnOn wsX7_beside := goodIn_r _ [10] (by decide +kernel) (by decide +kernel)
set_option maxRecDepth 20000 in
theorem gX7_turnOn_X7_beside : GoodIn wsX7_turnOn (va_wsS RX7 137 yX7_beside wsX7_beside) := goodIn_app (goodIn_of _ (by decide +kernel)) ggX7_turnOn_X7_beside
theorem dX7_turnOn_0 : decode cX7_turnOn 0 = .ok (.iconst 0, 1) := by decide +kernel
theorem dX7_turnOn_1 : decode cX7_turnOn 1 = .ok (.istore_n 3, 1) := by decide +kernel
theorem dX7_turnOn_2 : decode cX7_turnOn 2 = .ok (.iload_n 3, 1) := by decide +kernel
theorem dX7_turnOn_3 : decode cX7_turnOn 3 = .ok (.iconst 4, 1) := by decide +kernel
theorem dX7_turnOn_4 : decode cX7_turnOn 4 = .ok (.if_icmp .ge 44, 3) := by decide +kernel
theorem dX7_turnOn_7 : decode cX7_turnOn 7 = .ok (.aload_n 0, 1) := by decide +kernel
theorem dX7_turnOn_8 : decode cX7_turnOn 8 = .ok (.iload_n 1, 1) := by decide +kernel
theorem dX7_turnOn_9 : decode cX7_turnOn 9 = .ok (.iload_n 2, 1) := by decide +kernel
theorem dX7_turnOn_10 : decode cX7_turnOn 10 = .ok (.iload_n 3, 1) := by decide +kernel
theorem dX7_turnOn_11 : decode cX7_turnOn 11 = .ok (.invokevirtual 133, 3) := by decide +kernel
theorem dX7_turnOn_14 : decode cX7_turnOn 14 = .ok (.ifCond .eq 28, 3) := by decide +kernel
theorem dX7_turnOn_17 : decode cX7_turnOn 17 = .ok (.aload_n 0, 1) := by decide +kernel
theorem dX7_turnOn_18 : decode cX7_turnOn 18 = .ok (.getfield 25, 3) := by decide +kernel
theorem dX7_turnOn_21 : decode cX7_turnOn 21 = .ok (.iload_n 2, 1) := by decide +kernel
theorem dX7_turnOn_22 : decode cX7_turnOn 22 = .ok (.iload_n 3, 1) := by decide +kernel
theorem dX7_turnOn_23 : decode cX7_turnOn 23 = .ok (.invokestatic 137, 3) := by decide +kernel
theorem dX7_turnOn_26 : decode cX7_turnOn 26 = .ok (.iaload, 1) := by decide +kernel
theorem dX7_turnOn_27 : decode cX7_turnOn 27 = .ok (.aload_n 0, 1) := by decide +kernel
theorem dX7_turnOn_28 : decode cX7_turnOn 28 = .ok (.getfield 25, 3) := by decide +kernel
theorem dX7_turnOn_31 : decode cX7_turnOn 31 = .ok (.iload_n 2, 1) := by decide +kernel
theorem dX7_turnOn_32 : decode cX7_turnOn 32 = .ok (.iaload, 1) := by decide +kernel
theorem dX7_turnOn_33 : decode cX7_turnOn 33 = .ok (.if_icmp .ge 9, 3) := by decide +kernel
theorem dX7_turnOn_36 : decode cX7_turnOn 36 = .ok (.iload_n 2, 1) := by decide +kernel
theorem dX7_turnOn_37 : decode cX7_turnOn 37 = .ok (.iload_n 3, 1) := by decide +kernel
theorem dX7_turnOn_38 : decode cX7_turnOn 38 = .ok (.invokestatic 137, 3) := by decide +kernel
theorem dX7_turnOn_41 : decode cX7_turnOn 41 = .ok (.ireturn, 1) := by decide +kernel
theorem dX7_turnOn_42 : decode cX7_turnOn 42 = .ok (.iinc 3 1, 3) := by decide +kernel
theorem dX7_turnOn_45 : decode cX7_turnOn 45 = .ok (.goto (-43), 3) := by decide +kernel
theorem dX7_turnOn_48 : decode cX7_turnOn 48 = .ok (.iload_n 2, 1) := by decide +kernel
theorem dX7_turnOn_49 : decode cX7_turnOn 49 = .ok (.ireturn, 1) := by decide +kernel
theorem dX7_goalOn_0 : decode cX7_goalOn 0 = .ok (.aload_n 0, 1) := by decide +kernel
theorem dX7_goalOn_1 : decode cX7_goalOn 1 = .ok (.getfield 7, 3) := by decide +kernel
theorem dX7_goalOn_4 : decode cX7_goalOn 4 = .ok (.iload_n 1, 1) := by decide +kernel
theorem dX7_goalOn_5 : decode cX7_goalOn 5 = .ok (.bipush 25, 2) := by decide +kernel
theorem dX7_goalOn_7 : decode cX7_goalOn 7 = .ok (.iadd, 1) := by decide +kernel
theorem dX7_goalOn_8 : decode cX7_goalOn 8 = .ok (.iload_n 2, 1) := by decide +kernel
theorem dX7_goalOn_9 : decode cX7_goalOn 9 = .ok (.iadd, 1) := by decide +kernel
theorem dX7_goalOn_10 : decode cX7_goalOn 10 = .ok (.iaload, 1) := by decide +kernel
theorem dX7_goalOn_11 : decode cX7_goalOn 11 = .ok (.istore_n 3, 1) := by decide +kernel
theorem dX7_goalOn_12 : decode cX7_goalOn 12 = .ok (.aload_n 0, 1) := by decide +kernel
theorem dX7_goalOn_13 : decode cX7_goalOn 13 = .ok (.getfield 7, 3) := by decide +kernel
theorem dX7_goalOn_16 : decode cX7_goalOn 16 = .ok (.iload_n 1, 1) := by decide +kernel
theorem dX7_goalOn_17 : decode cX7_goalOn 17 = .ok (.bipush 29, 2) := by decide +kernel
theorem dX7_goalOn_19 : decode cX7_goalOn 19 = .ok (.iadd, 1) := by decide +kernel
theorem dX7_goalOn_20 : decode cX7_goalOn 20 = .ok (.iload_n 2, 1) := by decide +kernel
theorem dX7_goalOn_21 : decode cX7_goalOn 21 = .ok (.iadd, 1) := by decide +kernel
theorem dX7_goalOn_22 : decode cX7_goalOn 22 = .ok (.iaload, 1) := by decide +kernel
theorem dX7_goalOn_23 : decode cX7_goalOn 23 = .ok (.istore 4, 2) := by decide +kernel
theorem dX7_goalOn_25 : decode cX7_goalOn 25 = .ok (.iload_n 3, 1) := by decide +kernel
theorem dX7_goalOn_26 : decode cX7_goalOn 26 = .ok (.iconst 3, 1) := by decide +kernel
theorem dX7_goalOn_27 : decode cX7_goalOn 27 = .ok (.if_icmp .ne 11, 3) := by decide +kernel
theorem dX7_goalOn_30 : decode cX7_goalOn 30 = .ok (.bipush 23, 2) := by decide +kernel
theorem dX7_goalOn_32 : decode cX7_goalOn 32 = .ok (.iload 4, 2) := by decide +kernel
theorem dX7_goalOn_34 : decode cX7_goalOn 34 = .ok (.isub, 1) := by decide +kernel
theorem dX7_goalOn_35 : decode cX7_goalOn 35 = .ok (.goto 36, 3) := by decide +kernel
theorem dX7_goalOn_38 : decode cX7_goalOn 38 = .ok (.iload_n 3, 1) := by decide +kernel
theorem dX7_goalOn_39 : decode cX7_goalOn 39 = .ok (.iconst 1, 1) := by decide +kernel
theorem dX7_goalOn_40 : decode cX7_goalOn 40 = .ok (.if_icmp .ne 29, 3) := by decide +kernel
theorem dX7_goalOn_43 : decode cX7_goalOn 43 = .ok (.aload_n 0, 1) := by decide +kernel
theorem dX7_goalOn_44 : decode cX7_goalOn 44 = .ok (.getfield 7, 3) := by decide +kernel
theorem dX7_goalOn_47 : decode cX7_goalOn 47 = .ok (.iload_n 1, 1) := by decide +kernel
theorem dX7_goalOn_48 : decode cX7_goalOn 48 = .ok (.bipush 38, 2) := by decide +kernel
theorem dX7_goalOn_50 : decode cX7_goalOn 50 = .ok (.iadd, 1) := by decide +kernel
theorem dX7_goalOn_51 : decode cX7_goalOn 51 = .ok (.iaload, 1) := by decide +kernel
theorem dX7_goalOn_52 : decode cX7_goalOn 52 = .ok (.ifCond .le 17, 3) := by decide +kernel
theorem dX7_goalOn_55 : decode cX7_goalOn 55 = .ok (.aload_n 0, 1) := by decide +kernel
theorem dX7_goalOn_56 : decode cX7_goalOn 56 = .ok (.getfield 7, 3) := by decide +kernel
theorem dX7_goalOn_59 : decode cX7_goalOn 59 = .ok (.iload_n 1, 1) := by decide +kernel
theorem dX7_goalOn_60 : decode cX7_goalOn 60 = .ok (.bipush 38, 2) := by decide +kernel
theorem dX7_goalOn_62 : decode cX7_goalOn 62 = .ok (.iadd, 1) := by decide +kernel
theorem dX7_goalOn_63 : decode cX7_goalOn 63 = .ok (.iaload, 1) := by decide +kernel
theorem dX7_goalOn_64 : decode cX7_goalOn 64 = .ok (.iconst 1, 1) := by decide +kernel
theorem dX7_goalOn_65 : decode cX7_goalOn 65 = .ok (.isub, 1) := by decide +kernel
theorem dX7_goalOn_66 : decode cX7_goalOn 66 = .ok (.goto 5, 3) := by decide +kernel
theorem dX7_goalOn_69 : decode cX7_goalOn 69 = .ok (.iload 4, 2) := by decide +kernel
theorem dX7_goalOn_71 : decode cX7_goalOn 71 = .ok (.ireturn, 1) := by decide +kernel
set_option maxRecDepth 20000 in
theorem ggX7_cutsOn_X7_goalOn : GoodIn wsX7_cutsOn wsX7_goalOn := goodIn_r _ [6, 1, 7, 8, 9, 10, 11, 12, 13, 14, 15, 16, 17, 18, 19, 20, 21, 22, 23, 24, 25, 26, 27, 28, 29, 30, 31] (by decide +kernel) (by decide +kernel)
set_option maxRecDepth 20000 in
theorem gX7_cutsOn_X7_goalOn : GoodIn wsX7_cutsOn (wsV RX7 140 RX7 yX7_goalOn wsX7_goalOn) := goodIn_app (goodIn_of _ (by decide +kernel)) ggX7_cutsOn_X7_goalOn
theorem dX7_cutsOn_0 : decode cX7_cutsOn 0 = .ok (.aload_n 0, 1) := by decide +kernel
theorem dX7_cutsOn_1 : decode cX7_cutsOn 1 = .ok (.getfield 7, 3) := by decide +kernel
theorem dX7_cutsOn_4 : decode cX7_cutsOn 4 = .ok (.iload_n 1, 1) := by decide +kernel
theorem dX7_cutsOn_5 : decode cX7_cutsOn 5 = .ok (.bipush 25, 2) := by decide +kernel
theorem dX7_cutsOn_7 : decode cX7_cutsOn 7 = .ok (.iadd, 1) := by decide +kernel
theorem dX7_cutsOn_8 : decode cX7_cutsOn 8 = .ok (.iload_n 2, 1) := by decide +kernel
theorem dX7_cutsOn_9 : decode cX7_cutsOn 9 = .ok (.iadd, 1) := by decide +kernel
theorem dX7_cutsOn_10 : decode cX7_cutsOn 10 = .ok (.iaload, 1) := by decide +kernel
theorem dX7_cutsOn_11 : decode cX7_cutsOn 11 = .ok (.istore_n 3, 1) := by decide +kernel
theorem dX7_cutsOn_12 : decode cX7_cutsOn 12 = .ok (.aload_n 0, 1) := by decide +kernel
theorem dX7_cutsOn_13 : decode cX7_cutsOn 13 = .ok (.iload_n 1, 1) := by decide +kernel
theorem dX7_cutsOn_14 : decode cX7_cutsOn 14 = .ok (.iload_n 2, 1) := by decide +kernel
theorem dX7_cutsOn_15 : decode cX7_cutsOn 15 = .ok (.invokevirtual 140, 3) := by decide +kernel
theorem dX7_cutsOn_18 : decode cX7_cutsOn 18 = .ok (.istore 4, 2) := by decide +kernel
theorem dX7_cutsOn_20 : decode cX7_cutsOn 20 = .ok (.aload_n 0, 1) := by decide +kernel
theorem dX7_cutsOn_21 : decode cX7_cutsOn 21 = .ok (.getfield 7, 3) := by decide +kernel
theorem dX7_cutsOn_24 : decode cX7_cutsOn 24 = .ok (.iload_n 1, 1) := by decide +kernel
theorem dX7_cutsOn_25 : decode cX7_cutsOn 25 = .ok (.iload 4, 2) := by decide +kernel
theorem dX7_cutsOn_27 : decode cX7_cutsOn 27 = .ok (.iadd, 1) := by decide +kernel
theorem dX7_cutsOn_28 : decode cX7_cutsOn 28 = .ok (.iload_n 3, 1) := by decide +kernel
theorem dX7_cutsOn_29 : decode cX7_cutsOn 29 = .ok (.iconst 2, 1) := by decide +kernel
theorem dX7_cutsOn_30 : decode cX7_cutsOn 30 = .ok (.if_icmp .ge 17, 3) := by decide +kernel
theorem dX7_cutsOn_33 : decode cX7_cutsOn 33 = .ok (.iconst 1, 1) := by decide +kernel
theorem dX7_cutsOn_34 : decode cX7_cutsOn 34 = .ok (.aload_n 0, 1) := by decide +kernel
theorem dX7_cutsOn_35 : decode cX7_cutsOn 35 = .ok (.getfield 7, 3) := by decide +kernel
theorem dX7_cutsOn_38 : decode cX7_cutsOn 38 = .ok (.iload_n 1, 1) := by decide +kernel
theorem dX7_cutsOn_39 : decode cX7_cutsOn 39 = .ok (.iload 4, 2) := by decide +kernel
theorem dX7_cutsOn_41 : decode cX7_cutsOn 41 = .ok (.iadd, 1) := by decide +kernel
theorem dX7_cutsOn_42 : decode cX7_cutsOn 42 = .ok (.iaload, 1) := by decide +kernel
theorem dX7_cutsOn_43 : decode cX7_cutsOn 43 = .ok (.isub, 1) := by decide +kernel
theorem dX7_cutsOn_44 : decode cX7_cutsOn 44 = .ok (.goto 13, 3) := by decide +kernel
theorem dX7_cutsOn_47 : decode cX7_cutsOn 47 = .ok (.iload_n 3, 1) := by decide +kernel
theorem dX7_cutsOn_48 : decode cX7_cutsOn 48 = .ok (.iconst 2, 1) := by decide +kernel
theorem dX7_cutsOn_49 : decode cX7_cutsOn 49 = .ok (.if_icmp .ne 7, 3) := by decide +kernel
theorem dX7_cutsOn_52 : decode cX7_cutsOn 52 = .ok (.iconst 1, 1) := by decide +kernel
theorem dX7_cutsOn_53 : decode cX7_cutsOn 53 = .ok (.goto 4, 3) := by decide +kernel
theorem dX7_cutsOn_56 : decode cX7_cutsOn 56 = .ok (.iconst 0, 1) := by decide +kernel
theorem dX7_cutsOn_57 : decode cX7_cutsOn 57 = .ok (.iastore, 1) := by decide +kernel
theorem dX7_cutsOn_58 : decode cX7_cutsOn 58 = .ok (.aload_n 0, 1) := by decide +kernel
theorem dX7_cutsOn_59 : decode cX7_cutsOn 59 = .ok (.getfield 7, 3) := by decide +kernel
theorem dX7_cutsOn_62 : decode cX7_cutsOn 62 = .ok (.iload_n 1, 1) := by decide +kernel
theorem dX7_cutsOn_63 : decode cX7_cutsOn 63 = .ok (.bipush 38, 2) := by decide +kernel
theorem dX7_cutsOn_65 : decode cX7_cutsOn 65 = .ok (.iadd, 1) := by decide +kernel
theorem dX7_cutsOn_66 : decode cX7_cutsOn 66 = .ok (.iload 4, 2) := by decide +kernel
theorem dX7_cutsOn_68 : decode cX7_cutsOn 68 = .ok (.iconst 1, 1) := by decide +kernel
theorem dX7_cutsOn_69 : decode cX7_cutsOn 69 = .ok (.iadd, 1) := by decide +kernel
theorem dX7_cutsOn_70 : decode cX7_cutsOn 70 = .ok (.iastore, 1) := by decide +kernel
theorem dX7_cutsOn_71 : decode cX7_cutsOn 71 = .ok (.aload_n 0, 1) := by decide +kernel
theorem dX7_cutsOn_72 : decode cX7_cutsOn 72 = .ok (.getfield 7, 3) := by decide +kernel
theorem dX7_cutsOn_75 : decode cX7_cutsOn 75 = .ok (.iload_n 1, 1) := by decide +kernel
theorem dX7_cutsOn_76 : decode cX7_cutsOn 76 = .ok (.bipush 29, 2) := by decide +kernel
theorem dX7_cutsOn_78 : decode cX7_cutsOn 78 = .ok (.iadd, 1) := by decide +kernel
theorem dX7_cutsOn_79 : decode cX7_cutsOn 79 = .ok (.iload_n 2, 1) := by decide +kernel
theorem dX7_cutsOn_80 : decode cX7_cutsOn 80 = .ok (.iadd, 1) := by decide +kernel
theorem dX7_cutsOn_81 : decode cX7_cutsOn 81 = .ok (.aload_n 0, 1) := by decide +kernel
theorem dX7_cutsOn_82 : decode cX7_cutsOn 82 = .ok (.getfield 7, 3) := by decide +kernel
theorem dX7_cutsOn_85 : decode cX7_cutsOn 85 = .ok (.iload_n 1, 1) := by decide +kernel
theorem dX7_cutsOn_86 : decode cX7_cutsOn 86 = .ok (.bipush 29, 2) := by decide +kernel
theorem dX7_cutsOn_88 : decode cX7_cutsOn 88 = .ok (.iadd, 1) := by decide +kernel
theorem dX7_cutsOn_89 : decode cX7_cutsOn 89 = .ok (.iload_n 2, 1) := by decide +kernel
theorem dX7_cutsOn_90 : decode cX7_cutsOn 90 = .ok (.iadd, 1) := by decide +kernel
theorem dX7_cutsOn_91 : decode cX7_cutsOn 91 = .ok (.iaload, 1) := by decide +kernel
theorem dX7_cutsOn_92 : decode cX7_cutsOn 92 = .ok (.aload_n 0, 1) := by decide +kernel
theorem dX7_cutsOn_93 : decode cX7_cutsOn 93 = .ok (.getfield 7, 3) := by decide +kernel
theorem dX7_cutsOn_96 : decode cX7_cutsOn 96 = .ok (.iload_n 1, 1) := by decide +kernel
theorem dX7_cutsOn_97 : decode cX7_cutsOn 97 = .ok (.bipush 33, 2) := by decide +kernel
theorem dX7_cutsOn_99 : decode cX7_cutsOn 99 = .ok (.iadd, 1) := by decide +kernel
theorem dX7_cutsOn_100 : decode cX7_cutsOn 100 = .ok (.iload_n 2, 1) := by decide +kernel
theorem dX7_cutsOn_101 : decode cX7_cutsOn 101 = .ok (.iadd, 1) := by decide +kernel
theorem dX7_cutsOn_102 : decode cX7_cutsOn 102 = .ok (.iaload, 1) := by decide +kernel
theorem dX7_cutsOn_103 : decode cX7_cutsOn 103 = .ok (.iadd, 1) := by decide +kernel
theorem dX7_cutsOn_104 : decode cX7_cutsOn 104 = .ok (.bipush 24, 2) := by decide +kernel
theorem dX7_cutsOn_106 : decode cX7_cutsOn 106 = .ok (.irem, 1) := by decide +kernel
theorem dX7_cutsOn_107 : decode cX7_cutsOn 107 = .ok (.iastore, 1) := by decide +kernel
theorem dX7_cutsOn_108 : decode cX7_cutsOn 108 = .ok (.return_, 1) := by decide +kernel
set_option maxRecDepth 20000 in
theorem ggX7_guestOn_X7_turnOn : GoodIn wsX7_guestOn wsX7_turnOn := goodIn_r _ [6, 7, 8, 9, 10, 5, 11, 1, 12, 13, 14, 15, 16, 17, 18, 19, 20, 21, 22, 23, 24, 25, 26, 27, 28, 29, 30, 31, 32, 33, 34, 35, 36, 37, 38, 39] (by decide +kernel) (by decide +kernel)
set_option maxRecDepth 20000 in
theorem gX7_guestOn_X7_turnOn : GoodIn wsX7_guestOn (wsV RX7 143 RX7 yX7_turnOn wsX7_turnOn) := goodIn_app (goodIn_of _ (by decide +kernel)) ggX7_guestOn_X7_turnOn
theorem dX7_guestOn_0 : decode cX7_guestOn 0 = .ok (.aload_n 0, 1) := by decide +kernel
theorem dX7_guestOn_1 : decode cX7_guestOn 1 = .ok (.getfield 7, 3) := by decide +kernel
theorem dX7_guestOn_4 : decode cX7_guestOn 4 = .ok (.iload_n 1, 1) := by decide +kernel
theorem dX7_guestOn_5 : decode cX7_guestOn 5 = .ok (.bipush 43, 2) := by decide +kernel
theorem dX7_guestOn_7 : decode cX7_guestOn 7 = .ok (.iadd, 1) := by decide +kernel
theorem dX7_guestOn_8 : decode cX7_guestOn 8 = .ok (.iload_n 2, 1) := by decide +kernel
theorem dX7_guestOn_9 : decode cX7_guestOn 9 = .ok (.iadd, 1) := by decide +kernel
theorem dX7_guestOn_10 : decode cX7_guestOn 10 = .ok (.iaload, 1) := by decide +kernel
theorem dX7_guestOn_11 : decode cX7_guestOn 11 = .ok (.ifCond .ne 16, 3) := by decide +kernel
theorem dX7_guestOn_14 : decode cX7_guestOn 14 = .ok (.aload_n 0, 1) := by decide +kernel
theorem dX7_guestOn_15 : decode cX7_guestOn 15 = .ok (.getfield 7, 3) := by decide +kernel
theorem dX7_guestOn_18 : decode cX7_guestOn 18 = .ok (.iload_n 1, 1) := by decide +kernel
theorem dX7_guestOn_19 : decode cX7_guestOn 19 = .ok (.bipush 47, 2) := by decide +kernel
theorem dX7_guestOn_21 : decode cX7_guestOn 21 = .ok (.iadd, 1) := by decide +kernel
theorem dX7_guestOn_22 : decode cX7_guestOn 22 = .ok (.iload_n 2, 1) := by decide +kernel
theorem dX7_guestOn_23 : decode cX7_guestOn 23 = .ok (.iadd, 1) := by decide +kernel
theorem dX7_guestOn_24 : decode cX7_guestOn 24 = .ok (.iconst 2, 1) := by decide +kernel
theorem dX7_guestOn_25 : decode cX7_guestOn 25 = .ok (.iastore, 1) := by decide +kernel
theorem dX7_guestOn_26 : decode cX7_guestOn 26 = .ok (.return_, 1) := by decide +kernel
theorem dX7_guestOn_27 : decode cX7_guestOn 27 = .ok (.aload_n 0, 1) := by decide +kernel
theorem dX7_guestOn_28 : decode cX7_guestOn 28 = .ok (.getfield 7, 3) := by decide +kernel
theorem dX7_guestOn_31 : decode cX7_guestOn 31 = .ok (.iload_n 1, 1) := by decide +kernel
theorem dX7_guestOn_32 : decode cX7_guestOn 32 = .ok (.bipush 39, 2) := by decide +kernel
theorem dX7_guestOn_34 : decode cX7_guestOn 34 = .ok (.iadd, 1) := by decide +kernel
theorem dX7_guestOn_35 : decode cX7_guestOn 35 = .ok (.iload_n 2, 1) := by decide +kernel
theorem dX7_guestOn_36 : decode cX7_guestOn 36 = .ok (.iadd, 1) := by decide +kernel
theorem dX7_guestOn_37 : decode cX7_guestOn 37 = .ok (.aload_n 0, 1) := by decide +kernel
theorem dX7_guestOn_38 : decode cX7_guestOn 38 = .ok (.iload_n 1, 1) := by decide +kernel
theorem dX7_guestOn_39 : decode cX7_guestOn 39 = .ok (.aload_n 0, 1) := by decide +kernel
theorem dX7_guestOn_40 : decode cX7_guestOn 40 = .ok (.getfield 7, 3) := by decide +kernel
theorem dX7_guestOn_43 : decode cX7_guestOn 43 = .ok (.iload_n 1, 1) := by decide +kernel
theorem dX7_guestOn_44 : decode cX7_guestOn 44 = .ok (.bipush 39, 2) := by decide +kernel
theorem dX7_guestOn_46 : decode cX7_guestOn 46 = .ok (.iadd, 1) := by decide +kernel
theorem dX7_guestOn_47 : decode cX7_guestOn 47 = .ok (.iload_n 2, 1) := by decide +kernel
theorem dX7_guestOn_48 : decode cX7_guestOn 48 = .ok (.iadd, 1) := by decide +kernel
theorem dX7_guestOn_49 : decode cX7_guestOn 49 = .ok (.iaload, 1) := by decide +kernel
theorem dX7_guestOn_50 : decode cX7_guestOn 50 = .ok (.invokevirtual 143, 3) := by decide +kernel
theorem dX7_guestOn_53 : decode cX7_guestOn 53 = .ok (.iastore, 1) := by decide +kernel
theorem dX7_guestOn_54 : decode cX7_guestOn 54 = .ok (.aload_n 0, 1) := by decide +kernel
theorem dX7_guestOn_55 : decode cX7_guestOn 55 = .ok (.getfield 7, 3) := by decide +kernel
theorem dX7_guestOn_58 : decode cX7_guestOn 58 = .ok (.iload_n 1, 1) := by decide +kernel
theorem dX7_guestOn_59 : decode cX7_guestOn 59 = .ok (.bipush 43, 2) := by decide +kernel
theorem dX7_guestOn_61 : decode cX7_guestOn 61 = .ok (.iadd, 1) := by decide +kernel
theorem dX7_guestOn_62 : decode cX7_guestOn 62 = .ok (.iload_n 2, 1) := by decide +kernel
theorem dX7_guestOn_63 : decode cX7_guestOn 63 = .ok (.iadd, 1) := by decide +kernel
theorem dX7_guestOn_64 : decode cX7_guestOn 64 = .ok (.dup2, 1) := by decide +kernel
theorem dX7_guestOn_65 : decode cX7_guestOn 65 = .ok (.iaload, 1) := by decide +kernel
theorem dX7_guestOn_66 : decode cX7_guestOn 66 = .ok (.iconst 1, 1) := by decide +kernel
theorem dX7_guestOn_67 : decode cX7_guestOn 67 = .ok (.isub, 1) := by decide +kernel
theorem dX7_guestOn_68 : decode cX7_guestOn 68 = .ok (.iastore, 1) := by decide +kernel
theorem dX7_guestOn_69 : decode cX7_guestOn 69 = .ok (.aload_n 0, 1) := by decide +kernel
theorem dX7_guestOn_70 : decode cX7_guestOn 70 = .ok (.getfield 7, 3) := by decide +kernel
theorem dX7_guestOn_73 : decode cX7_guestOn 73 = .ok (.iload_n 1, 1) := by decide +kernel
theorem dX7_guestOn_74 : decode cX7_guestOn 74 = .ok (.bipush 47, 2) := by decide +kernel
theorem dX7_guestOn_76 : decode cX7_guestOn 76 = .ok (.iadd, 1) := by decide +kernel
theorem dX7_guestOn_77 : decode cX7_guestOn 77 = .ok (.iload_n 2, 1) := by decide +kernel
theorem dX7_guestOn_78 : decode cX7_guestOn 78 = .ok (.iadd, 1) := by decide +kernel
theorem dX7_guestOn_79 : decode cX7_guestOn 79 = .ok (.aload_n 0, 1) := by decide +kernel
theorem dX7_guestOn_80 : decode cX7_guestOn 80 = .ok (.getfield 7, 3) := by decide +kernel
theorem dX7_guestOn_83 : decode cX7_guestOn 83 = .ok (.iload_n 1, 1) := by decide +kernel
theorem dX7_guestOn_84 : decode cX7_guestOn 84 = .ok (.bipush 39, 2) := by decide +kernel
theorem dX7_guestOn_86 : decode cX7_guestOn 86 = .ok (.iadd, 1) := by decide +kernel
theorem dX7_guestOn_87 : decode cX7_guestOn 87 = .ok (.iload_n 2, 1) := by decide +kernel
theorem dX7_guestOn_88 : decode cX7_guestOn 88 = .ok (.iadd, 1) := by decide +kernel
theorem dX7_guestOn_89 : decode cX7_guestOn 89 = .ok (.iaload, 1) := by decide +kernel
theorem dX7_guestOn_90 : decode cX7_guestOn 90 = .ok (.aload_n 0, 1) := by decide +kernel
theorem dX7_guestOn_91 : decode cX7_guestOn 91 = .ok (.getfield 7, 3) := by decide +kernel
theorem dX7_guestOn_94 : decode cX7_guestOn 94 = .ok (.iload_n 1, 1) := by decide +kernel
theorem dX7_guestOn_95 : decode cX7_guestOn 95 = .ok (.bipush 24, 2) := by decide +kernel
theorem dX7_guestOn_97 : decode cX7_guestOn 97 = .ok (.iadd, 1) := by decide +kernel
theorem dX7_guestOn_98 : decode cX7_guestOn 98 = .ok (.iaload, 1) := by decide +kernel
theorem dX7_guestOn_99 : decode cX7_guestOn 99 = .ok (.if_icmp .ne 7, 3) := by decide +kernel
theorem dX7_guestOn_102 : decode cX7_guestOn 102 = .ok (.iconst 1, 1) := by decide +kernel
theorem dX7_guestOn_103 : decode cX7_guestOn 103 = .ok (.goto 4, 3) := by decide +kernel
theorem dX7_guestOn_106 : decode cX7_guestOn 106 = .ok (.iconst 0, 1) := by decide +kernel
theorem dX7_guestOn_107 : decode cX7_guestOn 107 = .ok (.iastore, 1) := by decide +kernel
theorem dX7_guestOn_108 : decode cX7_guestOn 108 = .ok (.return_, 1) := by decide +kernel
set_option maxRecDepth 20000 in
theorem ggX7_dayOn_X7_cutsOn : GoodIn wsX7_dayOn wsX7_cutsOn := goodIn_r _ [7, 1, 8, 9, 10, 6, 11, 32, 33, 34, 35, 36, 37, 38, 39, 40, 41, 42, 43, 44, 45, 46, 47, 48, 49, 50, 51, 52, 53, 54, 55, 56] (by decide +kernel) (by decide +kernel)
set_option maxRecDepth 20000 in
theorem gX7_dayOn_X7_cutsOn : GoodIn wsX7_dayOn (wsV RX7 146 RX7 yX7_cutsOn wsX7_cutsOn) := goodIn_app (goodIn_of _ (by decide +kernel)) ggX7_dayOn_X7_cutsOn
set_option maxRecDepth 20000 in
theorem ggX7_dayOn_X7_stepsOn : GoodIn wsX7_dayOn wsX7_stepsOn := goodIn_r _ [15, 16, 17, 18, 19, 6, 20, 1, 21, 22, 23, 32, 33, 34, 35, 36, 37, 38, 39, 40, 41, 42, 43, 44, 45, 46, 47, 48, 49, 50, 51, 52, 53, 54, 55, 56] (by decide +kernel) (by decide +kernel)
set_option maxRecDepth 20000 in
theorem gX7_dayOn_X7_stepsOn : GoodIn wsX7_dayOn (wsV RX7 150 RX7 yX7_stepsOn wsX7_stepsOn) := goodIn_app (goodIn_of _ (by decide +kernel)) ggX7_dayOn_X7_stepsOn
set_option maxRecDepth 20000 in
theorem ggX7_dayOn_X7_guestOn : GoodIn wsX7_dayOn wsX7_guestOn := goodIn_r _ [27, 1, 28, 29, 30, 6, 31, 16, 17, 18, 19, 20, 21, 22, 23, 32, 33, 34, 35, 36, 37, 38, 39, 40, 41, 42, 43, 44, 45, 46, 47, 48, 49, 50, 51, 52, 53, 54, 55, 56] (by decide +kernel) (by decide +kernel)
set_option maxRecDepth 20000 in
theorem gX7_dayOn_X7_guestOn : GoodIn wsX7_dayOn (wsV RX7 153 RX7 yX7_guestOn wsX7_guestOn) := goodIn_app (goodIn_of _ (by decide +kernel)) ggX7_dayOn_X7_guestOn
theorem dX7_dayOn_0 : decode cX7_dayOn 0 = .ok (.aload_n 0, 1) := by decide +kernel
theorem dX7_dayOn_1 : decode cX7_dayOn 1 = .ok (.getfield 7, 3) := by decide +kernel
theorem dX7_dayOn_4 : decode cX7_dayOn 4 = .ok (.iload_n 1, 1) := by decide +kernel
theorem dX7_dayOn_5 : decode cX7_dayOn 5 = .ok (.bipush 37, 2) := by decide +kernel
theorem dX7_dayOn_7 : decode cX7_dayOn 7 = .ok (.iadd, 1) := by decide +kernel
theorem dX7_dayOn_8 : decode cX7_dayOn 8 = .ok (.iaload, 1) := by decide +kernel
theorem dX7_dayOn_9 : decode cX7_dayOn 9 = .ok (.istore_n 3, 1) := by decide +kernel
theorem dX7_dayOn_10 : decode cX7_dayOn 10 = .ok (.iload_n 3, 1) := by decide +kernel
theorem dX7_dayOn_11 : decode cX7_dayOn 11 = .ok (.ifCond .eq 7, 3) := by decide +kernel
theorem dX7_dayOn_14 : decode cX7_dayOn 14 = .ok (.iload_n 2, 1) := by decide +kernel
theorem dX7_dayOn_15 : decode cX7_dayOn 15 = .ok (.ifCond .eq 8, 3) := by decide +kernel
theorem dX7_dayOn_18 : decode cX7_dayOn 18 = .ok (.bipush (-4), 2) := by decide +kernel
theorem dX7_dayOn_20 : decode cX7_dayOn 20 = .ok (.goto 14, 3) := by decide +kernel
theorem dX7_dayOn_23 : decode cX7_dayOn 23 = .ok (.aload_n 0, 1) := by decide +kernel
theorem dX7_dayOn_24 : decode cX7_dayOn 24 = .ok (.getfield 7, 3) := by decide +kernel
theorem dX7_dayOn_27 : decode cX7_dayOn 27 = .ok (.iload_n 1, 1) := by decide +kernel
theorem dX7_dayOn_28 : decode cX7_dayOn 28 = .ok (.bipush 52, 2) := by decide +kernel
theorem dX7_dayOn_30 : decode cX7_dayOn 30 = .ok (.iadd, 1) := by decide +kernel
theorem dX7_dayOn_31 : decode cX7_dayOn 31 = .ok (.iaload, 1) := by decide +kernel
theorem dX7_dayOn_32 : decode cX7_dayOn 32 = .ok (.iload_n 3, 1) := by decide +kernel
theorem dX7_dayOn_33 : decode cX7_dayOn 33 = .ok (.irem, 1) := by decide +kernel
theorem dX7_dayOn_34 : decode cX7_dayOn 34 = .ok (.istore 4, 2) := by decide +kernel
theorem dX7_dayOn_36 : decode cX7_dayOn 36 = .ok (.iload 4, 2) := by decide +kernel
theorem dX7_dayOn_38 : decode cX7_dayOn 38 = .ok (.bipush (-4), 2) := by decide +kernel
theorem dX7_dayOn_40 : decode cX7_dayOn 40 = .ok (.if_icmp .eq 19, 3) := by decide +kernel
theorem dX7_dayOn_43 : decode cX7_dayOn 43 = .ok (.iload 4, 2) := by decide +kernel
theorem dX7_dayOn_45 : decode cX7_dayOn 45 = .ok (.aload_n 0, 1) := by decide +kernel
theorem dX7_dayOn_46 : decode cX7_dayOn 46 = .ok (.getfield 28, 3) := by decide +kernel
theorem dX7_dayOn_49 : decode cX7_dayOn 49 = .ok (.if_icmp .eq 10, 3) := by decide +kernel
theorem dX7_dayOn_52 : decode cX7_dayOn 52 = .ok (.aload_n 0, 1) := by decide +kernel
theorem dX7_dayOn_53 : decode cX7_dayOn 53 = .ok (.iload_n 1, 1) := by decide +kernel
theorem dX7_dayOn_54 : decode cX7_dayOn 54 = .ok (.iload 4, 2) := by decide +kernel
theorem dX7_dayOn_56 : decode cX7_dayOn 56 = .ok (.invokevirtual 146, 3) := by decide +kernel
theorem dX7_dayOn_59 : decode cX7_dayOn 59 = .ok (.aload_n 0, 1) := by decide +kernel
theorem dX7_dayOn_60 : decode cX7_dayOn 60 = .ok (.iload_n 1, 1) := by decide +kernel
theorem dX7_dayOn_61 : decode cX7_dayOn 61 = .ok (.aload_n 0, 1) := by decide +kernel
theorem dX7_dayOn_62 : decode cX7_dayOn 62 = .ok (.getfield 7, 3) := by decide +kernel
theorem dX7_dayOn_65 : decode cX7_dayOn 65 = .ok (.iload_n 1, 1) := by decide +kernel
theorem dX7_dayOn_66 : decode cX7_dayOn 66 = .ok (.bipush 24, 2) := by decide +kernel
theorem dX7_dayOn_68 : decode cX7_dayOn 68 = .ok (.iadd, 1) := by decide +kernel
theorem dX7_dayOn_69 : decode cX7_dayOn 69 = .ok (.iaload, 1) := by decide +kernel
theorem dX7_dayOn_70 : decode cX7_dayOn 70 = .ok (.invokevirtual 150, 3) := by decide +kernel
theorem dX7_dayOn_73 : decode cX7_dayOn 73 = .ok (.iconst 0, 1) := by decide +kernel
theorem dX7_dayOn_74 : decode cX7_dayOn 74 = .ok (.istore 5, 2) := by decide +kernel
theorem dX7_dayOn_76 : decode cX7_dayOn 76 = .ok (.iload 5, 2) := by decide +kernel
theorem dX7_dayOn_78 : decode cX7_dayOn 78 = .ok (.aload_n 0, 1) := by decide +kernel
theorem dX7_dayOn_79 : decode cX7_dayOn 79 = .ok (.getfield 7, 3) := by decide +kernel
theorem dX7_dayOn_82 : decode cX7_dayOn 82 = .ok (.iload_n 1, 1) := by decide +kernel
theorem dX7_dayOn_83 : decode cX7_dayOn 83 = .ok (.bipush 51, 2) := by decide +kernel
theorem dX7_dayOn_85 : decode cX7_dayOn 85 = .ok (.iadd, 1) := by decide +kernel
theorem dX7_dayOn_86 : decode cX7_dayOn 86 = .ok (.iaload, 1) := by decide +kernel
theorem dX7_dayOn_87 : decode cX7_dayOn 87 = .ok (.if_icmp .ge 31, 3) := by decide +kernel
theorem dX7_dayOn_90 : decode cX7_dayOn 90 = .ok (.aload_n 0, 1) := by decide +kernel
theorem dX7_dayOn_91 : decode cX7_dayOn 91 = .ok (.getfield 7, 3) := by decide +kernel
theorem dX7_dayOn_94 : decode cX7_dayOn 94 = .ok (.iload_n 1, 1) := by decide +kernel
theorem dX7_dayOn_95 : decode cX7_dayOn 95 = .ok (.bipush 47, 2) := by decide +kernel
theorem dX7_dayOn_97 : decode cX7_dayOn 97 = .ok (.iadd, 1) := by decide +kernel
theorem dX7_dayOn_98 : decode cX7_dayOn 98 = .ok (.iload 5, 2) := by decide +kernel
theorem dX7_dayOn_100 : decode cX7_dayOn 100 = .ok (.iadd, 1) := by decide +kernel
theorem dX7_dayOn_101 : decode cX7_dayOn 101 = .ok (.iaload, 1) := by decide +kernel
theorem dX7_dayOn_102 : decode cX7_dayOn 102 = .ok (.ifCond .ne 10, 3) := by decide +kernel
theorem dX7_dayOn_105 : decode cX7_dayOn 105 = .ok (.aload_n 0, 1) := by decide +kernel
theorem dX7_dayOn_106 : decode cX7_dayOn 106 = .ok (.iload_n 1, 1) := by decide +kernel
theorem dX7_dayOn_107 : decode cX7_dayOn 107 = .ok (.iload 5, 2) := by decide +kernel
theorem dX7_dayOn_109 : decode cX7_dayOn 109 = .ok (.invokevirtual 153, 3) := by decide +kernel
theorem dX7_dayOn_112 : decode cX7_dayOn 112 = .ok (.iinc 5 1, 3) := by decide +kernel
theorem dX7_dayOn_115 : decode cX7_dayOn 115 = .ok (.goto (-39), 3) := by decide +kernel
theorem dX7_dayOn_118 : decode cX7_dayOn 118 = .ok (.aload_n 0, 1) := by decide +kernel
theorem dX7_dayOn_119 : decode cX7_dayOn 119 = .ok (.getfield 7, 3) := by decide +kernel
theorem dX7_dayOn_122 : decode cX7_dayOn 122 = .ok (.iload_n 1, 1) := by decide +kernel
theorem dX7_dayOn_123 : decode cX7_dayOn 123 = .ok (.bipush 52, 2) := by decide +kernel
theorem dX7_dayOn_125 : decode cX7_dayOn 125 = .ok (.iadd, 1) := by decide +kernel
theorem dX7_dayOn_126 : decode cX7_dayOn 126 = .ok (.dup2, 1) := by decide +kernel
theorem dX7_dayOn_127 : decode cX7_dayOn 127 = .ok (.iaload, 1) := by decide +kernel
theorem dX7_dayOn_128 : decode cX7_dayOn 128 = .ok (.iconst 1, 1) := by decide +kernel
theorem dX7_dayOn_129 : decode cX7_dayOn 129 = .ok (.iadd, 1) := by decide +kernel
theorem dX7_dayOn_130 : decode cX7_dayOn 130 = .ok (.iastore, 1) := by decide +kernel
theorem dX7_dayOn_131 : decode cX7_dayOn 131 = .ok (.return_, 1) := by decide +kernel
theorem dX7_standOn_0 : decode cX7_standOn 0 = .ok (.iconst 0, 1) := by decide +kernel
theorem dX7_standOn_1 : decode cX7_standOn 1 = .ok (.istore_n 2, 1) := by decide +kernel
theorem dX7_standOn_2 : decode cX7_standOn 2 = .ok (.iconst 0, 1) := by decide +kernel
theorem dX7_standOn_3 : decode cX7_standOn 3 = .ok (.istore_n 3, 1) := by decide +kernel
theorem dX7_standOn_4 : decode cX7_standOn 4 = .ok (.iload_n 3, 1) := by decide +kernel
theorem dX7_standOn_5 : decode cX7_standOn 5 = .ok (.bipush 24, 2) := by decide +kernel
theorem dX7_standOn_7 : decode cX7_standOn 7 = .ok (.if_icmp .ge 22, 3) := by decide +kernel
theorem dX7_standOn_10 : decode cX7_standOn 10 = .ok (.iload_n 2, 1) := by decide +kernel
theorem dX7_standOn_11 : decode cX7_standOn 11 = .ok (.aload_n 0, 1) := by decide +kernel
theorem dX7_standOn_12 : decode cX7_standOn 12 = .ok (.getfield 7, 3) := by decide +kernel
theorem dX7_standOn_15 : decode cX7_standOn 15 = .ok (.iload_n 1, 1) := by decide +kernel
theorem dX7_standOn_16 : decode cX7_standOn 16 = .ok (.iload_n 3, 1) := by decide +kernel
theorem dX7_standOn_17 : decode cX7_standOn 17 = .ok (.iadd, 1) := by decide +kernel
theorem dX7_standOn_18 : decode cX7_standOn 18 = .ok (.iaload, 1) := by decide +kernel
theorem dX7_standOn_19 : decode cX7_standOn 19 = .ok (.iload_n 3, 1) := by decide +kernel
theorem dX7_standOn_20 : decode cX7_standOn 20 = .ok (.ishl, 1) := by decide +kernel
theorem dX7_standOn_21 : decode cX7_standOn 21 = .ok (.ior, 1) := by decide +kernel
theorem dX7_standOn_22 : decode cX7_standOn 22 = .ok (.istore_n 2, 1) := by decide +kernel
theorem dX7_standOn_23 : decode cX7_standOn 23 = .ok (.iinc 3 1, 3) := by decide +kernel
theorem dX7_standOn_26 : decode cX7_standOn 26 = .ok (.goto (-22), 3) := by decide +kernel
theorem dX7_standOn_29 : decode cX7_standOn 29 = .ok (.iload_n 2, 1) := by decide +kernel
theorem dX7_standOn_30 : decode cX7_standOn 30 = .ok (.ireturn, 1) := by decide +kernel
theorem dX7_guestsOn_0 : decode cX7_guestsOn 0 = .ok (.iconst 0, 1) := by decide +kernel
theorem dX7_guestsOn_1 : decode cX7_guestsOn 1 = .ok (.istore_n 3, 1) := by decide +kernel
theorem dX7_guestsOn_2 : decode cX7_guestsOn 2 = .ok (.iconst 0, 1) := by decide +kernel
theorem dX7_guestsOn_3 : decode cX7_guestsOn 3 = .ok (.istore 4, 2) := by decide +kernel
theorem dX7_guestsOn_5 : decode cX7_guestsOn 5 = .ok (.iload 4, 2) := by decide +kernel
theorem dX7_guestsOn_7 : decode cX7_guestsOn 7 = .ok (.aload_n 0, 1) := by decide +kernel
theorem dX7_guestsOn_8 : decode cX7_guestsOn 8 = .ok (.getfield 7, 3) := by decide +kernel
theorem dX7_guestsOn_11 : decode cX7_guestsOn 11 = .ok (.iload_n 1, 1) := by decide +kernel
theorem dX7_guestsOn_12 : decode cX7_guestsOn 12 = .ok (.bipush 51, 2) := by decide +kernel
theorem dX7_guestsOn_14 : decode cX7_guestsOn 14 = .ok (.iadd, 1) := by decide +kernel
theorem dX7_guestsOn_15 : decode cX7_guestsOn 15 = .ok (.iaload, 1) := by decide +kernel
theorem dX7_guestsOn_16 : decode cX7_guestsOn 16 = .ok (.if_icmp .ge 36, 3) := by decide +kernel
theorem dX7_guestsOn_19 : decode cX7_guestsOn 19 = .ok (.iload_n 3, 1) := by decide +kernel
theorem dX7_guestsOn_20 : decode cX7_guestsOn 20 = .ok (.aload_n 0, 1) := by decide +kernel
theorem dX7_guestsOn_21 : decode cX7_guestsOn 21 = .ok (.getfield 7, 3) := by decide +kernel
theorem dX7_guestsOn_24 : decode cX7_guestsOn 24 = .ok (.iload_n 1, 1) := by decide +kernel
theorem dX7_guestsOn_25 : decode cX7_guestsOn 25 = .ok (.bipush 47, 2) := by decide +kernel
theorem dX7_guestsOn_27 : decode cX7_guestsOn 27 = .ok (.iadd, 1) := by decide +kernel
theorem dX7_guestsOn_28 : decode cX7_guestsOn 28 = .ok (.iload 4, 2) := by decide +kernel
theorem dX7_guestsOn_30 : decode cX7_guestsOn 30 = .ok (.iadd, 1) := by decide +kernel
theorem dX7_guestsOn_31 : decode cX7_guestsOn 31 = .ok (.iaload, 1) := by decide +kernel
theorem dX7_guestsOn_32 : decode cX7_guestsOn 32 = .ok (.iload_n 2, 1) := by decide +kernel
theorem dX7_guestsOn_33 : decode cX7_guestsOn 33 = .ok (.if_icmp .ne 10, 3) := by decide +kernel
theorem dX7_guestsOn_36 : decode cX7_guestsOn 36 = .ok (.iconst 1, 1) := by decide +kernel
theorem dX7_guestsOn_37 : decode cX7_guestsOn 37 = .ok (.iload 4, 2) := by decide +kernel
theorem dX7_guestsOn_39 : decode cX7_guestsOn 39 = .ok (.ishl, 1) := by decide +kernel
theorem dX7_guestsOn_40 : decode cX7_guestsOn 40 = .ok (.goto 4, 3) := by decide +kernel
theorem dX7_guestsOn_43 : decode cX7_guestsOn 43 = .ok (.iconst 0, 1) := by decide +kernel
theorem dX7_guestsOn_44 : decode cX7_guestsOn 44 = .ok (.ior, 1) := by decide +kernel
theorem dX7_guestsOn_45 : decode cX7_guestsOn 45 = .ok (.istore_n 3, 1) := by decide +kernel
theorem dX7_guestsOn_46 : decode cX7_guestsOn 46 = .ok (.iinc 4 1, 3) := by decide +kernel
theorem dX7_guestsOn_49 : decode cX7_guestsOn 49 = .ok (.goto (-44), 3) := by decide +kernel
theorem dX7_guestsOn_52 : decode cX7_guestsOn 52 = .ok (.iload_n 3, 1) := by decide +kernel
theorem dX7_guestsOn_53 : decode cX7_guestsOn 53 = .ok (.ireturn, 1) := by decide +kernel
theorem dX7_bitsOf_0 : decode cX7_bitsOf 0 = .ok (.iconst 0, 1) := by decide +kernel
theorem dX7_bitsOf_1 : decode cX7_bitsOf 1 = .ok (.istore_n 1, 1) := by decide +kernel
theorem dX7_bitsOf_2 : decode cX7_bitsOf 2 = .ok (.iload_n 0, 1) := by decide +kernel
theorem dX7_bitsOf_3 : decode cX7_bitsOf 3 = .ok (.istore_n 2, 1) := by decide +kernel
theorem dX7_bitsOf_4 : decode cX7_bitsOf 4 = .ok (.iload_n 2, 1) := by decide +kernel
theorem dX7_bitsOf_5 : decode cX7_bitsOf 5 = .ok (.ifCond .le 16, 3) := by decide +kernel
theorem dX7_bitsOf_8 : decode cX7_bitsOf 8 = .ok (.iload_n 1, 1) := by decide +kernel
theorem dX7_bitsOf_9 : decode cX7_bitsOf 9 = .ok (.iload_n 2, 1) := by decide +kernel
theorem dX7_bitsOf_10 : decode cX7_bitsOf 10 = .ok (.iconst 1, 1) := by decide +kernel
theorem dX7_bitsOf_11 : decode cX7_bitsOf 11 = .ok (.iand, 1) := by decide +kernel
theorem dX7_bitsOf_12 : decode cX7_bitsOf 12 = .ok (.iadd, 1) := by decide +kernel
theorem dX7_bitsOf_13 : decode cX7_bitsOf 13 = .ok (.istore_n 1, 1) := by decide +kernel
theorem dX7_bitsOf_14 : decode cX7_bitsOf 14 = .ok (.iload_n 2, 1) := by decide +kernel
theorem dX7_bitsOf_15 : decode cX7_bitsOf 15 = .ok (.iconst 1, 1) := by decide +kernel
theorem dX7_bitsOf_16 : decode cX7_bitsOf 16 = .ok (.ishr, 1) := by decide +kernel
theorem dX7_bitsOf_17 : decode cX7_bitsOf 17 = .ok (.istore_n 2, 1) := by decide +kernel
theorem dX7_bitsOf_18 : decode cX7_bitsOf 18 = .ok (.goto (-14), 3) := by decide +kernel
theorem dX7_bitsOf_21 : decode cX7_bitsOf 21 = .ok (.iload_n 1, 1) := by decide +kernel
theorem dX7_bitsOf_22 : decode cX7_bitsOf 22 = .ok (.ireturn, 1) := by decide +kernel
theorem dX7_lastOn_0 : decode cX7_lastOn 0 = .ok (.aload_n 0, 1) := by decide +kernel
theorem dX7_lastOn_1 : decode cX7_lastOn 1 = .ok (.getfield 7, 3) := by decide +kernel
theorem dX7_lastOn_4 : decode cX7_lastOn 4 = .ok (.iload_n 1, 1) := by decide +kernel
theorem dX7_lastOn_5 : decode cX7_lastOn 5 = .ok (.bipush 38, 2) := by decide +kernel
theorem dX7_lastOn_7 : decode cX7_lastOn 7 = .ok (.iadd, 1) := by decide +kernel
theorem dX7_lastOn_8 : decode cX7_lastOn 8 = .ok (.iaload, 1) := by decide +kernel
theorem dX7_lastOn_9 : decode cX7_lastOn 9 = .ok (.ifCond .ne 8, 3) := by decide +kernel
theorem dX7_lastOn_12 : decode cX7_lastOn 12 = .ok (.bipush (-4), 2) := by decide +kernel
theorem dX7_lastOn_14 : decode cX7_lastOn 14 = .ok (.goto 14, 3) := by decide +kernel
theorem dX7_lastOn_17 : decode cX7_lastOn 17 = .ok (.aload_n 0, 1) := by decide +kernel
theorem dX7_lastOn_18 : decode cX7_lastOn 18 = .ok (.getfield 7, 3) := by decide +kernel
theorem dX7_lastOn_21 : decode cX7_lastOn 21 = .ok (.iload_n 1, 1) := by decide +kernel
theorem dX7_lastOn_22 : decode cX7_lastOn 22 = .ok (.bipush 38, 2) := by decide +kernel
theorem dX7_lastOn_24 : decode cX7_lastOn 24 = .ok (.iadd, 1) := by decide +kernel
theorem dX7_lastOn_25 : decode cX7_lastOn 25 = .ok (.iaload, 1) := by decide +kernel
theorem dX7_lastOn_26 : decode cX7_lastOn 26 = .ok (.iconst 1, 1) := by decide +kernel
theorem dX7_lastOn_27 : decode cX7_lastOn 27 = .ok (.isub, 1) := by decide +kernel
theorem dX7_lastOn_28 : decode cX7_lastOn 28 = .ok (.ireturn, 1) := by decide +kernel
set_option maxRecDepth 20000 in
theorem ggX7_rule_X7_standOn : GoodIn wsX7_rule wsX7_standOn := goodIn_r _ [6, 1, 18, 19, 20, 21, 22, 23, 24, 25, 26, 27, 28, 29, 30, 31, 32, 33, 34, 35, 36, 37, 38, 39, 40, 41, 42] (by decide +kernel) (by decide +kernel)
set_option maxRecDepth 20000 in
theorem gX7_rule_X7_standOn : GoodIn wsX7_rule (wsV RX7 156 RX7 yX7_standOn wsX7_standOn) := goodIn_app (goodIn_of _ (by decide +kernel)) ggX7_rule_X7_standOn
set_option maxRecDepth 20000 in
theorem ggX7_rule_X7_bitsOf : GoodIn wsX7_rule wsX7_bitsOf := goodIn_r _ [9] (by decide +kernel) (by decide +kernel)
set_option maxRecDepth 20000 in
theorem gX7_rule_X7_bitsOf : GoodIn wsX7_rule (va_wsS RX7 159 yX7_bitsOf wsX7_bitsOf) := goodIn_app (goodIn_of _ (by decide +kernel)) ggX7_rule_X7_bitsOf
set_option maxRecDepth 20000 in
theorem ggX7_rule_X7_guestsOn : GoodIn wsX7_rule wsX7_guestsOn := goodIn_r _ [13, 1, 18, 19, 20, 21, 22, 23, 24, 25, 26, 27, 28, 29, 30, 31, 32, 33, 34, 35, 36, 37, 38, 39, 40, 41, 42] (by decide +kernel) (by decide +kernel)
set_option maxRecDepth 20000 in
theorem gX7_rule_X7_guestsOn : GoodIn wsX7_rule (wsV RX7 162 RX7 yX7_guestsOn wsX7_guestsOn) := goodIn_app (goodIn_of _ (by decide +kernel)) ggX7_rule_X7_guestsOn
set_option maxRecDepth 20000 in
theorem ggX7_rule_X7_lastOn : GoodIn wsX7_rule wsX7_lastOn := goodIn_r _ [17, 1, 18, 19, 20, 21, 22, 23, 24, 25, 26, 27, 28, 29, 30, 31, 32, 33, 34, 35, 36, 37, 38, 39, 40, 41, 42] (by decide +kernel) (by decide +kernel)
set_option maxRecDepth 20000 in
theorem gX7_rule_X7_lastOn : GoodIn wsX7_rule (wsV RX7 165 RX7 yX7_lastOn wsX7_lastOn) := goodIn_app (goodIn_of _ (by decide +kernel)) ggX7_rule_X7_lastOn
theorem dX7_rule_0 : decode cX7_rule 0 = .ok (.iload_n 1, 1) := by decide +kernel
theorem dX7_rule_1 : decode cX7_rule 1 = .ok (.tableswitch 108 0 7 #[47, 55, 63, 71, 79, 88, 95, 102], 47) := by decide +kernel
theorem dX7_rule_48 : decode cX7_rule 48 = .ok (.aload_n 0, 1) := by decide +kernel
theorem dX7_rule_49 : decode cX7_rule 49 = .ok (.getfield 7, 3) := by decide +kernel
theorem dX7_rule_52 : decode cX7_rule 52 = .ok (.bipush 37, 2) := by decide +kernel
theorem dX7_rule_54 : decode cX7_rule 54 = .ok (.iaload, 1) := by decide +kernel
theorem dX7_rule_55 : decode cX7_rule 55 = .ok (.ireturn, 1) := by decide +kernel
theorem dX7_rule_56 : decode cX7_rule 56 = .ok (.aload_n 0, 1) := by decide +kernel
theorem dX7_rule_57 : decode cX7_rule 57 = .ok (.getfield 7, 3) := by decide +kernel
theorem dX7_rule_60 : decode cX7_rule 60 = .ok (.bipush 51, 2) := by decide +kernel
theorem dX7_rule_62 : decode cX7_rule 62 = .ok (.iaload, 1) := by decide +kernel
theorem dX7_rule_63 : decode cX7_rule 63 = .ok (.ireturn, 1) := by decide +kernel
theorem dX7_rule_64 : decode cX7_rule 64 = .ok (.aload_n 0, 1) := by decide +kernel
theorem dX7_rule_65 : decode cX7_rule 65 = .ok (.getfield 7, 3) := by decide +kernel
theorem dX7_rule_68 : decode cX7_rule 68 = .ok (.bipush 52, 2) := by decide +kernel
theorem dX7_rule_70 : decode cX7_rule 70 = .ok (.iaload, 1) := by decide +kernel
theorem dX7_rule_71 : decode cX7_rule 71 = .ok (.ireturn, 1) := by decide +kernel
theorem dX7_rule_72 : decode cX7_rule 72 = .ok (.aload_n 0, 1) := by decide +kernel
theorem dX7_rule_73 : decode cX7_rule 73 = .ok (.getfield 7, 3) := by decide +kernel
theorem dX7_rule_76 : decode cX7_rule 76 = .ok (.bipush 24, 2) := by decide +kernel
theorem dX7_rule_78 : decode cX7_rule 78 = .ok (.iaload, 1) := by decide +kernel
theorem dX7_rule_79 : decode cX7_rule 79 = .ok (.ireturn, 1) := by decide +kernel
theorem dX7_rule_80 : decode cX7_rule 80 = .ok (.aload_n 0, 1) := by decide +kernel
theorem dX7_rule_81 : decode cX7_rule 81 = .ok (.iconst 0, 1) := by decide +kernel
theorem dX7_rule_82 : decode cX7_rule 82 = .ok (.invokevirtual 156, 3) := by decide +kernel
theorem dX7_rule_85 : decode cX7_rule 85 = .ok (.invokestatic 159, 3) := by decide +kernel
theorem dX7_rule_88 : decode cX7_rule 88 = .ok (.ireturn, 1) := by decide +kernel
theorem dX7_rule_89 : decode cX7_rule 89 = .ok (.aload_n 0, 1) := by decide +kernel
theorem dX7_rule_90 : decode cX7_rule 90 = .ok (.iconst 0, 1) := by decide +kernel
theorem dX7_rule_91 : decode cX7_rule 91 = .ok (.iconst 1, 1) := by decide +kernel
theorem dX7_rule_92 : decode cX7_rule 92 = .ok (.invokevirtual 162, 3) := by decide +kernel
theorem dX7_rule_95 : decode cX7_rule 95 = .ok (.ireturn, 1) := by decide +kernel
theorem dX7_rule_96 : decode cX7_rule 96 = .ok (.aload_n 0, 1) := by decide +kernel
theorem dX7_rule_97 : decode cX7_rule 97 = .ok (.iconst 0, 1) := by decide +kernel
theorem dX7_rule_98 : decode cX7_rule 98 = .ok (.iconst 2, 1) := by decide +kernel
theorem dX7_rule_99 : decode cX7_rule 99 = .ok (.invokevirtual 162, 3) := by decide +kernel
theorem dX7_rule_102 : decode cX7_rule 102 = .ok (.ireturn, 1) := by decide +kernel
theorem dX7_rule_103 : decode cX7_rule 103 = .ok (.aload_n 0, 1) := by decide +kernel
theorem dX7_rule_104 : decode cX7_rule 104 = .ok (.iconst 0, 1) := by decide +kernel
theorem dX7_rule_105 : decode cX7_rule 105 = .ok (.invokevirtual 165, 3) := by decide +kernel
theorem dX7_rule_108 : decode cX7_rule 108 = .ok (.ireturn, 1) := by decide +kernel
theorem dX7_rule_109 : decode cX7_rule 109 = .ok (.iconst (-1), 1) := by decide +kernel
theorem dX7_rule_110 : decode cX7_rule 110 = .ok (.ireturn, 1) := by decide +kernel
set_option maxRecDepth 20000 in
theorem ggX7_hedge_X7_isHedge : GoodIn wsX7_hedge wsX7_isHedge := goodIn_r _ [5, 6, 7, 8, 4, 9] (by decide +kernel) (by decide +kernel)
set_option maxRecDepth 20000 in
theorem gX7_hedge_X7_isHedge : GoodIn wsX7_hedge (va_wsS RX7 168 yX7_isHedge wsX7_isHedge) := goodIn_app (goodIn_of _ (by decide +kernel)) ggX7_hedge_X7_isHedge
theorem dX7_hedge_0 : decode cX7_hedge 0 = .ok (.iload_n 1, 1) := by decide +kernel
theorem dX7_hedge_1 : decode cX7_hedge 1 = .ok (.invokestatic 168, 3) := by decide +kernel
theorem dX7_hedge_4 : decode cX7_hedge 4 = .ok (.ifCond .eq 12, 3) := by decide +kernel
theorem dX7_hedge_7 : decode cX7_hedge 7 = .ok (.aload_n 0, 1) := by decide +kernel
theorem dX7_hedge_8 : decode cX7_hedge 8 = .ok (.getfield 7, 3) := by decide +kernel
theorem dX7_hedge_11 : decode cX7_hedge 11 = .ok (.iload_n 1, 1) := by decide +kernel
theorem dX7_hedge_12 : decode cX7_hedge 12 = .ok (.iaload, 1) := by decide +kernel
theorem dX7_hedge_13 : decode cX7_hedge 13 = .ok (.goto 4, 3) := by decide +kernel
theorem dX7_hedge_16 : decode cX7_hedge 16 = .ok (.iconst (-1), 1) := by decide +kernel
theorem dX7_hedge_17 : decode cX7_hedge 17 = .ok (.ireturn, 1) := by decide +kernel
set_option maxRecDepth 20000 in
theorem ggX7_gardener_X7_isGardener : GoodIn wsX7_gardener wsX7_isGardener := goodIn_r _ [7, 2, 8, 9, 6, 10, 15, 16, 17, 18, 19, 20, 21, 22, 23, 24, 25, 26, 27, 28, 29, 30, 31, 32, 33, 34, 35, 36, 37, 38, 39] (by decide +kernel) (by decide +kernel)
set_option maxRecDepth 20000 in
theorem gX7_gardener_X7_isGardener : GoodIn wsX7_gardener (wsV RX7 172 RX7 yX7_isGardener wsX7_isGardener) := goodIn_app (goodIn_of _ (by decide +kernel)) ggX7_gardener_X7_isGardener
set_option maxRecDepth 20000 in
theorem ggX7_gardener_X7_in : GoodIn wsX7_gardener wsX7_in := goodIn_r _ [10] (by decide +kernel) (by decide +kernel)
set_option maxRecDepth 20000 in
theorem gX7_gardener_X7_in : GoodIn wsX7_gardener (va_wsS RX7 53 yX7_in wsX7_in) := goodIn_app (goodIn_of _ (by decide +kernel)) ggX7_gardener_X7_in
set_option maxRecDepth 20000 in
theorem ggX7_gardener_X7_goalOn : GoodIn wsX7_gardener wsX7_goalOn := goodIn_r _ [14, 2, 15, 16, 17, 18, 19, 20, 21, 22, 23, 24, 25, 26, 27, 28, 29, 30, 31, 32, 33, 34, 35, 36, 37, 38, 39] (by decide +kernel) (by decide +kernel)
set_option maxRecDepth 20000 in
theorem gX7_gardener_X7_goalOn : GoodIn wsX7_gardener (wsV RX7 140 RX7 yX7_goalOn wsX7_goalOn) := goodIn_app (goodIn_of _ (by decide +kernel)) ggX7_gardener_X7_goalOn
theorem dX7_gardener_0 : decode cX7_gardener 0 = .ok (.aload_n 0, 1) := by decide +kernel
theorem dX7_gardener_1 : decode cX7_gardener 1 = .ok (.iload_n 1, 1) := by decide +kernel
theorem dX7_gardener_2 : decode cX7_gardener 2 = .ok (.invokevirtual 172, 3) := by decide +kernel
theorem dX7_gardener_5 : decode cX7_gardener 5 = .ok (.ifCond .eq 15, 3) := by decide +kernel
theorem dX7_gardener_8 : decode cX7_gardener 8 = .ok (.iload_n 2, 1) := by decide +kernel
theorem dX7_gardener_9 : decode cX7_gardener 9 = .ok (.i2l, 1) := by decide +kernel
theorem dX7_gardener_10 : decode cX7_gardener 10 = .ok (.lconst 0, 1) := by decide +kernel
theorem dX7_gardener_11 : decode cX7_gardener 11 = .ok (.ldc2_w 175, 3) := by decide +kernel
theorem dX7_gardener_14 : decode cX7_gardener 14 = .ok (.invokestatic 53, 3) := by decide +kernel
theorem dX7_gardener_17 : decode cX7_gardener 17 = .ok (.ifCond .ne 5, 3) := by decide +kernel
theorem dX7_gardener_20 : decode cX7_gardener 20 = .ok (.iconst (-1), 1) := by decide +kernel
theorem dX7_gardener_21 : decode cX7_gardener 21 = .ok (.ireturn, 1) := by decide +kernel
theorem dX7_gardener_22 : decode cX7_gardener 22 = .ok (.iload_n 2, 1) := by decide +kernel
theorem dX7_gardener_23 : decode cX7_gardener 23 = .ok (.iconst 3, 1) := by decide +kernel
theorem dX7_gardener_24 : decode cX7_gardener 24 = .ok (.if_icmp .ge 19, 3) := by decide +kernel
theorem dX7_gardener_27 : decode cX7_gardener 27 = .ok (.aload_n 0, 1) := by decide +kernel
theorem dX7_gardener_28 : decode cX7_gardener 28 = .ok (.getfield 7, 3) := by decide +kernel
theorem dX7_gardener_31 : decode cX7_gardener 31 = .ok (.bipush 25, 2) := by decide +kernel
theorem dX7_gardener_33 : decode cX7_gardener 33 = .ok (.iconst 4, 1) := by decide +kernel
theorem dX7_gardener_34 : decode cX7_gardener 34 = .ok (.iload_n 2, 1) := by decide +kernel
theorem dX7_gardener_35 : decode cX7_gardener 35 = .ok (.imul, 1) := by decide +kernel
theorem dX7_gardener_36 : decode cX7_gardener 36 = .ok (.iadd, 1) := by decide +kernel
theorem dX7_gardener_37 : decode cX7_gardener 37 = .ok (.iload_n 1, 1) := by decide +kernel
theorem dX7_gardener_38 : decode cX7_gardener 38 = .ok (.iadd, 1) := by decide +kernel
theorem dX7_gardener_39 : decode cX7_gardener 39 = .ok (.iaload, 1) := by decide +kernel
theorem dX7_gardener_40 : decode cX7_gardener 40 = .ok (.goto 9, 3) := by decide +kernel
theorem dX7_gardener_43 : decode cX7_gardener 43 = .ok (.aload_n 0, 1) := by decide +kernel
theorem dX7_gardener_44 : decode cX7_gardener 44 = .ok (.iconst 0, 1) := by decide +kernel
theorem dX7_gardener_45 : decode cX7_gardener 45 = .ok (.iload_n 1, 1) := by decide +kernel
theorem dX7_gardener_46 : decode cX7_gardener 46 = .ok (.invokevirtual 140, 3) := by decide +kernel
theorem dX7_gardener_49 : decode cX7_gardener 49 = .ok (.ireturn, 1) := by decide +kernel
set_option maxRecDepth 20000 in
theorem ggX7_guest_X7_isGuest : GoodIn wsX7_guest wsX7_isGuest := goodIn_r _ [7, 2, 8, 9, 6, 10, 11, 12, 13, 14, 15, 16, 17, 18, 19, 20, 21, 22, 23, 24, 25, 26, 27, 28, 29, 30, 31, 32, 33, 34, 35] (by decide +kernel) (by decide +kernel)
set_option maxRecDepth 20000 in
theorem gX7_guest_X7_isGuest : GoodIn wsX7_guest (wsV RX7 177 RX7 yX7_isGuest wsX7_isGuest) := goodIn_app (goodIn_of _ (by decide +kernel)) ggX7_guest_X7_isGuest
set_option maxRecDepth 20000 in
theorem ggX7_guest_X7_in : GoodIn wsX7_guest wsX7_in := goodIn_r _ [10] (by decide +kernel) (by decide +kernel)
set_option maxRecDepth 20000 in
theorem gX7_guest_X7_in : GoodIn wsX7_guest (va_wsS RX7 53 yX7_in wsX7_in) := goodIn_app (goodIn_of _ (by decide +kernel)) ggX7_guest_X7_in
theorem dX7_guest_0 : decode cX7_guest 0 = .ok (.aload_n 0, 1) := by decide +kernel
theorem dX7_guest_1 : decode cX7_guest 1 = .ok (.iload_n 1, 1) := by decide +kernel
theorem dX7_guest_2 : decode cX7_guest 2 = .ok (.invokevirtual 177, 3) := by decide +kernel
theorem dX7_guest_5 : decode cX7_guest 5 = .ok (.ifCond .eq 31, 3) := by decide +kernel
theorem dX7_guest_8 : decode cX7_guest 8 = .ok (.iload_n 2, 1) := by decide +kernel
theorem dX7_guest_9 : decode cX7_guest 9 = .ok (.i2l, 1) := by decide +kernel
theorem dX7_guest_10 : decode cX7_guest 10 = .ok (.lconst 0, 1) := by decide +kernel
theorem dX7_guest_11 : decode cX7_guest 11 = .ok (.ldc2_w 180, 3) := by decide +kernel
theorem dX7_guest_14 : decode cX7_guest 14 = .ok (.invokestatic 53, 3) := by decide +kernel
theorem dX7_guest_17 : decode cX7_guest 17 = .ok (.ifCond .eq 19, 3) := by decide +kernel
theorem dX7_guest_20 : decode cX7_guest 20 = .ok (.aload_n 0, 1) := by decide +kernel
theorem dX7_guest_21 : decode cX7_guest 21 = .ok (.getfield 7, 3) := by decide +kernel
theorem dX7_guest_24 : decode cX7_guest 24 = .ok (.bipush 39, 2) := by decide +kernel
theorem dX7_guest_26 : decode cX7_guest 26 = .ok (.iconst 4, 1) := by decide +kernel
theorem dX7_guest_27 : decode cX7_guest 27 = .ok (.iload_n 2, 1) := by decide +kernel
theorem dX7_guest_28 : decode cX7_guest 28 = .ok (.imul, 1) := by decide +kernel
theorem dX7_guest_29 : decode cX7_guest 29 = .ok (.iadd, 1) := by decide +kernel
theorem dX7_guest_30 : decode cX7_guest 30 = .ok (.iload_n 1, 1) := by decide +kernel
theorem dX7_guest_31 : decode cX7_guest 31 = .ok (.iadd, 1) := by decide +kernel
theorem dX7_guest_32 : decode cX7_guest 32 = .ok (.iaload, 1) := by decide +kernel
theorem dX7_guest_33 : decode cX7_guest 33 = .ok (.goto 4, 3) := by decide +kernel
theorem dX7_guest_36 : decode cX7_guest 36 = .ok (.iconst (-1), 1) := by decide +kernel
theorem dX7_guest_37 : decode cX7_guest 37 = .ok (.ireturn, 1) := by decide +kernel
set_option maxRecDepth 20000 in
theorem ggX7_way_X7_isPlot : GoodIn wsX7_way wsX7_isPlot := goodIn_r _ [5, 6, 7, 8, 4, 9] (by decide +kernel) (by decide +kernel)
set_option maxRecDepth 20000 in
theorem gX7_way_X7_isPlot : GoodIn wsX7_way (va_wsS RX7 182 yX7_isPlot wsX7_isPlot) := goodIn_app (goodIn_of _ (by decide +kernel)) ggX7_way_X7_isPlot
set_option maxRecDepth 20000 in
theorem ggX7_way_X7_stepsOn : GoodIn wsX7_way wsX7_stepsOn := goodIn_r _ [13, 1, 14, 15, 16, 4, 17, 18, 19, 20, 21, 22, 23, 24, 25, 26, 27, 28, 29, 30, 31, 32, 33, 34, 35, 36, 37, 38, 39, 40, 41, 42, 43, 44, 45, 46] (by decide +kernel) (by decide +kernel)
set_option maxRecDepth 20000 in
theorem gX7_way_X7_stepsOn : GoodIn wsX7_way (wsV RX7 150 RX7 yX7_stepsOn wsX7_stepsOn) := goodIn_app (goodIn_of _ (by decide +kernel)) ggX7_way_X7_stepsOn
theorem dX7_way_0 : decode cX7_way 0 = .ok (.iload_n 1, 1) := by decide +kernel
theorem dX7_way_1 : decode cX7_way 1 = .ok (.invokestatic 182, 3) := by decide +kernel
theorem dX7_way_4 : decode cX7_way 4 = .ok (.ifCond .eq 10, 3) := by decide +kernel
theorem dX7_way_7 : decode cX7_way 7 = .ok (.iload_n 2, 1) := by decide +kernel
theorem dX7_way_8 : decode cX7_way 8 = .ok (.invokestatic 182, 3) := by decide +kernel
theorem dX7_way_11 : decode cX7_way 11 = .ok (.ifCond .ne 5, 3) := by decide +kernel
theorem dX7_way_14 : decode cX7_way 14 = .ok (.iconst (-1), 1) := by decide +kernel
theorem dX7_way_15 : decode cX7_way 15 = .ok (.ireturn, 1) := by decide +kernel
theorem dX7_way_16 : decode cX7_way 16 = .ok (.aload_n 0, 1) := by decide +kernel
theorem dX7_way_17 : decode cX7_way 17 = .ok (.iconst 0, 1) := by decide +kernel
theorem dX7_way_18 : decode cX7_way 18 = .ok (.iload_n 2, 1) := by decide +kernel
theorem dX7_way_19 : decode cX7_way 19 = .ok (.invokevirtual 150, 3) := by decide +kernel
theorem dX7_way_22 : decode cX7_way 22 = .ok (.aload_n 0, 1) := by decide +kernel
theorem dX7_way_23 : decode cX7_way 23 = .ok (.getfield 25, 3) := by decide +kernel
theorem dX7_way_26 : decode cX7_way 26 = .ok (.iload_n 1, 1) := by decide +kernel
theorem dX7_way_27 : decode cX7_way 27 = .ok (.iaload, 1) := by decide +kernel
theorem dX7_way_28 : decode cX7_way 28 = .ok (.bipush 99, 2) := by decide +kernel
theorem dX7_way_30 : decode cX7_way 30 = .ok (.if_icmp .ge 12, 3) := by decide +kernel
theorem dX7_way_33 : decode cX7_way 33 = .ok (.aload_n 0, 1) := by decide +kernel
theorem dX7_way_34 : decode cX7_way 34 = .ok (.getfield 25, 3) := by decide +kernel
theorem dX7_way_37 : decode cX7_way 37 = .ok (.iload_n 1, 1) := by decide +kernel
theorem dX7_way_38 : decode cX7_way 38 = .ok (.iaload, 1) := by decide +kernel
theorem dX7_way_39 : decode cX7_way 39 = .ok (.goto 5, 3) := by decide +kernel
theorem dX7_way_42 : decode cX7_way 42 = .ok (.bipush (-4), 2) := by decide +kernel
theorem dX7_way_44 : decode cX7_way 44 = .ok (.ireturn, 1) := by decide +kernel
set_option maxRecDepth 20000 in
theorem ggX7_turn_X7_isPlot : GoodIn wsX7_turn wsX7_isPlot := goodIn_r _ [5, 6, 7, 8, 4, 9] (by decide +kernel) (by decide +kernel)
set_option maxRecDepth 20000 in
theorem gX7_turn_X7_isPlot : GoodIn wsX7_turn (va_wsS RX7 182 yX7_isPlot wsX7_isPlot) := goodIn_app (goodIn_of _ (by decide +kernel)) ggX7_turn_X7_isPlot
set_option maxRecDepth 20000 in
theorem ggX7_turn_X7_stepsOn : GoodIn wsX7_turn wsX7_stepsOn := goodIn_r _ [13, 14, 15, 16, 17, 4, 18, 1, 19, 20, 21, 26, 27, 28, 29, 30, 31, 32, 33, 34, 35, 36, 37, 38, 39, 40, 41, 42, 43, 44, 45, 46, 47, 48, 49, 50] (by decide +kernel) (by decide +kernel)
set_option maxRecDepth 20000 in
theorem gX7_turn_X7_stepsOn : GoodIn wsX7_turn (wsV RX7 150 RX7 yX7_stepsOn wsX7_stepsOn) := goodIn_app (goodIn_of _ (by decide +kernel)) ggX7_turn_X7_stepsOn
set_option maxRecDepth 20000 in
theorem ggX7_turn_X7_turnOn : GoodIn wsX7_turn wsX7_turnOn := goodIn_r _ [25, 14, 15, 16, 17, 4, 18, 1, 19, 20, 21, 26, 27, 28, 29, 30, 31, 32, 33, 34, 35, 36, 37, 38, 39, 40, 41, 42, 43, 44, 45, 46, 47, 48, 49, 50] (by decide +kernel) (by decide +kernel)
set_option maxRecDepth 20000 in
theorem gX7_turn_X7_turnOn : GoodIn wsX7_turn (wsV RX7 143 RX7 yX7_turnOn wsX7_turnOn) := goodIn_app (goodIn_of _ (by decide +kernel)) ggX7_turn_X7_turnOn
theorem dX7_turn_0 : decode cX7_turn 0 = .ok (.iload_n 1, 1) := by decide +kernel
theorem dX7_turn_1 : decode cX7_turn 1 = .ok (.invokestatic 182, 3) := by decide +kernel
theorem dX7_turn_4 : decode cX7_turn 4 = .ok (.ifCond .ne 5, 3) := by decide +kernel
theorem dX7_turn_7 : decode cX7_turn 7 = .ok (.iconst (-1), 1) := by decide +kernel
theorem dX7_turn_8 : decode cX7_turn 8 = .ok (.ireturn, 1) := by decide +kernel
theorem dX7_turn_9 : decode cX7_turn 9 = .ok (.aload_n 0, 1) := by decide +kernel
theorem dX7_turn_10 : decode cX7_turn 10 = .ok (.iconst 0, 1) := by decide +kernel
theorem dX7_turn_11 : decode cX7_turn 11 = .ok (.aload_n 0, 1) := by decide +kernel
theorem dX7_turn_12 : decode cX7_turn 12 = .ok (.getfield 7, 3) := by decide +kernel
theorem dX7_turn_15 : decode cX7_turn 15 = .ok (.bipush 24, 2) := by decide +kernel
theorem dX7_turn_17 : decode cX7_turn 17 = .ok (.iaload, 1) := by decide +kernel
theorem dX7_turn_18 : decode cX7_turn 18 = .ok (.invokevirtual 150, 3) := by decide +kernel
theorem dX7_turn_21 : decode cX7_turn 21 = .ok (.aload_n 0, 1) := by decide +kernel
theorem dX7_turn_22 : decode cX7_turn 22 = .ok (.iconst 0, 1) := by decide +kernel
theorem dX7_turn_23 : decode cX7_turn 23 = .ok (.iload_n 1, 1) := by decide +kernel
theorem dX7_turn_24 : decode cX7_turn 24 = .ok (.invokevirtual 143, 3) := by decide +kernel
theorem dX7_turn_27 : decode cX7_turn 27 = .ok (.ireturn, 1) := by decide +kernel
theorem dX7_puts_0 : decode cX7_puts 0 = .ok (.iload_n 1, 1) := by decide +kernel
theorem dX7_puts_1 : decode cX7_puts 1 = .ok (.ifCond .ne 5, 3) := by decide +kernel
theorem dX7_puts_4 : decode cX7_puts 4 = .ok (.iconst (-1), 1) := by decide +kernel
theorem dX7_puts_5 : decode cX7_puts 5 = .ok (.ireturn, 1) := by decide +kernel
theorem dX7_puts_6 : decode cX7_puts 6 = .ok (.aload_n 0, 1) := by decide +kernel
theorem dX7_puts_7 : decode cX7_puts 7 = .ok (.getfield 7, 3) := by decide +kernel
theorem dX7_puts_10 : decode cX7_puts 10 = .ok (.iload_n 2, 1) := by decide +kernel
theorem dX7_puts_11 : decode cX7_puts 11 = .ok (.iaload, 1) := by decide +kernel
theorem dX7_puts_12 : decode cX7_puts 12 = .ok (.istore 4, 2) := by decide +kernel
theorem dX7_puts_14 : decode cX7_puts 14 = .ok (.aload_n 0, 1) := by decide +kernel
theorem dX7_puts_15 : decode cX7_puts 15 = .ok (.getfield 7, 3) := by decide +kernel
theorem dX7_puts_18 : decode cX7_puts 18 = .ok (.iload_n 2, 1) := by decide +kernel
theorem dX7_puts_19 : decode cX7_puts 19 = .ok (.iload_n 3, 1) := by decide +kernel
theorem dX7_puts_20 : decode cX7_puts 20 = .ok (.iastore, 1) := by decide +kernel
theorem dX7_puts_21 : decode cX7_puts 21 = .ok (.iload 4, 2) := by decide +kernel
theorem dX7_puts_23 : decode cX7_puts 23 = .ok (.ireturn, 1) := by decide +kernel
set_option maxRecDepth 20000 in
theorem ggX7_grows_X7_isHedge : GoodIn wsX7_grows wsX7_isHedge := goodIn_r _ [4, 5, 6, 7, 3, 8] (by decide +kernel) (by decide +kernel)
set_option maxRecDepth 20000 in
theorem gX7_grows_X7_isHedge : GoodIn wsX7_grows (va_wsS RX7 168 yX7_isHedge wsX7_isHedge) := goodIn_app (goodIn_of _ (by decide +kernel)) ggX7_grows_X7_isHedge
set_option maxRecDepth 20000 in
theorem ggX7_grows_X7_in : GoodIn wsX7_grows wsX7_in := goodIn_r _ [8] (by decide +kernel) (by decide +kernel)
set_option maxRecDepth 20000 in
theorem gX7_grows_X7_in : GoodIn wsX7_grows (va_wsS RX7 53 yX7_in wsX7_in) := goodIn_app (goodIn_of _ (by decide +kernel)) ggX7_grows_X7_in
set_option maxRecDepth 20000 in
theorem ggX7_grows_X7_puts : GoodIn wsX7_grows wsX7_puts := goodIn_r _ [12, 13, 14, 15, 16, 17, 18, 19, 20, 21, 22, 23, 24, 25, 26, 27, 28, 29, 30, 31, 32, 33, 34, 35, 36, 37, 38] (by decide +kernel) (by decide +kernel)
set_option maxRecDepth 20000 in
theorem gX7_grows_X7_puts : GoodIn wsX7_grows (wsV RX7 185 RX7 yX7_puts wsX7_puts) := goodIn_app (goodIn_of _ (by decide +kernel)) ggX7_grows_X7_puts
theorem dX7_grows_0 : decode cX7_grows 0 = .ok (.aload_n 0, 1) := by decide +kernel
theorem dX7_grows_1 : decode cX7_grows 1 = .ok (.iload_n 1, 1) := by decide +kernel
theorem dX7_grows_2 : decode cX7_grows 2 = .ok (.invokestatic 168, 3) := by decide +kernel
theorem dX7_grows_5 : decode cX7_grows 5 = .ok (.ifCond .eq 17, 3) := by decide +kernel
theorem dX7_grows_8 : decode cX7_grows 8 = .ok (.iload_n 2, 1) := by decide +kernel
theorem dX7_grows_9 : decode cX7_grows 9 = .ok (.i2l, 1) := by decide +kernel
theorem dX7_grows_10 : decode cX7_grows 10 = .ok (.lconst 0, 1) := by decide +kernel
theorem dX7_grows_11 : decode cX7_grows 11 = .ok (.lconst 1, 1) := by decide +kernel
theorem dX7_grows_12 : decode cX7_grows 12 = .ok (.invokestatic 53, 3) := by decide +kernel
theorem dX7_grows_15 : decode cX7_grows 15 = .ok (.ifCond .eq 7, 3) := by decide +kernel
theorem dX7_grows_18 : decode cX7_grows 18 = .ok (.iconst 1, 1) := by decide +kernel
theorem dX7_grows_19 : decode cX7_grows 19 = .ok (.goto 4, 3) := by decide +kernel
theorem dX7_grows_22 : decode cX7_grows 22 = .ok (.iconst 0, 1) := by decide +kernel
theorem dX7_grows_23 : decode cX7_grows 23 = .ok (.iload_n 1, 1) := by decide +kernel
theorem dX7_grows_24 : decode cX7_grows 24 = .ok (.iload_n 2, 1) := by decide +kernel
theorem dX7_grows_25 : decode cX7_grows 25 = .ok (.invokevirtual 185, 3) := by decide +kernel
theorem dX7_grows_28 : decode cX7_grows 28 = .ok (.ireturn, 1) := by decide +kernel
set_option maxRecDepth 20000 in
theorem ggX7_grow_X7_grows : GoodIn wsX7_grow wsX7_grows := goodIn_r _ [5, 6, 7, 4, 8, 9, 10, 11, 12, 13, 14, 15, 16, 17, 18, 19, 20, 21, 22, 23, 24, 25, 26, 27, 28, 29, 30, 31, 32, 33, 34, 35, 36, 37, 38, 39, 40, 41, 42] (by decide +kernel) (by decide +kernel)
set_option maxRecDepth 20000 in
theorem gX7_grow_X7_grows : GoodIn wsX7_grow (wsV RX7 189 RX7 yX7_grows wsX7_grows) := goodIn_app (goodIn_of _ (by decide +kernel)) ggX7_grow_X7_grows
theorem dX7_grow_0 : decode cX7_grow 0 = .ok (.aload_n 0, 1) := by decide +kernel
theorem dX7_grow_1 : decode cX7_grow 1 = .ok (.iload_n 1, 1) := by decide +kernel
theorem dX7_grow_2 : decode cX7_grow 2 = .ok (.iload_n 2, 1) := by decide +kernel
theorem dX7_grow_3 : decode cX7_grow 3 = .ok (.invokevirtual 189, 3) := by decide +kernel
theorem dX7_grow_6 : decode cX7_grow 6 = .ok (.ireturn, 1) := by decide +kernel
set_option maxRecDepth 20000 in
theorem ggX7_alter_X7_isGardener : GoodIn wsX7_alter wsX7_isGardener := goodIn_r _ [6, 7, 8, 9, 5, 10, 15, 16, 17, 18, 19, 20, 21, 22, 23, 24, 25, 26, 27, 28, 29, 30, 31, 32, 33, 34, 35, 36, 37, 38, 39] (by decide +kernel) (by decide +kernel)
set_option maxRecDepth 20000 in
theorem gX7_alter_X7_isGardener : GoodIn wsX7_alter (wsV RX7 172 RX7 yX7_isGardener wsX7_isGardener) := goodIn_app (goodIn_of _ (by decide +kernel)) ggX7_alter_X7_isGardener
set_option maxRecDepth 20000 in
theorem ggX7_alter_X7_in : GoodIn wsX7_alter wsX7_in := goodIn_r _ [10] (by decide +kernel) (by decide +kernel)
set_option maxRecDepth 20000 in
theorem gX7_alter_X7_in : GoodIn wsX7_alter (va_wsS RX7 53 yX7_in wsX7_in) := goodIn_app (goodIn_of _ (by decide +kernel)) ggX7_alter_X7_in
set_option maxRecDepth 20000 in
theorem ggX7_alter_X7_puts : GoodIn wsX7_alter wsX7_puts := goodIn_r _ [14, 7, 15, 16, 17, 18, 19, 20, 21, 22, 23, 24, 25, 26, 27, 28, 29, 30, 31, 32, 33, 34, 35, 36, 37, 38, 39] (by decide +kernel) (by decide +kernel)
set_option maxRecDepth 20000 in
theorem gX7_alter_X7_puts : GoodIn wsX7_alter (wsV RX7 185 RX7 yX7_puts wsX7_puts) := goodIn_app (goodIn_of _ (by decide +kernel)) ggX7_alter_X7_puts
theorem dX7_alter_0 : decode cX7_alter 0 = .ok (.iload_n 2, 1) := by decide +kernel
theorem dX7_alter_1 : decode cX7_alter 1 = .ok (.ifCond .ne 7, 3) := by decide +kernel
theorem dX7_alter_4 : decode cX7_alter 4 = .ok (.iconst 3, 1) := by decide +kernel
theorem dX7_alter_5 : decode cX7_alter 5 = .ok (.goto 15, 3) := by decide +kernel
theorem dX7_alter_8 : decode cX7_alter 8 = .ok (.iload_n 2, 1) := by decide +kernel
theorem dX7_alter_9 : decode cX7_alter 9 = .ok (.iconst 1, 1) := by decide +kernel
theorem dX7_alter_10 : decode cX7_alter 10 = .ok (.if_icmp .ne 8, 3) := by decide +kernel
theorem dX7_alter_13 : decode cX7_alter 13 = .ok (.bipush 23, 2) := by decide +kernel
theorem dX7_alter_15 : decode cX7_alter 15 = .ok (.goto 5, 3) := by decide +kernel
theorem dX7_alter_18 : decode cX7_alter 18 = .ok (.bipush 9, 2) := by decide +kernel
theorem dX7_alter_20 : decode cX7_alter 20 = .ok (.istore 4, 2) := by decide +kernel
theorem dX7_alter_22 : decode cX7_alter 22 = .ok (.aload_n 0, 1) := by decide +kernel
theorem dX7_alter_23 : decode cX7_alter 23 = .ok (.aload_n 0, 1) := by decide +kernel
theorem dX7_alter_24 : decode cX7_alter 24 = .ok (.iload_n 1, 1) := by decide +kernel
theorem dX7_alter_25 : decode cX7_alter 25 = .ok (.invokevirtual 172, 3) := by decide +kernel
theorem dX7_alter_28 : decode cX7_alter 28 = .ok (.ifCond .eq 31, 3) := by decide +kernel
theorem dX7_alter_31 : decode cX7_alter 31 = .ok (.iload_n 2, 1) := by decide +kernel
theorem dX7_alter_32 : decode cX7_alter 32 = .ok (.i2l, 1) := by decide +kernel
theorem dX7_alter_33 : decode cX7_alter 33 = .ok (.lconst 0, 1) := by decide +kernel
theorem dX7_alter_34 : decode cX7_alter 34 = .ok (.ldc2_w 180, 3) := by decide +kernel
theorem dX7_alter_37 : decode cX7_alter 37 = .ok (.invokestatic 53, 3) := by decide +kernel
theorem dX7_alter_40 : decode cX7_alter 40 = .ok (.ifCond .eq 19, 3) := by decide +kernel
theorem dX7_alter_43 : decode cX7_alter 43 = .ok (.iload_n 3, 1) := by decide +kernel
theorem dX7_alter_44 : decode cX7_alter 44 = .ok (.i2l, 1) := by decide +kernel
theorem dX7_alter_45 : decode cX7_alter 45 = .ok (.lconst 0, 1) := by decide +kernel
theorem dX7_alter_46 : decode cX7_alter 46 = .ok (.iload 4, 2) := by decide +kernel
theorem dX7_alter_48 : decode cX7_alter 48 = .ok (.i2l, 1) := by decide +kernel
theorem dX7_alter_49 : decode cX7_alter 49 = .ok (.invokestatic 53, 3) := by decide +kernel
theorem dX7_alter_52 : decode cX7_alter 52 = .ok (.ifCond .eq 7, 3) := by decide +kernel
theorem dX7_alter_55 : decode cX7_alter 55 = .ok (.iconst 1, 1) := by decide +kernel
theorem dX7_alter_56 : decode cX7_alter 56 = .ok (.goto 4, 3) := by decide +kernel
theorem dX7_alter_59 : decode cX7_alter 59 = .ok (.iconst 0, 1) := by decide +kernel
theorem dX7_alter_60 : decode cX7_alter 60 = .ok (.bipush 25, 2) := by decide +kernel
theorem dX7_alter_62 : decode cX7_alter 62 = .ok (.iconst 4, 1) := by decide +kernel
theorem dX7_alter_63 : decode cX7_alter 63 = .ok (.iload_n 2, 1) := by decide +kernel
theorem dX7_alter_64 : decode cX7_alter 64 = .ok (.imul, 1) := by decide +kernel
theorem dX7_alter_65 : decode cX7_alter 65 = .ok (.iadd, 1) := by decide +kernel
theorem dX7_alter_66 : decode cX7_alter 66 = .ok (.iload_n 1, 1) := by decide +kernel
theorem dX7_alter_67 : decode cX7_alter 67 = .ok (.iadd, 1) := by decide +kernel
theorem dX7_alter_68 : decode cX7_alter 68 = .ok (.iload_n 3, 1) := by decide +kernel
theorem dX7_alter_69 : decode cX7_alter 69 = .ok (.invokevirtual 185, 3) := by decide +kernel
theorem dX7_alter_72 : decode cX7_alter 72 = .ok (.ireturn, 1) := by decide +kernel
set_option maxRecDepth 20000 in
theorem ggX7_hire_X7_in : GoodIn wsX7_hire wsX7_in := goodIn_r _ [7] (by decide +kernel) (by decide +kernel)
set_option maxRecDepth 20000 in
theorem gX7_hire_X7_in : GoodIn wsX7_hire (va_wsS RX7 53 yX7_in wsX7_in) := goodIn_app (goodIn_of _ (by decide +kernel)) ggX7_hire_X7_in
set_option maxRecDepth 20000 in
theorem ggX7_hire_X7_isHedge : GoodIn wsX7_hire wsX7_isHedge := goodIn_r _ [10, 11, 4, 5, 6, 7] (by decide +kernel) (by decide +kernel)
set_option maxRecDepth 20000 in
theorem gX7_hire_X7_isHedge : GoodIn wsX7_hire (va_wsS RX7 168 yX7_isHedge wsX7_isHedge) := goodIn_app (goodIn_of _ (by decide +kernel)) ggX7_hire_X7_isHedge
theorem dX7_hire_0 : decode cX7_hire 0 = .ok (.iload_n 1, 1) := by decide +kernel
theorem dX7_hire_1 : decode cX7_hire 1 = .ok (.i2l, 1) := by decide +kernel
theorem dX7_hire_2 : decode cX7_hire 2 = .ok (.lconst 0, 1) := by decide +kernel
theorem dX7_hire_3 : decode cX7_hire 3 = .ok (.ldc2_w 175, 3) := by decide +kernel
theorem dX7_hire_6 : decode cX7_hire 6 = .ok (.invokestatic 53, 3) := by decide +kernel
theorem dX7_hire_9 : decode cX7_hire 9 = .ok (.ifCond .eq 22, 3) := by decide +kernel
theorem dX7_hire_12 : decode cX7_hire 12 = .ok (.iload_n 2, 1) := by decide +kernel
theorem dX7_hire_13 : decode cX7_hire 13 = .ok (.invokestatic 168, 3) := by decide +kernel
theorem dX7_hire_16 : decode cX7_hire 16 = .ok (.ifCond .eq 15, 3) := by decide +kernel
theorem dX7_hire_19 : decode cX7_hire 19 = .ok (.iload_n 3, 1) := by decide +kernel
theorem dX7_hire_20 : decode cX7_hire 20 = .ok (.i2l, 1) := by decide +kernel
theorem dX7_hire_21 : decode cX7_hire 21 = .ok (.lconst 0, 1) := by decide +kernel
theorem dX7_hire_22 : decode cX7_hire 22 = .ok (.ldc2_w 192, 3) := by decide +kernel
theorem dX7_hire_25 : decode cX7_hire 25 = .ok (.invokestatic 53, 3) := by decide +kernel
theorem dX7_hire_28 : decode cX7_hire 28 = .ok (.ifCond .ne 5, 3) := by decide +kernel
theorem dX7_hire_31 : decode cX7_hire 31 = .ok (.iconst (-1), 1) := by decide +kernel
theorem dX7_hire_32 : decode cX7_hire 32 = .ok (.ireturn, 1) := by decide +kernel
theorem dX7_hire_33 : decode cX7_hire 33 = .ok (.aload_n 0, 1) := by decide +kernel
theorem dX7_hire_34 : decode cX7_hire 34 = .ok (.getfield 7, 3) := by decide +kernel
theorem dX7_hire_37 : decode cX7_hire 37 = .ok (.bipush 37, 2) := by decide +kernel
theorem dX7_hire_39 : decode cX7_hire 39 = .ok (.iaload, 1) := by decide +kernel
theorem dX7_hire_40 : decode cX7_hire 40 = .ok (.istore 4, 2) := by decide +kernel
theorem dX7_hire_42 : decode cX7_hire 42 = .ok (.iload 4, 2) := by decide +kernel
theorem dX7_hire_44 : decode cX7_hire 44 = .ok (.iconst 4, 1) := by decide +kernel
theorem dX7_hire_45 : decode cX7_hire 45 = .ok (.if_icmp .ne 6, 3) := by decide +kernel
theorem dX7_hire_48 : decode cX7_hire 48 = .ok (.bipush (-3), 2) := by decide +kernel
theorem dX7_hire_50 : decode cX7_hire 50 = .ok (.ireturn, 1) := by decide +kernel
theorem dX7_hire_51 : decode cX7_hire 51 = .ok (.aload_n 0, 1) := by decide +kernel
theorem dX7_hire_52 : decode cX7_hire 52 = .ok (.getfield 7, 3) := by decide +kernel
theorem dX7_hire_55 : decode cX7_hire 55 = .ok (.bipush 25, 2) := by decide +kernel
theorem dX7_hire_57 : decode cX7_hire 57 = .ok (.iload 4, 2) := by decide +kernel
theorem dX7_hire_59 : decode cX7_hire 59 = .ok (.iadd, 1) := by decide +kernel
theorem dX7_hire_60 : decode cX7_hire 60 = .ok (.iload_n 1, 1) := by decide +kernel
theorem dX7_hire_61 : decode cX7_hire 61 = .ok (.iastore, 1) := by decide +kernel
theorem dX7_hire_62 : decode cX7_hire 62 = .ok (.aload_n 0, 1) := by decide +kernel
theorem dX7_hire_63 : decode cX7_hire 63 = .ok (.getfield 7, 3) := by decide +kernel
theorem dX7_hire_66 : decode cX7_hire 66 = .ok (.bipush 29, 2) := by decide +kernel
theorem dX7_hire_68 : decode cX7_hire 68 = .ok (.iload 4, 2) := by decide +kernel
theorem dX7_hire_70 : decode cX7_hire 70 = .ok (.iadd, 1) := by decide +kernel
theorem dX7_hire_71 : decode cX7_hire 71 = .ok (.iload_n 2, 1) := by decide +kernel
theorem dX7_hire_72 : decode cX7_hire 72 = .ok (.iastore, 1) := by decide +kernel
theorem dX7_hire_73 : decode cX7_hire 73 = .ok (.aload_n 0, 1) := by decide +kernel
theorem dX7_hire_74 : decode cX7_hire 74 = .ok (.getfield 7, 3) := by decide +kernel
theorem dX7_hire_77 : decode cX7_hire 77 = .ok (.bipush 33, 2) := by decide +kernel
theorem dX7_hire_79 : decode cX7_hire 79 = .ok (.iload 4, 2) := by decide +kernel
theorem dX7_hire_81 : decode cX7_hire 81 = .ok (.iadd, 1) := by decide +kernel
theorem dX7_hire_82 : decode cX7_hire 82 = .ok (.iload_n 3, 1) := by decide +kernel
theorem dX7_hire_83 : decode cX7_hire 83 = .ok (.iastore, 1) := by decide +kernel
theorem dX7_hire_84 : decode cX7_hire 84 = .ok (.aload_n 0, 1) := by decide +kernel
theorem dX7_hire_85 : decode cX7_hire 85 = .ok (.getfield 7, 3) := by decide +kernel
theorem dX7_hire_88 : decode cX7_hire 88 = .ok (.bipush 37, 2) := by decide +kernel
theorem dX7_hire_90 : decode cX7_hire 90 = .ok (.dup2, 1) := by decide +kernel
theorem dX7_hire_91 : decode cX7_hire 91 = .ok (.iaload, 1) := by decide +kernel
theorem dX7_hire_92 : decode cX7_hire 92 = .ok (.iconst 1, 1) := by decide +kernel
theorem dX7_hire_93 : decode cX7_hire 93 = .ok (.iadd, 1) := by decide +kernel
theorem dX7_hire_94 : decode cX7_hire 94 = .ok (.iastore, 1) := by decide +kernel
theorem dX7_hire_95 : decode cX7_hire 95 = .ok (.aload_n 0, 1) := by decide +kernel
theorem dX7_hire_96 : decode cX7_hire 96 = .ok (.getfield 7, 3) := by decide +kernel
theorem dX7_hire_99 : decode cX7_hire 99 = .ok (.bipush 37, 2) := by decide +kernel
theorem dX7_hire_101 : decode cX7_hire 101 = .ok (.iaload, 1) := by decide +kernel
theorem dX7_hire_102 : decode cX7_hire 102 = .ok (.ireturn, 1) := by decide +kernel
set_option maxRecDepth 20000 in
theorem ggX7_leave_X7_in : GoodIn wsX7_leave wsX7_in := goodIn_r _ [5] (by decide +kernel) (by decide +kernel)
set_option maxRecDepth 20000 in
theorem gX7_leave_X7_in : GoodIn wsX7_leave (va_wsS RX7 53 yX7_in wsX7_in) := goodIn_app (goodIn_of _ (by decide +kernel)) ggX7_leave_X7_in
set_option maxRecDepth 20000 in
theorem ggX7_leave_X7_puts : GoodIn wsX7_leave wsX7_puts := goodIn_r _ [9, 1, 10, 11, 12, 13, 14, 15, 16, 17, 18, 19, 20, 21, 22, 23, 24, 25, 26, 27, 28, 29, 30, 31, 32, 33, 34] (by decide +kernel) (by decide +kernel)
set_option maxRecDepth 20000 in
theorem gX7_leave_X7_puts : GoodIn wsX7_leave (wsV RX7 185 RX7 yX7_puts wsX7_puts) := goodIn_app (goodIn_of _ (by decide +kernel)) ggX7_leave_X7_puts
theorem dX7_leave_0 : decode cX7_leave 0 = .ok (.aload_n 0, 1) := by decide +kernel
theorem dX7_leave_1 : decode cX7_leave 1 = .ok (.iload_n 1, 1) := by decide +kernel
theorem dX7_leave_2 : decode cX7_leave 2 = .ok (.i2l, 1) := by decide +kernel
theorem dX7_leave_3 : decode cX7_leave 3 = .ok (.lconst 0, 1) := by decide +kernel
theorem dX7_leave_4 : decode cX7_leave 4 = .ok (.aload_n 0, 1) := by decide +kernel
theorem dX7_leave_5 : decode cX7_leave 5 = .ok (.getfield 7, 3) := by decide +kernel
theorem dX7_leave_8 : decode cX7_leave 8 = .ok (.bipush 37, 2) := by decide +kernel
theorem dX7_leave_10 : decode cX7_leave 10 = .ok (.iaload, 1) := by decide +kernel
theorem dX7_leave_11 : decode cX7_leave 11 = .ok (.i2l, 1) := by decide +kernel
theorem dX7_leave_12 : decode cX7_leave 12 = .ok (.invokestatic 53, 3) := by decide +kernel
theorem dX7_leave_15 : decode cX7_leave 15 = .ok (.bipush 37, 2) := by decide +kernel
theorem dX7_leave_17 : decode cX7_leave 17 = .ok (.iload_n 1, 1) := by decide +kernel
theorem dX7_leave_18 : decode cX7_leave 18 = .ok (.invokevirtual 185, 3) := by decide +kernel
theorem dX7_leave_21 : decode cX7_leave 21 = .ok (.ireturn, 1) := by decide +kernel
set_option maxRecDepth 20000 in
theorem ggX7_come_X7_isPlot : GoodIn wsX7_come wsX7_isPlot := goodIn_r _ [6, 7, 8, 9, 5, 10] (by decide +kernel) (by decide +kernel)
set_option maxRecDepth 20000 in
theorem gX7_come_X7_isPlot : GoodIn wsX7_come (va_wsS RX7 182 yX7_isPlot wsX7_isPlot) := goodIn_app (goodIn_of _ (by decide +kernel)) ggX7_come_X7_isPlot
set_option maxRecDepth 20000 in
theorem ggX7_come_X7_in : GoodIn wsX7_come wsX7_in := goodIn_r _ [10] (by decide +kernel) (by decide +kernel)
set_option maxRecDepth 20000 in
theorem gX7_come_X7_in : GoodIn wsX7_come (va_wsS RX7 53 yX7_in wsX7_in) := goodIn_app (goodIn_of _ (by decide +kernel)) ggX7_come_X7_in
theorem dX7_come_0 : decode cX7_come 0 = .ok (.iload_n 1, 1) := by decide +kernel
theorem dX7_come_1 : decode cX7_come 1 = .ok (.invokestatic 182, 3) := by decide +kernel
theorem dX7_come_4 : decode cX7_come 4 = .ok (.ifCond .eq 15, 3) := by decide +kernel
theorem dX7_come_7 : decode cX7_come 7 = .ok (.iload_n 2, 1) := by decide +kernel
theorem dX7_come_8 : decode cX7_come 8 = .ok (.i2l, 1) := by decide +kernel
theorem dX7_come_9 : decode cX7_come 9 = .ok (.lconst 0, 1) := by decide +kernel
theorem dX7_come_10 : decode cX7_come 10 = .ok (.ldc2_w 194, 3) := by decide +kernel
theorem dX7_come_13 : decode cX7_come 13 = .ok (.invokestatic 53, 3) := by decide +kernel
theorem dX7_come_16 : decode cX7_come 16 = .ok (.ifCond .ne 5, 3) := by decide +kernel
theorem dX7_come_19 : decode cX7_come 19 = .ok (.iconst (-1), 1) := by decide +kernel
theorem dX7_come_20 : decode cX7_come 20 = .ok (.ireturn, 1) := by decide +kernel
theorem dX7_come_21 : decode cX7_come 21 = .ok (.aload_n 0, 1) := by decide +kernel
theorem dX7_come_22 : decode cX7_come 22 = .ok (.getfield 7, 3) := by decide +kernel
theorem dX7_come_25 : decode cX7_come 25 = .ok (.bipush 51, 2) := by decide +kernel
theorem dX7_come_27 : decode cX7_come 27 = .ok (.iaload, 1) := by decide +kernel
theorem dX7_come_28 : decode cX7_come 28 = .ok (.istore_n 3, 1) := by decide +kernel
theorem dX7_come_29 : decode cX7_come 29 = .ok (.iload_n 3, 1) := by decide +kernel
theorem dX7_come_30 : decode cX7_come 30 = .ok (.iconst 4, 1) := by decide +kernel
theorem dX7_come_31 : decode cX7_come 31 = .ok (.if_icmp .ne 6, 3) := by decide +kernel
theorem dX7_come_34 : decode cX7_come 34 = .ok (.bipush (-3), 2) := by decide +kernel
theorem dX7_come_36 : decode cX7_come 36 = .ok (.ireturn, 1) := by decide +kernel
theorem dX7_come_37 : decode cX7_come 37 = .ok (.aload_n 0, 1) := by decide +kernel
theorem dX7_come_38 : decode cX7_come 38 = .ok (.getfield 7, 3) := by decide +kernel
theorem dX7_come_41 : decode cX7_come 41 = .ok (.bipush 39, 2) := by decide +kernel
theorem dX7_come_43 : decode cX7_come 43 = .ok (.iload_n 3, 1) := by decide +kernel
theorem dX7_come_44 : decode cX7_come 44 = .ok (.iadd, 1) := by decide +kernel
theorem dX7_come_45 : decode cX7_come 45 = .ok (.iload_n 1, 1) := by decide +kernel
theorem dX7_come_46 : decode cX7_come 46 = .ok (.iastore, 1) := by decide +kernel
theorem dX7_come_47 : decode cX7_come 47 = .ok (.aload_n 0, 1) := by decide +kernel
theorem dX7_come_48 : decode cX7_come 48 = .ok (.getfield 7, 3) := by decide +kernel
theorem dX7_come_51 : decode cX7_come 51 = .ok (.bipush 43, 2) := by decide +kernel
theorem dX7_come_53 : decode cX7_come 53 = .ok (.iload_n 3, 1) := by decide +kernel
theorem dX7_come_54 : decode cX7_come 54 = .ok (.iadd, 1) := by decide +kernel
theorem dX7_come_55 : decode cX7_come 55 = .ok (.iload_n 2, 1) := by decide +kernel
theorem dX7_come_56 : decode cX7_come 56 = .ok (.iastore, 1) := by decide +kernel
theorem dX7_come_57 : decode cX7_come 57 = .ok (.aload_n 0, 1) := by decide +kernel
theorem dX7_come_58 : decode cX7_come 58 = .ok (.getfield 7, 3) := by decide +kernel
theorem dX7_come_61 : decode cX7_come 61 = .ok (.bipush 47, 2) := by decide +kernel
theorem dX7_come_63 : decode cX7_come 63 = .ok (.iload_n 3, 1) := by decide +kernel
theorem dX7_come_64 : decode cX7_come 64 = .ok (.iadd, 1) := by decide +kernel
theorem dX7_come_65 : decode cX7_come 65 = .ok (.iconst 0, 1) := by decide +kernel
theorem dX7_come_66 : decode cX7_come 66 = .ok (.iastore, 1) := by decide +kernel
theorem dX7_come_67 : decode cX7_come 67 = .ok (.aload_n 0, 1) := by decide +kernel
theorem dX7_come_68 : decode cX7_come 68 = .ok (.getfield 7, 3) := by decide +kernel
theorem dX7_come_71 : decode cX7_come 71 = .ok (.bipush 51, 2) := by decide +kernel
theorem dX7_come_73 : decode cX7_come 73 = .ok (.dup2, 1) := by decide +kernel
theorem dX7_come_74 : decode cX7_come 74 = .ok (.iaload, 1) := by decide +kernel
theorem dX7_come_75 : decode cX7_come 75 = .ok (.iconst 1, 1) := by decide +kernel
theorem dX7_come_76 : decode cX7_come 76 = .ok (.iadd, 1) := by decide +kernel
theorem dX7_come_77 : decode cX7_come 77 = .ok (.iastore, 1) := by decide +kernel
theorem dX7_come_78 : decode cX7_come 78 = .ok (.aload_n 0, 1) := by decide +kernel
theorem dX7_come_79 : decode cX7_come 79 = .ok (.getfield 7, 3) := by decide +kernel
theorem dX7_come_82 : decode cX7_come 82 = .ok (.bipush 51, 2) := by decide +kernel
theorem dX7_come_84 : decode cX7_come 84 = .ok (.iaload, 1) := by decide +kernel
theorem dX7_come_85 : decode cX7_come 85 = .ok (.ireturn, 1) := by decide +kernel
set_option maxRecDepth 20000 in
theorem ggX7_move_X7_isGuest : GoodIn wsX7_move wsX7_isGuest := goodIn_r _ [6, 1, 7, 8, 5, 9, 18, 19, 20, 21, 22, 23, 24, 25, 26, 27, 28, 29, 30, 31, 32, 33, 34, 35, 36, 37, 38, 39, 40, 41, 42] (by decide +kernel) (by decide +kernel)
set_option maxRecDepth 20000 in
theorem gX7_move_X7_isGuest : GoodIn wsX7_move (wsV RX7 177 RX7 yX7_isGuest wsX7_isGuest) := goodIn_app (goodIn_of _ (by decide +kernel)) ggX7_move_X7_isGuest
set_option maxRecDepth 20000 in
theorem ggX7_move_X7_isPlot : GoodIn wsX7_move wsX7_isPlot := goodIn_r _ [12, 13, 7, 8, 5, 9] (by decide +kernel) (by decide +kernel)
set_option maxRecDepth 20000 in
theorem gX7_move_X7_isPlot : GoodIn wsX7_move (va_wsS RX7 182 yX7_isPlot wsX7_isPlot) := goodIn_app (goodIn_of _ (by decide +kernel)) ggX7_move_X7_isPlot
set_option maxRecDepth 20000 in
theorem ggX7_move_X7_puts : GoodIn wsX7_move wsX7_puts := goodIn_r _ [17, 1, 18, 19, 20, 21, 22, 23, 24, 25, 26, 27, 28, 29, 30, 31, 32, 33, 34, 35, 36, 37, 38, 39, 40, 41, 42] (by decide +kernel) (by decide +kernel)
set_option maxRecDepth 20000 in
theorem gX7_move_X7_puts : GoodIn wsX7_move (wsV RX7 185 RX7 yX7_puts wsX7_puts) := goodIn_app (goodIn_of _ (by decide +kernel)) ggX7_move_X7_puts
theorem dX7_move_0 : decode cX7_move 0 = .ok (.aload_n 0, 1) := by decide +kernel
theorem dX7_move_1 : decode cX7_move 1 = .ok (.iload_n 1, 1) := by decide +kernel
theorem dX7_move_2 : decode cX7_move 2 = .ok (.invokevirtual 177, 3) := by decide +kernel
theorem dX7_move_5 : decode cX7_move 5 = .ok (.ifCond .eq 10, 3) := by decide +kernel
theorem dX7_move_8 : decode cX7_move 8 = .ok (.iload_n 2, 1) := by decide +kernel
theorem dX7_move_9 : decode cX7_move 9 = .ok (.invokestatic 182, 3) := by decide +kernel
theorem dX7_move_12 : decode cX7_move 12 = .ok (.ifCond .ne 5, 3) := by decide +kernel
theorem dX7_move_15 : decode cX7_move 15 = .ok (.iconst (-1), 1) := by decide +kernel
theorem dX7_move_16 : decode cX7_move 16 = .ok (.ireturn, 1) := by decide +kernel
theorem dX7_move_17 : decode cX7_move 17 = .ok (.aload_n 0, 1) := by decide +kernel
theorem dX7_move_18 : decode cX7_move 18 = .ok (.getfield 7, 3) := by decide +kernel
theorem dX7_move_21 : decode cX7_move 21 = .ok (.bipush 47, 2) := by decide +kernel
theorem dX7_move_23 : decode cX7_move 23 = .ok (.iload_n 1, 1) := by decide +kernel
theorem dX7_move_24 : decode cX7_move 24 = .ok (.iadd, 1) := by decide +kernel
theorem dX7_move_25 : decode cX7_move 25 = .ok (.iconst 0, 1) := by decide +kernel
theorem dX7_move_26 : decode cX7_move 26 = .ok (.iastore, 1) := by decide +kernel
theorem dX7_move_27 : decode cX7_move 27 = .ok (.aload_n 0, 1) := by decide +kernel
theorem dX7_move_28 : decode cX7_move 28 = .ok (.iconst 1, 1) := by decide +kernel
theorem dX7_move_29 : decode cX7_move 29 = .ok (.bipush 39, 2) := by decide +kernel
theorem dX7_move_31 : decode cX7_move 31 = .ok (.iload_n 1, 1) := by decide +kernel
theorem dX7_move_32 : decode cX7_move 32 = .ok (.iadd, 1) := by decide +kernel
theorem dX7_move_33 : decode cX7_move 33 = .ok (.iload_n 2, 1) := by decide +kernel
theorem dX7_move_34 : decode cX7_move 34 = .ok (.invokevirtual 185, 3) := by decide +kernel
theorem dX7_move_37 : decode cX7_move 37 = .ok (.ireturn, 1) := by decide +kernel
set_option maxRecDepth 20000 in
theorem ggX7_bread_X7_isGuest : GoodIn wsX7_bread wsX7_isGuest := goodIn_r _ [6, 7, 8, 9, 5, 10, 15, 16, 17, 18, 19, 20, 21, 22, 23, 24, 25, 26, 27, 28, 29, 30, 31, 32, 33, 34, 35, 36, 37, 38, 39] (by decide +kernel) (by decide +kernel)
set_option maxRecDepth 20000 in
theorem gX7_bread_X7_isGuest : GoodIn wsX7_bread (wsV RX7 177 RX7 yX7_isGuest wsX7_isGuest) := goodIn_app (goodIn_of _ (by decide +kernel)) ggX7_bread_X7_isGuest
set_option maxRecDepth 20000 in
theorem ggX7_bread_X7_in : GoodIn wsX7_bread wsX7_in := goodIn_r _ [10] (by decide +kernel) (by decide +kernel)
set_option maxRecDepth 20000 in
theorem gX7_bread_X7_in : GoodIn wsX7_bread (va_wsS RX7 53 yX7_in wsX7_in) := goodIn_app (goodIn_of _ (by decide +kernel)) ggX7_bread_X7_in
set_option maxRecDepth 20000 in
theorem ggX7_bread_X7_puts : GoodIn wsX7_bread wsX7_puts := goodIn_r _ [14, 7, 15, 16, 17, 18, 19, 20, 21, 22, 23, 24, 25, 26, 27, 28, 29, 30, 31, 32, 33, 34, 35, 36, 37, 38, 39] (by decide +kernel) (by decide +kernel)
set_option maxRecDepth 20000 in
theorem gX7_bread_X7_puts : GoodIn wsX7_bread (wsV RX7 185 RX7 yX7_puts wsX7_puts) := goodIn_app (goodIn_of _ (by decide +kernel)) ggX7_bread_X7_puts
theorem dX7_bread_0 : decode cX7_bread 0 = .ok (.aload_n 0, 1) := by decide +kernel
theorem dX7_bread_1 : decode cX7_bread 1 = .ok (.aload_n 0, 1) := by decide +kernel
theorem dX7_bread_2 : decode cX7_bread 2 = .ok (.iload_n 1, 1) := by decide +kernel
theorem dX7_bread_3 : decode cX7_bread 3 = .ok (.invokevirtual 177, 3) := by decide +kernel
theorem dX7_bread_6 : decode cX7_bread 6 = .ok (.ifCond .eq 19, 3) := by decide +kernel
theorem dX7_bread_9 : decode cX7_bread 9 = .ok (.iload_n 2, 1) := by decide +kernel
theorem dX7_bread_10 : decode cX7_bread 10 = .ok (.i2l, 1) := by decide +kernel
theorem dX7_bread_11 : decode cX7_bread 11 = .ok (.lconst 0, 1) := by decide +kernel
theorem dX7_bread_12 : decode cX7_bread 12 = .ok (.ldc2_w 194, 3) := by decide +kernel
theorem dX7_bread_15 : decode cX7_bread 15 = .ok (.invokestatic 53, 3) := by decide +kernel
theorem dX7_bread_18 : decode cX7_bread 18 = .ok (.ifCond .eq 7, 3) := by decide +kernel
theorem dX7_bread_21 : decode cX7_bread 21 = .ok (.iconst 1, 1) := by decide +kernel
theorem dX7_bread_22 : decode cX7_bread 22 = .ok (.goto 4, 3) := by decide +kernel
theorem dX7_bread_25 : decode cX7_bread 25 = .ok (.iconst 0, 1) := by decide +kernel
theorem dX7_bread_26 : decode cX7_bread 26 = .ok (.bipush 43, 2) := by decide +kernel
theorem dX7_bread_28 : decode cX7_bread 28 = .ok (.iload_n 1, 1) := by decide +kernel
theorem dX7_bread_29 : decode cX7_bread 29 = .ok (.iadd, 1) := by decide +kernel
theorem dX7_bread_30 : decode cX7_bread 30 = .ok (.iload_n 2, 1) := by decide +kernel
theorem dX7_bread_31 : decode cX7_bread 31 = .ok (.invokevirtual 185, 3) := by decide +kernel
theorem dX7_bread_34 : decode cX7_bread 34 = .ok (.ireturn, 1) := by decide +kernel
set_option maxRecDepth 20000 in
theorem ggX7_open_X7_isPlot : GoodIn wsX7_open wsX7_isPlot := goodIn_r _ [4, 5, 6, 7, 3, 8] (by decide +kernel) (by decide +kernel)
set_option maxRecDepth 20000 in
theorem gX7_open_X7_isPlot : GoodIn wsX7_open (va_wsS RX7 182 yX7_isPlot wsX7_isPlot) := goodIn_app (goodIn_of _ (by decide +kernel)) ggX7_open_X7_isPlot
set_option maxRecDepth 20000 in
theorem ggX7_open_X7_puts : GoodIn wsX7_open wsX7_puts := goodIn_r _ [12, 13, 14, 15, 16, 17, 18, 19, 20, 21, 22, 23, 24, 25, 26, 27, 28, 29, 30, 31, 32, 33, 34, 35, 36, 37, 38] (by decide +kernel) (by decide +kernel)
set_option maxRecDepth 20000 in
theorem gX7_open_X7_puts : GoodIn wsX7_open (wsV RX7 185 RX7 yX7_puts wsX7_puts) := goodIn_app (goodIn_of _ (by decide +kernel)) ggX7_open_X7_puts
theorem dX7_open_0 : decode cX7_open 0 = .ok (.aload_n 0, 1) := by decide +kernel
theorem dX7_open_1 : decode cX7_open 1 = .ok (.iload_n 1, 1) := by decide +kernel
theorem dX7_open_2 : decode cX7_open 2 = .ok (.invokestatic 182, 3) := by decide +kernel
theorem dX7_open_5 : decode cX7_open 5 = .ok (.bipush 24, 2) := by decide +kernel
theorem dX7_open_7 : decode cX7_open 7 = .ok (.iload_n 1, 1) := by decide +kernel
theorem dX7_open_8 : decode cX7_open 8 = .ok (.invokevirtual 185, 3) := by decide +kernel
theorem dX7_open_11 : decode cX7_open 11 = .ok (.ireturn, 1) := by decide +kernel
set_option maxRecDepth 20000 in
theorem ggX7_days_X7_in : GoodIn wsX7_days wsX7_in := goodIn_r _ [6] (by decide +kernel) (by decide +kernel)
set_option maxRecDepth 20000 in
theorem gX7_days_X7_in : GoodIn wsX7_days (va_wsS RX7 53 yX7_in wsX7_in) := goodIn_app (goodIn_of _ (by decide +kernel)) ggX7_days_X7_in
set_option maxRecDepth 20000 in
theorem ggX7_days_X7_guestsOn : GoodIn wsX7_days wsX7_guestsOn := goodIn_r _ [10, 2, 47, 48, 49, 50, 51, 52, 53, 54, 55, 56, 57, 58, 59, 60, 61, 62, 63, 64, 65, 66, 67, 68, 69, 70, 71] (by decide +kernel) (by decide +kernel)
set_option maxRecDepth 20000 in
theorem gX7_days_X7_guestsOn : GoodIn wsX7_days (wsV RX7 162 RX7 yX7_guestsOn wsX7_guestsOn) := goodIn_app (goodIn_of _ (by decide +kernel)) ggX7_days_X7_guestsOn
set_option maxRecDepth 20000 in
theorem ggX7_days_X7_bitsOf : GoodIn wsX7_days wsX7_bitsOf := goodIn_r _ [13] (by decide +kernel) (by decide +kernel)
set_option maxRecDepth 20000 in
theorem gX7_days_X7_bitsOf : GoodIn wsX7_days (va_wsS RX7 159 yX7_bitsOf wsX7_bitsOf) := goodIn_app (goodIn_of _ (by decide +kernel)) ggX7_days_X7_bitsOf
set_option maxRecDepth 20000 in
theorem ggX7_days_X7_dayOn : GoodIn wsX7_days wsX7_dayOn := goodIn_r _ [17, 2, 18, 19, 20, 21, 5, 22, 23, 24, 25, 26, 27, 28, 29, 30, 31, 32, 33, 34, 35, 36, 37, 38, 39, 40, 41, 42, 43, 44, 45, 46, 47, 48, 49, 50, 51, 52, 53, 54, 55, 56, 57, 58, 59, 60, 61, 62, 63, 64, 65, 66, 67, 68, 69, 70, 71] (by decide +kernel) (by decide +kernel)
set_option maxRecDepth 20000 in
theorem gX7_days_X7_dayOn : GoodIn wsX7_days (wsV RX7 198 RX7 yX7_dayOn wsX7_dayOn) := goodIn_app (goodIn_of _ (by decide +kernel)) ggX7_days_X7_dayOn
theorem dX7_days_0 : decode cX7_days 0 = .ok (.iload_n 1, 1) := by decide +kernel
theorem dX7_days_1 : decode cX7_days 1 = .ok (.i2l, 1) := by decide +kernel
theorem dX7_days_2 : decode cX7_days 2 = .ok (.lconst 0, 1) := by decide +kernel
theorem dX7_days_3 : decode cX7_days 3 = .ok (.ldc2_w 196, 3) := by decide +kernel
theorem dX7_days_6 : decode cX7_days 6 = .ok (.invokestatic 53, 3) := by decide +kernel
theorem dX7_days_9 : decode cX7_days 9 = .ok (.ifCond .ne 5, 3) := by decide +kernel
theorem dX7_days_12 : decode cX7_days 12 = .ok (.iconst (-1), 1) := by decide +kernel
theorem dX7_days_13 : decode cX7_days 13 = .ok (.ireturn, 1) := by decide +kernel
theorem dX7_days_14 : decode cX7_days 14 = .ok (.aload_n 0, 1) := by decide +kernel
theorem dX7_days_15 : decode cX7_days 15 = .ok (.getfield 7, 3) := by decide +kernel
theorem dX7_days_18 : decode cX7_days 18 = .ok (.bipush 52, 2) := by decide +kernel
theorem dX7_days_20 : decode cX7_days 20 = .ok (.iaload, 1) := by decide +kernel
theorem dX7_days_21 : decode cX7_days 21 = .ok (.iload_n 1, 1) := by decide +kernel
theorem dX7_days_22 : decode cX7_days 22 = .ok (.iadd, 1) := by decide +kernel
theorem dX7_days_23 : decode cX7_days 23 = .ok (.sipush 999, 3) := by decide +kernel
theorem dX7_days_26 : decode cX7_days 26 = .ok (.if_icmp .le 6, 3) := by decide +kernel
theorem dX7_days_29 : decode cX7_days 29 = .ok (.bipush (-3), 2) := by decide +kernel
theorem dX7_days_31 : decode cX7_days 31 = .ok (.ireturn, 1) := by decide +kernel
theorem dX7_days_32 : decode cX7_days 32 = .ok (.aload_n 0, 1) := by decide +kernel
theorem dX7_days_33 : decode cX7_days 33 = .ok (.iconst 0, 1) := by decide +kernel
theorem dX7_days_34 : decode cX7_days 34 = .ok (.iconst 1, 1) := by decide +kernel
theorem dX7_days_35 : decode cX7_days 35 = .ok (.invokevirtual 162, 3) := by decide +kernel
theorem dX7_days_38 : decode cX7_days 38 = .ok (.invokestatic 159, 3) := by decide +kernel
theorem dX7_days_41 : decode cX7_days 41 = .ok (.istore_n 2, 1) := by decide +kernel
theorem dX7_days_42 : decode cX7_days 42 = .ok (.iconst 0, 1) := by decide +kernel
theorem dX7_days_43 : decode cX7_days 43 = .ok (.istore_n 3, 1) := by decide +kernel
theorem dX7_days_44 : decode cX7_days 44 = .ok (.iload_n 3, 1) := by decide +kernel
theorem dX7_days_45 : decode cX7_days 45 = .ok (.iload_n 1, 1) := by decide +kernel
theorem dX7_days_46 : decode cX7_days 46 = .ok (.if_icmp .ge 15, 3) := by decide +kernel
theorem dX7_days_49 : decode cX7_days 49 = .ok (.aload_n 0, 1) := by decide +kernel
theorem dX7_days_50 : decode cX7_days 50 = .ok (.iconst 0, 1) := by decide +kernel
theorem dX7_days_51 : decode cX7_days 51 = .ok (.iconst 0, 1) := by decide +kernel
theorem dX7_days_52 : decode cX7_days 52 = .ok (.invokevirtual 198, 3) := by decide +kernel
theorem dX7_days_55 : decode cX7_days 55 = .ok (.iinc 3 1, 3) := by decide +kernel
theorem dX7_days_58 : decode cX7_days 58 = .ok (.goto (-14), 3) := by decide +kernel
theorem dX7_days_61 : decode cX7_days 61 = .ok (.aload_n 0, 1) := by decide +kernel
theorem dX7_days_62 : decode cX7_days 62 = .ok (.iconst 0, 1) := by decide +kernel
theorem dX7_days_63 : decode cX7_days 63 = .ok (.iconst 1, 1) := by decide +kernel
theorem dX7_days_64 : decode cX7_days 64 = .ok (.invokevirtual 162, 3) := by decide +kernel
theorem dX7_days_67 : decode cX7_days 67 = .ok (.invokestatic 159, 3) := by decide +kernel
theorem dX7_days_70 : decode cX7_days 70 = .ok (.iload_n 2, 1) := by decide +kernel
theorem dX7_days_71 : decode cX7_days 71 = .ok (.isub, 1) := by decide +kernel
theorem dX7_days_72 : decode cX7_days 72 = .ok (.ireturn, 1) := by decide +kernel
theorem dX7_copies_0 : decode cX7_copies 0 = .ok (.iconst 0, 1) := by decide +kernel
theorem dX7_copies_1 : decode cX7_copies 1 = .ok (.istore_n 3, 1) := by decide +kernel
theorem dX7_copies_2 : decode cX7_copies 2 = .ok (.iload_n 3, 1) := by decide +kernel
theorem dX7_copies_3 : decode cX7_copies 3 = .ok (.bipush 53, 2) := by decide +kernel
theorem dX7_copies_5 : decode cX7_copies 5 = .ok (.if_icmp .ge 25, 3) := by decide +kernel
theorem dX7_copies_8 : decode cX7_copies 8 = .ok (.aload_n 0, 1) := by decide +kernel
theorem dX7_copies_9 : decode cX7_copies 9 = .ok (.getfield 7, 3) := by decide +kernel
theorem dX7_copies_12 : decode cX7_copies 12 = .ok (.iload_n 2, 1) := by decide +kernel
theorem dX7_copies_13 : decode cX7_copies 13 = .ok (.iload_n 3, 1) := by decide +kernel
theorem dX7_copies_14 : decode cX7_copies 14 = .ok (.iadd, 1) := by decide +kernel
theorem dX7_copies_15 : decode cX7_copies 15 = .ok (.aload_n 0, 1) := by decide +kernel
theorem dX7_copies_16 : decode cX7_copies 16 = .ok (.getfield 7, 3) := by decide +kernel
theorem dX7_copies_19 : decode cX7_copies 19 = .ok (.iload_n 1, 1) := by decide +kernel
theorem dX7_copies_20 : decode cX7_copies 20 = .ok (.iload_n 3, 1) := by decide +kernel
theorem dX7_copies_21 : decode cX7_copies 21 = .ok (.iadd, 1) := by decide +kernel
theorem dX7_copies_22 : decode cX7_copies 22 = .ok (.iaload, 1) := by decide +kernel
theorem dX7_copies_23 : decode cX7_copies 23 = .ok (.iastore, 1) := by decide +kernel
theorem dX7_copies_24 : decode cX7_copies 24 = .ok (.iinc 3 1, 3) := by decide +kernel
theorem dX7_copies_27 : decode cX7_copies 27 = .ok (.goto (-25), 3) := by decide +kernel
theorem dX7_copies_30 : decode cX7_copies 30 = .ok (.return_, 1) := by decide +kernel
set_option maxRecDepth 20000 in
theorem ggX7_daysGo_X7_copies : GoodIn wsX7_daysGo wsX7_copies := goodIn_r _ [5, 6, 47, 48, 49, 50, 51, 52, 53, 54, 55, 56, 57, 58, 59, 60, 61, 62, 63, 64, 65, 66, 67, 68, 69, 70, 71] (by decide +kernel) (by decide +kernel)
set_option maxRecDepth 20000 in
theorem gX7_daysGo_X7_copies : GoodIn wsX7_daysGo (wsV RX7 202 RX7 yX7_copies wsX7_copies) := goodIn_app (goodIn_of _ (by decide +kernel)) ggX7_daysGo_X7_copies
set_option maxRecDepth 20000 in
theorem ggX7_daysGo_X7_dayOn : GoodIn wsX7_daysGo wsX7_dayOn := goodIn_r _ [10, 6, 11, 12, 13, 14, 4, 15, 16, 17, 18, 19, 20, 21, 22, 23, 24, 25, 26, 27, 28, 29, 30, 31, 32, 33, 34, 35, 36, 37, 38, 39, 47, 48, 49, 50, 51, 52, 53, 54, 55, 56, 57, 58, 59, 60, 61, 62, 63, 64, 65, 66, 67, 68, 69, 70, 71] (by decide +kernel) (by decide +kernel)
set_option maxRecDepth 20000 in
theorem gX7_daysGo_X7_dayOn : GoodIn wsX7_daysGo (wsV RX7 198 RX7 yX7_dayOn wsX7_dayOn) := goodIn_app (goodIn_of _ (by decide +kernel)) ggX7_daysGo_X7_dayOn
set_option maxRecDepth 20000 in
theorem ggX7_daysGo_X7_guestsOn : GoodIn wsX7_daysGo wsX7_guestsOn := goodIn_r _ [43, 6, 47, 48, 49, 50, 51, 52, 53, 54, 55, 56, 57, 58, 59, 60, 61, 62, 63, 64, 65, 66, 67, 68, 69, 70, 71] (by decide +kernel) (by decide +kernel)
set_option maxRecDepth 20000 in
theorem gX7_daysGo_X7_guestsOn : GoodIn wsX7_daysGo (wsV RX7 162 RX7 yX7_guestsOn wsX7_guestsOn) := goodIn_app (goodIn_of _ (by decide +kernel)) ggX7_daysGo_X7_guestsOn
set_option maxRecDepth 20000 in
theorem ggX7_daysGo_X7_bitsOf : GoodIn wsX7_daysGo wsX7_bitsOf := goodIn_r _ [46] (by decide +kernel) (by decide +kernel)
set_option maxRecDepth 20000 in
theorem gX7_daysGo_X7_bitsOf : GoodIn wsX7_daysGo (va_wsS RX7 159 yX7_bitsOf wsX7_bitsOf) := goodIn_app (goodIn_of _ (by decide +kernel)) ggX7_daysGo_X7_bitsOf
theorem dX7_daysGo_0 : decode cX7_daysGo 0 = .ok (.aload_n 0, 1) := by decide +kernel
theorem dX7_daysGo_1 : decode cX7_daysGo 1 = .ok (.iload_n 1, 1) := by decide +kernel
theorem dX7_daysGo_2 : decode cX7_daysGo 2 = .ok (.sipush 212, 3) := by decide +kernel
theorem dX7_daysGo_5 : decode cX7_daysGo 5 = .ok (.invokevirtual 202, 3) := by decide +kernel
theorem dX7_daysGo_8 : decode cX7_daysGo 8 = .ok (.iconst 0, 1) := by decide +kernel
theorem dX7_daysGo_9 : decode cX7_daysGo 9 = .ok (.istore_n 3, 1) := by decide +kernel
theorem dX7_daysGo_10 : decode cX7_daysGo 10 = .ok (.iload_n 3, 1) := by decide +kernel
theorem dX7_daysGo_11 : decode cX7_daysGo 11 = .ok (.iload_n 2, 1) := by decide +kernel
theorem dX7_daysGo_12 : decode cX7_daysGo 12 = .ok (.if_icmp .ge 17, 3) := by decide +kernel
theorem dX7_daysGo_15 : decode cX7_daysGo 15 = .ok (.aload_n 0, 1) := by decide +kernel
theorem dX7_daysGo_16 : decode cX7_daysGo 16 = .ok (.sipush 212, 3) := by decide +kernel
theorem dX7_daysGo_19 : decode cX7_daysGo 19 = .ok (.iconst 0, 1) := by decide +kernel
theorem dX7_daysGo_20 : decode cX7_daysGo 20 = .ok (.invokevirtual 198, 3) := by decide +kernel
theorem dX7_daysGo_23 : decode cX7_daysGo 23 = .ok (.iinc 3 1, 3) := by decide +kernel
theorem dX7_daysGo_26 : decode cX7_daysGo 26 = .ok (.goto (-16), 3) := by decide +kernel
theorem dX7_daysGo_29 : decode cX7_daysGo 29 = .ok (.aload_n 0, 1) := by decide +kernel
theorem dX7_daysGo_30 : decode cX7_daysGo 30 = .ok (.sipush 212, 3) := by decide +kernel
theorem dX7_daysGo_33 : decode cX7_daysGo 33 = .ok (.iconst 1, 1) := by decide +kernel
theorem dX7_daysGo_34 : decode cX7_daysGo 34 = .ok (.invokevirtual 162, 3) := by decide +kernel
theorem dX7_daysGo_37 : decode cX7_daysGo 37 = .ok (.invokestatic 159, 3) := by decide +kernel
theorem dX7_daysGo_40 : decode cX7_daysGo 40 = .ok (.ireturn, 1) := by decide +kernel
set_option maxRecDepth 20000 in
theorem ggX7_runs_X7_in : GoodIn wsX7_runs wsX7_in := goodIn_r _ [6] (by decide +kernel) (by decide +kernel)
set_option maxRecDepth 20000 in
theorem gX7_runs_X7_in : GoodIn wsX7_runs (va_wsS RX7 53 yX7_in wsX7_in) := goodIn_app (goodIn_of _ (by decide +kernel)) ggX7_runs_X7_in
set_option maxRecDepth 20000 in
theorem ggX7_runs_X7_daysGo : GoodIn wsX7_runs wsX7_daysGo := goodIn_r _ [10, 11, 12, 13, 5, 14, 15, 16, 17, 18, 19, 20, 21, 22, 23, 24, 25, 26, 27, 28, 29, 30, 31, 32, 33, 34, 35, 36, 37, 38, 39, 40, 41, 42, 43, 44, 45, 46, 47, 48, 49, 50, 51, 52, 53, 54, 55, 64, 65, 66, 67, 68, 69, 70, 71, 72, 73, 74, 75, 76, 77, 78, 79, 80, 81, 82, 83, 84, 85, 86, 87, 88] (by decide +kernel) (by decide +kernel)
set_option maxRecDepth 20000 in
theorem gX7_runs_X7_daysGo : GoodIn wsX7_runs (wsV RX7 205 RX7 yX7_daysGo wsX7_daysGo) := goodIn_app (goodIn_of _ (by decide +kernel)) ggX7_runs_X7_daysGo
set_option maxRecDepth 20000 in
theorem ggX7_runs_X7_guestsOn : GoodIn wsX7_runs wsX7_guestsOn := goodIn_r _ [52, 15, 64, 65, 66, 67, 68, 69, 70, 71, 72, 73, 74, 75, 76, 77, 78, 79, 80, 81, 82, 83, 84, 85, 86, 87, 88] (by decide +kernel) (by decide +kernel)
set_option maxRecDepth 20000 in
theorem gX7_runs_X7_guestsOn : GoodIn wsX7_runs (wsV RX7 162 RX7 yX7_guestsOn wsX7_guestsOn) := goodIn_app (goodIn_of _ (by decide +kernel)) ggX7_runs_X7_guestsOn
set_option maxRecDepth 20000 in
theorem ggX7_runs_X7_standOn : GoodIn wsX7_runs wsX7_standOn := goodIn_r _ [59, 15, 64, 65, 66, 67, 68, 69, 70, 71, 72, 73, 74, 75, 76, 77, 78, 79, 80, 81, 82, 83, 84, 85, 86, 87, 88] (by decide +kernel) (by decide +kernel)
set_option maxRecDepth 20000 in
theorem gX7_runs_X7_standOn : GoodIn wsX7_runs (wsV RX7 156 RX7 yX7_standOn wsX7_standOn) := goodIn_app (goodIn_of _ (by decide +kernel)) ggX7_runs_X7_standOn
set_option maxRecDepth 20000 in
theorem ggX7_runs_X7_bitsOf : GoodIn wsX7_runs wsX7_bitsOf := goodIn_r _ [55] (by decide +kernel) (by decide +kernel)
set_option maxRecDepth 20000 in
theorem gX7_runs_X7_bitsOf : GoodIn wsX7_runs (va_wsS RX7 159 yX7_bitsOf wsX7_bitsOf) := goodIn_app (goodIn_of _ (by decide +kernel)) ggX7_runs_X7_bitsOf
set_option maxRecDepth 20000 in
theorem ggX7_runs_X7_lastOn : GoodIn wsX7_runs wsX7_lastOn := goodIn_r _ [63, 15, 64, 65, 66, 67, 68, 69, 70, 71, 72, 73, 74, 75, 76, 77, 78, 79, 80, 81, 82, 83, 84, 85, 86, 87, 88] (by decide +kernel) (by decide +kernel)
set_option maxRecDepth 20000 in
theorem gX7_runs_X7_lastOn : GoodIn wsX7_runs (wsV RX7 165 RX7 yX7_lastOn wsX7_lastOn) := goodIn_app (goodIn_of _ (by decide +kernel)) ggX7_runs_X7_lastOn
theorem dX7_runs_0 : decode cX7_runs 0 = .ok (.iload_n 1, 1) := by decide +kernel
theorem dX7_runs_1 : decode cX7_runs 1 = .ok (.i2l, 1) := by decide +kernel
theorem dX7_runs_2 : decode cX7_runs 2 = .ok (.lconst 0, 1) := by decide +kernel
theorem dX7_runs_3 : decode cX7_runs 3 = .ok (.ldc2_w 194, 3) := by decide +kernel
theorem dX7_runs_6 : decode cX7_runs 6 = .ok (.invokestatic 53, 3) := by decide +kernel
theorem dX7_runs_9 : decode cX7_runs 9 = .ok (.ifCond .eq 15, 3) := by decide +kernel
theorem dX7_runs_12 : decode cX7_runs 12 = .ok (.iload_n 2, 1) := by decide +kernel
theorem dX7_runs_13 : decode cX7_runs 13 = .ok (.i2l, 1) := by decide +kernel
theorem dX7_runs_14 : decode cX7_runs 14 = .ok (.lconst 0, 1) := by decide +kernel
theorem dX7_runs_15 : decode cX7_runs 15 = .ok (.ldc2_w 175, 3) := by decide +kernel
theorem dX7_runs_18 : decode cX7_runs 18 = .ok (.invokestatic 53, 3) := by decide +kernel
theorem dX7_runs_21 : decode cX7_runs 21 = .ok (.ifCond .ne 5, 3) := by decide +kernel
theorem dX7_runs_24 : decode cX7_runs 24 = .ok (.iconst (-1), 1) := by decide +kernel
theorem dX7_runs_25 : decode cX7_runs 25 = .ok (.ireturn, 1) := by decide +kernel
theorem dX7_runs_26 : decode cX7_runs 26 = .ok (.aload_n 0, 1) := by decide +kernel
theorem dX7_runs_27 : decode cX7_runs 27 = .ok (.iconst 0, 1) := by decide +kernel
theorem dX7_runs_28 : decode cX7_runs 28 = .ok (.iload_n 1, 1) := by decide +kernel
theorem dX7_runs_29 : decode cX7_runs 29 = .ok (.invokevirtual 205, 3) := by decide +kernel
theorem dX7_runs_32 : decode cX7_runs 32 = .ok (.istore_n 3, 1) := by decide +kernel
theorem dX7_runs_33 : decode cX7_runs 33 = .ok (.iload_n 2, 1) := by decide +kernel
theorem dX7_runs_34 : decode cX7_runs 34 = .ok (.ifCond .ne 7, 3) := by decide +kernel
theorem dX7_runs_37 : decode cX7_runs 37 = .ok (.iload_n 3, 1) := by decide +kernel
theorem dX7_runs_38 : decode cX7_runs 38 = .ok (.goto 44, 3) := by decide +kernel
theorem dX7_runs_41 : decode cX7_runs 41 = .ok (.iload_n 2, 1) := by decide +kernel
theorem dX7_runs_42 : decode cX7_runs 42 = .ok (.iconst 1, 1) := by decide +kernel
theorem dX7_runs_43 : decode cX7_runs 43 = .ok (.if_icmp .ne 14, 3) := by decide +kernel
theorem dX7_runs_46 : decode cX7_runs 46 = .ok (.aload_n 0, 1) := by decide +kernel
theorem dX7_runs_47 : decode cX7_runs 47 = .ok (.sipush 212, 3) := by decide +kernel
theorem dX7_runs_50 : decode cX7_runs 50 = .ok (.iconst 2, 1) := by decide +kernel
theorem dX7_runs_51 : decode cX7_runs 51 = .ok (.invokevirtual 162, 3) := by decide +kernel
theorem dX7_runs_54 : decode cX7_runs 54 = .ok (.goto 28, 3) := by decide +kernel
theorem dX7_runs_57 : decode cX7_runs 57 = .ok (.iload_n 2, 1) := by decide +kernel
theorem dX7_runs_58 : decode cX7_runs 58 = .ok (.iconst 2, 1) := by decide +kernel
theorem dX7_runs_59 : decode cX7_runs 59 = .ok (.if_icmp .ne 16, 3) := by decide +kernel
theorem dX7_runs_62 : decode cX7_runs 62 = .ok (.aload_n 0, 1) := by decide +kernel
theorem dX7_runs_63 : decode cX7_runs 63 = .ok (.sipush 212, 3) := by decide +kernel
theorem dX7_runs_66 : decode cX7_runs 66 = .ok (.invokevirtual 156, 3) := by decide +kernel
theorem dX7_runs_69 : decode cX7_runs 69 = .ok (.invokestatic 159, 3) := by decide +kernel
theorem dX7_runs_72 : decode cX7_runs 72 = .ok (.goto 10, 3) := by decide +kernel
theorem dX7_runs_75 : decode cX7_runs 75 = .ok (.aload_n 0, 1) := by decide +kernel
theorem dX7_runs_76 : decode cX7_runs 76 = .ok (.sipush 212, 3) := by decide +kernel
theorem dX7_runs_79 : decode cX7_runs 79 = .ok (.invokevirtual 165, 3) := by decide +kernel
theorem dX7_runs_82 : decode cX7_runs 82 = .ok (.ireturn, 1) := by decide +kernel
set_option maxRecDepth 20000 in
theorem ggX7_ahead_X7_isGuest : GoodIn wsX7_ahead wsX7_isGuest := goodIn_r _ [8, 3, 9, 10, 7, 11, 60, 61, 62, 63, 64, 65, 66, 67, 68, 69, 70, 71, 72, 73, 74, 75, 76, 77, 78, 79, 80, 81, 82, 83, 84] (by decide +kernel) (by decide +kernel)
set_option maxRecDepth 20000 in
theorem gX7_ahead_X7_isGuest : GoodIn wsX7_ahead (wsV RX7 177 RX7 yX7_isGuest wsX7_isGuest) := goodIn_app (goodIn_of _ (by decide +kernel)) ggX7_ahead_X7_isGuest
set_option maxRecDepth 20000 in
theorem ggX7_ahead_X7_in : GoodIn wsX7_ahead wsX7_in := goodIn_r _ [11] (by decide +kernel) (by decide +kernel)
set_option maxRecDepth 20000 in
theorem gX7_ahead_X7_in : GoodIn wsX7_ahead (va_wsS RX7 53 yX7_in wsX7_in) := goodIn_app (goodIn_of _ (by decide +kernel)) ggX7_ahead_X7_in
set_option maxRecDepth 20000 in
theorem ggX7_ahead_X7_daysGo : GoodIn wsX7_ahead wsX7_daysGo := goodIn_r _ [15, 16, 17, 18, 7, 19, 3, 20, 21, 22, 23, 24, 25, 26, 27, 28, 29, 30, 31, 32, 33, 34, 35, 36, 37, 38, 39, 40, 41, 42, 43, 44, 45, 46, 47, 48, 49, 50, 51, 52, 53, 54, 55, 56, 57, 58, 59, 60, 61, 62, 63, 64, 65, 66, 67, 68, 69, 70, 71, 72, 73, 74, 75, 76, 77, 78, 79, 80, 81, 82, 83, 84] (by decide +kernel) (by decide +kernel)
set_option maxRecDepth 20000 in
theorem gX7_ahead_X7_daysGo : GoodIn wsX7_ahead (wsV RX7 205 RX7 yX7_daysGo wsX7_daysGo) := goodIn_app (goodIn_of _ (by decide +kernel)) ggX7_ahead_X7_daysGo
theorem dX7_ahead_0 : decode cX7_ahead 0 = .ok (.aload_n 0, 1) := by decide +kernel
theorem dX7_ahead_1 : decode cX7_ahead 1 = .ok (.iload_n 1, 1) := by decide +kernel
theorem dX7_ahead_2 : decode cX7_ahead 2 = .ok (.invokevirtual 177, 3) := by decide +kernel
theorem dX7_ahead_5 : decode cX7_ahead 5 = .ok (.ifCond .eq 27, 3) := by decide +kernel
theorem dX7_ahead_8 : decode cX7_ahead 8 = .ok (.iload_n 2, 1) := by decide +kernel
theorem dX7_ahead_9 : decode cX7_ahead 9 = .ok (.i2l, 1) := by decide +kernel
theorem dX7_ahead_10 : decode cX7_ahead 10 = .ok (.lconst 0, 1) := by decide +kernel
theorem dX7_ahead_11 : decode cX7_ahead 11 = .ok (.ldc2_w 194, 3) := by decide +kernel
theorem dX7_ahead_14 : decode cX7_ahead 14 = .ok (.invokestatic 53, 3) := by decide +kernel
theorem dX7_ahead_17 : decode cX7_ahead 17 = .ok (.ifCond .eq 15, 3) := by decide +kernel
theorem dX7_ahead_20 : decode cX7_ahead 20 = .ok (.iload_n 3, 1) := by decide +kernel
theorem dX7_ahead_21 : decode cX7_ahead 21 = .ok (.i2l, 1) := by decide +kernel
theorem dX7_ahead_22 : decode cX7_ahead 22 = .ok (.lconst 0, 1) := by decide +kernel
theorem dX7_ahead_23 : decode cX7_ahead 23 = .ok (.ldc2_w 180, 3) := by decide +kernel
theorem dX7_ahead_26 : decode cX7_ahead 26 = .ok (.invokestatic 53, 3) := by decide +kernel
theorem dX7_ahead_29 : decode cX7_ahead 29 = .ok (.ifCond .ne 5, 3) := by decide +kernel
theorem dX7_ahead_32 : decode cX7_ahead 32 = .ok (.iconst (-1), 1) := by decide +kernel
theorem dX7_ahead_33 : decode cX7_ahead 33 = .ok (.ireturn, 1) := by decide +kernel
theorem dX7_ahead_34 : decode cX7_ahead 34 = .ok (.aload_n 0, 1) := by decide +kernel
theorem dX7_ahead_35 : decode cX7_ahead 35 = .ok (.iconst 0, 1) := by decide +kernel
theorem dX7_ahead_36 : decode cX7_ahead 36 = .ok (.iload_n 2, 1) := by decide +kernel
theorem dX7_ahead_37 : decode cX7_ahead 37 = .ok (.invokevirtual 205, 3) := by decide +kernel
theorem dX7_ahead_40 : decode cX7_ahead 40 = .ok (.pop, 1) := by decide +kernel
theorem dX7_ahead_41 : decode cX7_ahead 41 = .ok (.aload_n 0, 1) := by decide +kernel
theorem dX7_ahead_42 : decode cX7_ahead 42 = .ok (.getfield 7, 3) := by decide +kernel
theorem dX7_ahead_45 : decode cX7_ahead 45 = .ok (.sipush 251, 3) := by decide +kernel
theorem dX7_ahead_48 : decode cX7_ahead 48 = .ok (.iconst 4, 1) := by decide +kernel
theorem dX7_ahead_49 : decode cX7_ahead 49 = .ok (.iload_n 3, 1) := by decide +kernel
theorem dX7_ahead_50 : decode cX7_ahead 50 = .ok (.imul, 1) := by decide +kernel
theorem dX7_ahead_51 : decode cX7_ahead 51 = .ok (.iadd, 1) := by decide +kernel
theorem dX7_ahead_52 : decode cX7_ahead 52 = .ok (.iload_n 1, 1) := by decide +kernel
theorem dX7_ahead_53 : decode cX7_ahead 53 = .ok (.iadd, 1) := by decide +kernel
theorem dX7_ahead_54 : decode cX7_ahead 54 = .ok (.iaload, 1) := by decide +kernel
theorem dX7_ahead_55 : decode cX7_ahead 55 = .ok (.ireturn, 1) := by decide +kernel
set_option maxRecDepth 20000 in
theorem ggX7_stands_X7_isHedge : GoodIn wsX7_stands wsX7_isHedge := goodIn_r _ [6, 7, 8, 9, 5, 10] (by decide +kernel) (by decide +kernel)
set_option maxRecDepth 20000 in
theorem gX7_stands_X7_isHedge : GoodIn wsX7_stands (va_wsS RX7 168 yX7_isHedge wsX7_isHedge) := goodIn_app (goodIn_of _ (by decide +kernel)) ggX7_stands_X7_isHedge
set_option maxRecDepth 20000 in
theorem ggX7_stands_X7_in : GoodIn wsX7_stands wsX7_in := goodIn_r _ [10] (by decide +kernel) (by decide +kernel)
set_option maxRecDepth 20000 in
theorem gX7_stands_X7_in : GoodIn wsX7_stands (va_wsS RX7 53 yX7_in wsX7_in) := goodIn_app (goodIn_of _ (by decide +kernel)) ggX7_stands_X7_in
set_option maxRecDepth 20000 in
theorem ggX7_stands_X7_daysGo : GoodIn wsX7_stands wsX7_daysGo := goodIn_r _ [14, 15, 16, 17, 5, 18, 2, 19, 20, 21, 22, 23, 24, 25, 26, 27, 28, 29, 30, 31, 32, 33, 34, 35, 36, 37, 38, 39, 40, 41, 42, 43, 44, 45, 46, 47, 48, 49, 50, 51, 52, 53, 54, 55, 56, 57, 58, 59, 60, 61, 62, 63, 64, 65, 66, 67, 68, 69, 70, 71, 72, 73, 74, 75, 76, 77, 78, 79, 80, 81, 82, 83] (by decide +kernel) (by decide +kernel)
set_option maxRecDepth 20000 in
theorem gX7_stands_X7_daysGo : GoodIn wsX7_stands (wsV RX7 205 RX7 yX7_daysGo wsX7_daysGo) := goodIn_app (goodIn_of _ (by decide +kernel)) ggX7_stands_X7_daysGo
theorem dX7_stands_0 : decode cX7_stands 0 = .ok (.iload_n 1, 1) := by decide +kernel
theorem dX7_stands_1 : decode cX7_stands 1 = .ok (.invokestatic 168, 3) := by decide +kernel
theorem dX7_stands_4 : decode cX7_stands 4 = .ok (.ifCond .eq 15, 3) := by decide +kernel
theorem dX7_stands_7 : decode cX7_stands 7 = .ok (.iload_n 2, 1) := by decide +kernel
theorem dX7_stands_8 : decode cX7_stands 8 = .ok (.i2l, 1) := by decide +kernel
theorem dX7_stands_9 : decode cX7_stands 9 = .ok (.lconst 0, 1) := by decide +kernel
theorem dX7_stands_10 : decode cX7_stands 10 = .ok (.ldc2_w 194, 3) := by decide +kernel
theorem dX7_stands_13 : decode cX7_stands 13 = .ok (.invokestatic 53, 3) := by decide +kernel
theorem dX7_stands_16 : decode cX7_stands 16 = .ok (.ifCond .ne 5, 3) := by decide +kernel
theorem dX7_stands_19 : decode cX7_stands 19 = .ok (.iconst (-1), 1) := by decide +kernel
theorem dX7_stands_20 : decode cX7_stands 20 = .ok (.ireturn, 1) := by decide +kernel
theorem dX7_stands_21 : decode cX7_stands 21 = .ok (.aload_n 0, 1) := by decide +kernel
theorem dX7_stands_22 : decode cX7_stands 22 = .ok (.iconst 0, 1) := by decide +kernel
theorem dX7_stands_23 : decode cX7_stands 23 = .ok (.iload_n 2, 1) := by decide +kernel
theorem dX7_stands_24 : decode cX7_stands 24 = .ok (.invokevirtual 205, 3) := by decide +kernel
theorem dX7_stands_27 : decode cX7_stands 27 = .ok (.pop, 1) := by decide +kernel
theorem dX7_stands_28 : decode cX7_stands 28 = .ok (.aload_n 0, 1) := by decide +kernel
theorem dX7_stands_29 : decode cX7_stands 29 = .ok (.getfield 7, 3) := by decide +kernel
theorem dX7_stands_32 : decode cX7_stands 32 = .ok (.sipush 212, 3) := by decide +kernel
theorem dX7_stands_35 : decode cX7_stands 35 = .ok (.iload_n 1, 1) := by decide +kernel
theorem dX7_stands_36 : decode cX7_stands 36 = .ok (.iadd, 1) := by decide +kernel
theorem dX7_stands_37 : decode cX7_stands 37 = .ok (.iaload, 1) := by decide +kernel
theorem dX7_stands_38 : decode cX7_stands 38 = .ok (.ireturn, 1) := by decide +kernel
set_option maxRecDepth 20000 in
theorem ggX7_out_X7_isGuest : GoodIn wsX7_out wsX7_isGuest := goodIn_r _ [6, 1, 7, 8, 5, 9, 47, 48, 49, 50, 51, 52, 53, 54, 55, 56, 57, 58, 59, 60, 61, 62, 63, 64, 65, 66, 67, 68, 69, 70, 71] (by decide +kernel) (by decide +kernel)
set_option maxRecDepth 20000 in
theorem gX7_out_X7_isGuest : GoodIn wsX7_out (wsV RX7 177 RX7 yX7_isGuest wsX7_isGuest) := goodIn_app (goodIn_of _ (by decide +kernel)) ggX7_out_X7_isGuest
set_option maxRecDepth 20000 in
theorem ggX7_out_X7_copies : GoodIn wsX7_out wsX7_copies := goodIn_r _ [13, 1, 47, 48, 49, 50, 51, 52, 53, 54, 55, 56, 57, 58, 59, 60, 61, 62, 63, 64, 65, 66, 67, 68, 69, 70, 71] (by decide +kernel) (by decide +kernel)
set_option maxRecDepth 20000 in
theorem gX7_out_X7_copies : GoodIn wsX7_out (wsV RX7 202 RX7 yX7_copies wsX7_copies) := goodIn_app (goodIn_of _ (by decide +kernel)) ggX7_out_X7_copies
set_option maxRecDepth 20000 in
theorem ggX7_out_X7_dayOn : GoodIn wsX7_out wsX7_dayOn := goodIn_r _ [17, 1, 18, 19, 20, 21, 5, 22, 23, 24, 25, 26, 27, 28, 29, 30, 31, 32, 33, 34, 35, 36, 37, 38, 39, 40, 41, 42, 43, 44, 45, 46, 47, 48, 49, 50, 51, 52, 53, 54, 55, 56, 57, 58, 59, 60, 61, 62, 63, 64, 65, 66, 67, 68, 69, 70, 71] (by decide +kernel) (by decide +kernel)
set_option maxRecDepth 20000 in
theorem gX7_out_X7_dayOn : GoodIn wsX7_out (wsV RX7 198 RX7 yX7_dayOn wsX7_dayOn) := goodIn_app (goodIn_of _ (by decide +kernel)) ggX7_out_X7_dayOn
theorem dX7_out_0 : decode cX7_out 0 = .ok (.aload_n 0, 1) := by decide +kernel
theorem dX7_out_1 : decode cX7_out 1 = .ok (.iload_n 1, 1) := by decide +kernel
theorem dX7_out_2 : decode cX7_out 2 = .ok (.invokevirtual 177, 3) := by decide +kernel
theorem dX7_out_5 : decode cX7_out 5 = .ok (.ifCond .ne 5, 3) := by decide +kernel
theorem dX7_out_8 : decode cX7_out 8 = .ok (.iconst (-1), 1) := by decide +kernel
theorem dX7_out_9 : decode cX7_out 9 = .ok (.ireturn, 1) := by decide +kernel
theorem dX7_out_10 : decode cX7_out 10 = .ok (.aload_n 0, 1) := by decide +kernel
theorem dX7_out_11 : decode cX7_out 11 = .ok (.iconst 0, 1) := by decide +kernel
theorem dX7_out_12 : decode cX7_out 12 = .ok (.sipush 212, 3) := by decide +kernel
theorem dX7_out_15 : decode cX7_out 15 = .ok (.invokevirtual 202, 3) := by decide +kernel
theorem dX7_out_18 : decode cX7_out 18 = .ok (.iconst 0, 1) := by decide +kernel
theorem dX7_out_19 : decode cX7_out 19 = .ok (.istore_n 2, 1) := by decide +kernel
theorem dX7_out_20 : decode cX7_out 20 = .ok (.iload_n 2, 1) := by decide +kernel
theorem dX7_out_21 : decode cX7_out 21 = .ok (.bipush 60, 2) := by decide +kernel
theorem dX7_out_23 : decode cX7_out 23 = .ok (.if_icmp .gt 33, 3) := by decide +kernel
theorem dX7_out_26 : decode cX7_out 26 = .ok (.aload_n 0, 1) := by decide +kernel
theorem dX7_out_27 : decode cX7_out 27 = .ok (.getfield 7, 3) := by decide +kernel
theorem dX7_out_30 : decode cX7_out 30 = .ok (.sipush 259, 3) := by decide +kernel
theorem dX7_out_33 : decode cX7_out 33 = .ok (.iload_n 1, 1) := by decide +kernel
theorem dX7_out_34 : decode cX7_out 34 = .ok (.iadd, 1) := by decide +kernel
theorem dX7_out_35 : decode cX7_out 35 = .ok (.iaload, 1) := by decide +kernel
theorem dX7_out_36 : decode cX7_out 36 = .ok (.iconst 1, 1) := by decide +kernel
theorem dX7_out_37 : decode cX7_out 37 = .ok (.if_icmp .ne 5, 3) := by decide +kernel
theorem dX7_out_40 : decode cX7_out 40 = .ok (.iload_n 2, 1) := by decide +kernel
theorem dX7_out_41 : decode cX7_out 41 = .ok (.ireturn, 1) := by decide +kernel
theorem dX7_out_42 : decode cX7_out 42 = .ok (.aload_n 0, 1) := by decide +kernel
theorem dX7_out_43 : decode cX7_out 43 = .ok (.sipush 212, 3) := by decide +kernel
theorem dX7_out_46 : decode cX7_out 46 = .ok (.iconst 0, 1) := by decide +kernel
theorem dX7_out_47 : decode cX7_out 47 = .ok (.invokevirtual 198, 3) := by decide +kernel
theorem dX7_out_50 : decode cX7_out 50 = .ok (.iinc 2 1, 3) := by decide +kernel
theorem dX7_out_53 : decode cX7_out 53 = .ok (.goto (-33), 3) := by decide +kernel
theorem dX7_out_56 : decode cX7_out 56 = .ok (.bipush (-4), 2) := by decide +kernel
theorem dX7_out_58 : decode cX7_out 58 = .ok (.ireturn, 1) := by decide +kernel
set_option maxRecDepth 20000 in
theorem ggX7_again_X7_copies : GoodIn wsX7_again wsX7_copies := goodIn_r _ [6, 1, 44, 45, 46, 47, 48, 49, 50, 51, 52, 53, 54, 55, 56, 57, 58, 59, 60, 61, 62, 63, 64, 65, 66, 67, 68] (by decide +kernel) (by decide +kernel)
set_option maxRecDepth 20000 in
theorem gX7_again_X7_copies : GoodIn wsX7_again (wsV RX7 202 RX7 yX7_copies wsX7_copies) := goodIn_app (goodIn_of _ (by decide +kernel)) ggX7_again_X7_copies
set_option maxRecDepth 20000 in
theorem ggX7_again_X7_dayOn : GoodIn wsX7_again wsX7_dayOn := goodIn_r _ [10, 1, 11, 12, 13, 14, 5, 15, 16, 17, 18, 19, 20, 21, 22, 23, 24, 25, 26, 27, 28, 29, 30, 31, 32, 33, 34, 35, 36, 37, 38, 39, 44, 45, 46, 47, 48, 49, 50, 51, 52, 53, 54, 55, 56, 57, 58, 59, 60, 61, 62, 63, 64, 65, 66, 67, 68] (by decide +kernel) (by decide +kernel)
set_option maxRecDepth 20000 in
theorem gX7_again_X7_dayOn : GoodIn wsX7_again (wsV RX7 198 RX7 yX7_dayOn wsX7_dayOn) := goodIn_app (goodIn_of _ (by decide +kernel)) ggX7_again_X7_dayOn
set_option maxRecDepth 20000 in
theorem ggX7_again_X7_standOn : GoodIn wsX7_again wsX7_standOn := goodIn_r _ [43, 1, 44, 45, 46, 47, 48, 49, 50, 51, 52, 53, 54, 55, 56, 57, 58, 59, 60, 61, 62, 63, 64, 65, 66, 67, 68] (by decide +kernel) (by decide +kernel)
set_option maxRecDepth 20000 in
theorem gX7_again_X7_standOn : GoodIn wsX7_again (wsV RX7 156 RX7 yX7_standOn wsX7_standOn) := goodIn_app (goodIn_of _ (by decide +kernel)) ggX7_again_X7_standOn
theorem dX7_again_0 : decode cX7_again 0 = .ok (.aload_n 0, 1) := by decide +kernel
theorem dX7_again_1 : decode cX7_again 1 = .ok (.iconst 0, 1) := by decide +kernel
theorem dX7_again_2 : decode cX7_again 2 = .ok (.sipush 212, 3) := by decide +kernel
theorem dX7_again_5 : decode cX7_again 5 = .ok (.invokevirtual 202, 3) := by decide +kernel
theorem dX7_again_8 : decode cX7_again 8 = .ok (.aload_n 0, 1) := by decide +kernel
theorem dX7_again_9 : decode cX7_again 9 = .ok (.getfield 7, 3) := by decide +kernel
theorem dX7_again_12 : decode cX7_again 12 = .ok (.bipush 37, 2) := by decide +kernel
theorem dX7_again_14 : decode cX7_again 14 = .ok (.iaload, 1) := by decide +kernel
theorem dX7_again_15 : decode cX7_again 15 = .ok (.istore_n 1, 1) := by decide +kernel
theorem dX7_again_16 : decode cX7_again 16 = .ok (.iconst 1, 1) := by decide +kernel
theorem dX7_again_17 : decode cX7_again 17 = .ok (.istore_n 2, 1) := by decide +kernel
theorem dX7_again_18 : decode cX7_again 18 = .ok (.iload_n 2, 1) := by decide +kernel
theorem dX7_again_19 : decode cX7_again 19 = .ok (.bipush 60, 2) := by decide +kernel
theorem dX7_again_21 : decode cX7_again 21 = .ok (.if_icmp .gt 121, 3) := by decide +kernel
theorem dX7_again_24 : decode cX7_again 24 = .ok (.aload_n 0, 1) := by decide +kernel
theorem dX7_again_25 : decode cX7_again 25 = .ok (.sipush 212, 3) := by decide +kernel
theorem dX7_again_28 : decode cX7_again 28 = .ok (.iconst 0, 1) := by decide +kernel
theorem dX7_again_29 : decode cX7_again 29 = .ok (.invokevirtual 198, 3) := by decide +kernel
theorem dX7_again_32 : decode cX7_again 32 = .ok (.aload_n 0, 1) := by decide +kernel
theorem dX7_again_33 : decode cX7_again 33 = .ok (.sipush 212, 3) := by decide +kernel
theorem dX7_again_36 : decode cX7_again 36 = .ok (.invokevirtual 156, 3) := by decide +kernel
theorem dX7_again_39 : decode cX7_again 39 = .ok (.aload_n 0, 1) := by decide +kernel
theorem dX7_again_40 : decode cX7_again 40 = .ok (.iconst 0, 1) := by decide +kernel
theorem dX7_again_41 : decode cX7_again 41 = .ok (.invokevirtual 156, 3) := by decide +kernel
theorem dX7_again_44 : decode cX7_again 44 = .ok (.if_icmp .ne 35, 3) := by decide +kernel
theorem dX7_again_47 : decode cX7_again 47 = .ok (.aload_n 0, 1) := by decide +kernel
theorem dX7_again_48 : decode cX7_again 48 = .ok (.getfield 7, 3) := by decide +kernel
theorem dX7_again_51 : decode cX7_again 51 = .ok (.sipush 250, 3) := by decide +kernel
theorem dX7_again_54 : decode cX7_again 54 = .ok (.iaload, 1) := by decide +kernel
theorem dX7_again_55 : decode cX7_again 55 = .ok (.aload_n 0, 1) := by decide +kernel
theorem dX7_again_56 : decode cX7_again 56 = .ok (.getfield 7, 3) := by decide +kernel
theorem dX7_again_59 : decode cX7_again 59 = .ok (.bipush 38, 2) := by decide +kernel
theorem dX7_again_61 : decode cX7_again 61 = .ok (.iaload, 1) := by decide +kernel
theorem dX7_again_62 : decode cX7_again 62 = .ok (.if_icmp .ne 17, 3) := by decide +kernel
theorem dX7_again_65 : decode cX7_again 65 = .ok (.iload_n 1, 1) := by decide +kernel
theorem dX7_again_66 : decode cX7_again 66 = .ok (.ifCond .eq 9, 3) := by decide +kernel
theorem dX7_again_69 : decode cX7_again 69 = .ok (.iload_n 2, 1) := by decide +kernel
theorem dX7_again_70 : decode cX7_again 70 = .ok (.iload_n 1, 1) := by decide +kernel
theorem dX7_again_71 : decode cX7_again 71 = .ok (.irem, 1) := by decide +kernel
theorem dX7_again_72 : decode cX7_again 72 = .ok (.ifCond .ne 7, 3) := by decide +kernel
theorem dX7_again_75 : decode cX7_again 75 = .ok (.iconst 1, 1) := by decide +kernel
theorem dX7_again_76 : decode cX7_again 76 = .ok (.goto 4, 3) := by decide +kernel
theorem dX7_again_79 : decode cX7_again 79 = .ok (.iconst 0, 1) := by decide +kernel
theorem dX7_again_80 : decode cX7_again 80 = .ok (.istore_n 3, 1) := by decide +kernel
theorem dX7_again_81 : decode cX7_again 81 = .ok (.iconst 0, 1) := by decide +kernel
theorem dX7_again_82 : decode cX7_again 82 = .ok (.istore 4, 2) := by decide +kernel
theorem dX7_again_84 : decode cX7_again 84 = .ok (.iload 4, 2) := by decide +kernel
theorem dX7_again_86 : decode cX7_again 86 = .ok (.iload_n 1, 1) := by decide +kernel
theorem dX7_again_87 : decode cX7_again 87 = .ok (.if_icmp .ge 43, 3) := by decide +kernel
theorem dX7_again_90 : decode cX7_again 90 = .ok (.iload_n 3, 1) := by decide +kernel
theorem dX7_again_91 : decode cX7_again 91 = .ok (.ifCond .eq 31, 3) := by decide +kernel
theorem dX7_again_94 : decode cX7_again 94 = .ok (.aload_n 0, 1) := by decide +kernel
theorem dX7_again_95 : decode cX7_again 95 = .ok (.getfield 7, 3) := by decide +kernel
theorem dX7_again_98 : decode cX7_again 98 = .ok (.sipush 241, 3) := by decide +kernel
theorem dX7_again_101 : decode cX7_again 101 = .ok (.iload 4, 2) := by decide +kernel
theorem dX7_again_103 : decode cX7_again 103 = .ok (.iadd, 1) := by decide +kernel
theorem dX7_again_104 : decode cX7_again 104 = .ok (.iaload, 1) := by decide +kernel
theorem dX7_again_105 : decode cX7_again 105 = .ok (.aload_n 0, 1) := by decide +kernel
theorem dX7_again_106 : decode cX7_again 106 = .ok (.getfield 7, 3) := by decide +kernel
theorem dX7_again_109 : decode cX7_again 109 = .ok (.bipush 29, 2) := by decide +kernel
theorem dX7_again_111 : decode cX7_again 111 = .ok (.iload 4, 2) := by decide +kernel
theorem dX7_again_113 : decode cX7_again 113 = .ok (.iadd, 1) := by decide +kernel
theorem dX7_again_114 : decode cX7_again 114 = .ok (.iaload, 1) := by decide +kernel
theorem dX7_again_115 : decode cX7_again 115 = .ok (.if_icmp .ne 7, 3) := by decide +kernel
theorem dX7_again_118 : decode cX7_again 118 = .ok (.iconst 1, 1) := by decide +kernel
theorem dX7_again_119 : decode cX7_again 119 = .ok (.goto 4, 3) := by decide +kernel
theorem dX7_again_122 : decode cX7_again 122 = .ok (.iconst 0, 1) := by decide +kernel
theorem dX7_again_123 : decode cX7_again 123 = .ok (.istore_n 3, 1) := by decide +kernel
theorem dX7_again_124 : decode cX7_again 124 = .ok (.iinc 4 1, 3) := by decide +kernel
theorem dX7_again_127 : decode cX7_again 127 = .ok (.goto (-43), 3) := by decide +kernel
theorem dX7_again_130 : decode cX7_again 130 = .ok (.iload_n 3, 1) := by decide +kernel
theorem dX7_again_131 : decode cX7_again 131 = .ok (.ifCond .eq 5, 3) := by decide +kernel
theorem dX7_again_134 : decode cX7_again 134 = .ok (.iload_n 2, 1) := by decide +kernel
theorem dX7_again_135 : decode cX7_again 135 = .ok (.ireturn, 1) := by decide +kernel
theorem dX7_again_136 : decode cX7_again 136 = .ok (.iinc 2 1, 3) := by decide +kernel
theorem dX7_again_139 : decode cX7_again 139 = .ok (.goto (-121), 3) := by decide +kernel
theorem dX7_again_142 : decode cX7_again 142 = .ok (.bipush (-4), 2) := by decide +kernel
theorem dX7_again_144 : decode cX7_again 144 = .ok (.ireturn, 1) := by decide +kernel
set_option maxRecDepth 20000 in
theorem ggX7_cut_X7_in : GoodIn wsX7_cut wsX7_in := goodIn_r _ [6] (by decide +kernel) (by decide +kernel)
set_option maxRecDepth 20000 in
theorem gX7_cut_X7_in : GoodIn wsX7_cut (va_wsS RX7 53 yX7_in wsX7_in) := goodIn_app (goodIn_of _ (by decide +kernel)) ggX7_cut_X7_in
set_option maxRecDepth 20000 in
theorem ggX7_cut_X7_daysGo : GoodIn wsX7_cut wsX7_daysGo := goodIn_r _ [10, 11, 12, 13, 5, 14, 2, 15, 16, 17, 18, 19, 20, 21, 22, 23, 24, 25, 26, 27, 28, 29, 30, 31, 32, 33, 34, 35, 36, 37, 38, 39, 40, 41, 42, 43, 44, 45, 46, 47, 48, 49, 50, 51, 52, 53, 54, 55, 56, 57, 58, 59, 60, 61, 62, 63, 64, 65, 66, 67, 68, 69, 70, 71, 72, 73, 74, 75, 76, 77, 78, 79] (by decide +kernel) (by decide +kernel)
set_option maxRecDepth 20000 in
theorem gX7_cut_X7_daysGo : GoodIn wsX7_cut (wsV RX7 205 RX7 yX7_daysGo wsX7_daysGo) := goodIn_app (goodIn_of _ (by decide +kernel)) ggX7_cut_X7_daysGo
set_option maxRecDepth 20000 in
theorem ggX7_cut_X7_copies : GoodIn wsX7_cut wsX7_copies := goodIn_r _ [14, 2, 55, 56, 57, 58, 59, 60, 61, 62, 63, 64, 65, 66, 67, 68, 69, 70, 71, 72, 73, 74, 75, 76, 77, 78, 79] (by decide +kernel) (by decide +kernel)
set_option maxRecDepth 20000 in
theorem gX7_cut_X7_copies : GoodIn wsX7_cut (wsV RX7 202 RX7 yX7_copies wsX7_copies) := goodIn_app (goodIn_of _ (by decide +kernel)) ggX7_cut_X7_copies
theorem dX7_cut_0 : decode cX7_cut 0 = .ok (.iload_n 1, 1) := by decide +kernel
theorem dX7_cut_1 : decode cX7_cut 1 = .ok (.i2l, 1) := by decide +kernel
theorem dX7_cut_2 : decode cX7_cut 2 = .ok (.lconst 0, 1) := by decide +kernel
theorem dX7_cut_3 : decode cX7_cut 3 = .ok (.ldc2_w 194, 3) := by decide +kernel
theorem dX7_cut_6 : decode cX7_cut 6 = .ok (.invokestatic 53, 3) := by decide +kernel
theorem dX7_cut_9 : decode cX7_cut 9 = .ok (.ifCond .eq 13, 3) := by decide +kernel
theorem dX7_cut_12 : decode cX7_cut 12 = .ok (.iload_n 2, 1) := by decide +kernel
theorem dX7_cut_13 : decode cX7_cut 13 = .ok (.i2l, 1) := by decide +kernel
theorem dX7_cut_14 : decode cX7_cut 14 = .ok (.lconst 0, 1) := by decide +kernel
theorem dX7_cut_15 : decode cX7_cut 15 = .ok (.lconst 1, 1) := by decide +kernel
theorem dX7_cut_16 : decode cX7_cut 16 = .ok (.invokestatic 53, 3) := by decide +kernel
theorem dX7_cut_19 : decode cX7_cut 19 = .ok (.ifCond .ne 5, 3) := by decide +kernel
theorem dX7_cut_22 : decode cX7_cut 22 = .ok (.iconst (-1), 1) := by decide +kernel
theorem dX7_cut_23 : decode cX7_cut 23 = .ok (.ireturn, 1) := by decide +kernel
theorem dX7_cut_24 : decode cX7_cut 24 = .ok (.aload_n 0, 1) := by decide +kernel
theorem dX7_cut_25 : decode cX7_cut 25 = .ok (.iconst 0, 1) := by decide +kernel
theorem dX7_cut_26 : decode cX7_cut 26 = .ok (.iload_n 1, 1) := by decide +kernel
theorem dX7_cut_27 : decode cX7_cut 27 = .ok (.invokevirtual 205, 3) := by decide +kernel
theorem dX7_cut_30 : decode cX7_cut 30 = .ok (.istore_n 3, 1) := by decide +kernel
theorem dX7_cut_31 : decode cX7_cut 31 = .ok (.bipush (-4), 2) := by decide +kernel
theorem dX7_cut_33 : decode cX7_cut 33 = .ok (.istore 4, 2) := by decide +kernel
theorem dX7_cut_35 : decode cX7_cut 35 = .ok (.iconst 0, 1) := by decide +kernel
theorem dX7_cut_36 : decode cX7_cut 36 = .ok (.istore 5, 2) := by decide +kernel
theorem dX7_cut_38 : decode cX7_cut 38 = .ok (.iload 5, 2) := by decide +kernel
theorem dX7_cut_40 : decode cX7_cut 40 = .ok (.bipush 24, 2) := by decide +kernel
theorem dX7_cut_42 : decode cX7_cut 42 = .ok (.if_icmp .ge 75, 3) := by decide +kernel
theorem dX7_cut_45 : decode cX7_cut 45 = .ok (.aload_n 0, 1) := by decide +kernel
theorem dX7_cut_46 : decode cX7_cut 46 = .ok (.iconst 0, 1) := by decide +kernel
theorem dX7_cut_47 : decode cX7_cut 47 = .ok (.sipush 265, 3) := by decide +kernel
theorem dX7_cut_50 : decode cX7_cut 50 = .ok (.invokevirtual 202, 3) := by decide +kernel
theorem dX7_cut_53 : decode cX7_cut 53 = .ok (.aload_n 0, 1) := by decide +kernel
theorem dX7_cut_54 : decode cX7_cut 54 = .ok (.getfield 7, 3) := by decide +kernel
theorem dX7_cut_57 : decode cX7_cut 57 = .ok (.sipush 265, 3) := by decide +kernel
theorem dX7_cut_60 : decode cX7_cut 60 = .ok (.iload 5, 2) := by decide +kernel
theorem dX7_cut_62 : decode cX7_cut 62 = .ok (.iadd, 1) := by decide +kernel
theorem dX7_cut_63 : decode cX7_cut 63 = .ok (.iconst 1, 1) := by decide +kernel
theorem dX7_cut_64 : decode cX7_cut 64 = .ok (.aload_n 0, 1) := by decide +kernel
theorem dX7_cut_65 : decode cX7_cut 65 = .ok (.getfield 7, 3) := by decide +kernel
theorem dX7_cut_68 : decode cX7_cut 68 = .ok (.iload 5, 2) := by decide +kernel
theorem dX7_cut_70 : decode cX7_cut 70 = .ok (.iaload, 1) := by decide +kernel
theorem dX7_cut_71 : decode cX7_cut 71 = .ok (.isub, 1) := by decide +kernel
theorem dX7_cut_72 : decode cX7_cut 72 = .ok (.iastore, 1) := by decide +kernel
theorem dX7_cut_73 : decode cX7_cut 73 = .ok (.aload_n 0, 1) := by decide +kernel
theorem dX7_cut_74 : decode cX7_cut 74 = .ok (.sipush 265, 3) := by decide +kernel
theorem dX7_cut_77 : decode cX7_cut 77 = .ok (.iload_n 1, 1) := by decide +kernel
theorem dX7_cut_78 : decode cX7_cut 78 = .ok (.invokevirtual 205, 3) := by decide +kernel
theorem dX7_cut_81 : decode cX7_cut 81 = .ok (.istore 6, 2) := by decide +kernel
theorem dX7_cut_83 : decode cX7_cut 83 = .ok (.iload 6, 2) := by decide +kernel
theorem dX7_cut_85 : decode cX7_cut 85 = .ok (.iload_n 3, 1) := by decide +kernel
theorem dX7_cut_86 : decode cX7_cut 86 = .ok (.if_icmp .le 8, 3) := by decide +kernel
theorem dX7_cut_89 : decode cX7_cut 89 = .ok (.iload 5, 2) := by decide +kernel
theorem dX7_cut_91 : decode cX7_cut 91 = .ok (.goto 5, 3) := by decide +kernel
theorem dX7_cut_94 : decode cX7_cut 94 = .ok (.iload 4, 2) := by decide +kernel
theorem dX7_cut_96 : decode cX7_cut 96 = .ok (.istore 4, 2) := by decide +kernel
theorem dX7_cut_98 : decode cX7_cut 98 = .ok (.iload 6, 2) := by decide +kernel
theorem dX7_cut_100 : decode cX7_cut 100 = .ok (.iload_n 3, 1) := by decide +kernel
theorem dX7_cut_101 : decode cX7_cut 101 = .ok (.if_icmp .le 8, 3) := by decide +kernel
theorem dX7_cut_104 : decode cX7_cut 104 = .ok (.iload 6, 2) := by decide +kernel
theorem dX7_cut_106 : decode cX7_cut 106 = .ok (.goto 4, 3) := by decide +kernel
theorem dX7_cut_109 : decode cX7_cut 109 = .ok (.iload_n 3, 1) := by decide +kernel
theorem dX7_cut_110 : decode cX7_cut 110 = .ok (.istore_n 3, 1) := by decide +kernel
theorem dX7_cut_111 : decode cX7_cut 111 = .ok (.iinc 5 1, 3) := by decide +kernel
theorem dX7_cut_114 : decode cX7_cut 114 = .ok (.goto (-76), 3) := by decide +kernel
theorem dX7_cut_117 : decode cX7_cut 117 = .ok (.iload 4, 2) := by decide +kernel
theorem dX7_cut_119 : decode cX7_cut 119 = .ok (.bipush (-4), 2) := by decide +kernel
theorem dX7_cut_121 : decode cX7_cut 121 = .ok (.if_icmp .eq 7, 3) := by decide +kernel
theorem dX7_cut_124 : decode cX7_cut 124 = .ok (.iload_n 2, 1) := by decide +kernel
theorem dX7_cut_125 : decode cX7_cut 125 = .ok (.ifCond .ne 8, 3) := by decide +kernel
theorem dX7_cut_128 : decode cX7_cut 128 = .ok (.iload 4, 2) := by decide +kernel
theorem dX7_cut_130 : decode cX7_cut 130 = .ok (.goto 4, 3) := by decide +kernel
theorem dX7_cut_133 : decode cX7_cut 133 = .ok (.iload_n 3, 1) := by decide +kernel
theorem dX7_cut_134 : decode cX7_cut 134 = .ok (.ireturn, 1) := by decide +kernel
set_option maxRecDepth 20000 in
theorem ggX7_door_X7_in : GoodIn wsX7_door wsX7_in := goodIn_r _ [6] (by decide +kernel) (by decide +kernel)
set_option maxRecDepth 20000 in
theorem gX7_door_X7_in : GoodIn wsX7_door (va_wsS RX7 53 yX7_in wsX7_in) := goodIn_app (goodIn_of _ (by decide +kernel)) ggX7_door_X7_in
set_option maxRecDepth 20000 in
theorem ggX7_door_X7_copies : GoodIn wsX7_door wsX7_copies := goodIn_r _ [10, 2, 55, 56, 57, 58, 59, 60, 61, 62, 63, 64, 65, 66, 67, 68, 69, 70, 71, 72, 73, 74, 75, 76, 77, 78, 79] (by decide +kernel) (by decide +kernel)
set_option maxRecDepth 20000 in
theorem gX7_door_X7_copies : GoodIn wsX7_door (wsV RX7 202 RX7 yX7_copies wsX7_copies) := goodIn_app (goodIn_of _ (by decide +kernel)) ggX7_door_X7_copies
set_option maxRecDepth 20000 in
theorem ggX7_door_X7_daysGo : GoodIn wsX7_door wsX7_daysGo := goodIn_r _ [14, 7, 8, 9, 5, 10, 2, 15, 16, 17, 18, 19, 20, 21, 22, 23, 24, 25, 26, 27, 28, 29, 30, 31, 32, 33, 34, 35, 36, 37, 38, 39, 40, 41, 42, 43, 44, 45, 46, 47, 48, 49, 50, 51, 52, 53, 54, 55, 56, 57, 58, 59, 60, 61, 62, 63, 64, 65, 66, 67, 68, 69, 70, 71, 72, 73, 74, 75, 76, 77, 78, 79] (by decide +kernel) (by decide +kernel)
set_option maxRecDepth 20000 in
theorem gX7_door_X7_daysGo : GoodIn wsX7_door (wsV RX7 205 RX7 yX7_daysGo wsX7_daysGo) := goodIn_app (goodIn_of _ (by decide +kernel)) ggX7_door_X7_daysGo
theorem dX7_door_0 : decode cX7_door 0 = .ok (.iload_n 1, 1) := by decide +kernel
theorem dX7_door_1 : decode cX7_door 1 = .ok (.i2l, 1) := by decide +kernel
theorem dX7_door_2 : decode cX7_door 2 = .ok (.lconst 0, 1) := by decide +kernel
theorem dX7_door_3 : decode cX7_door 3 = .ok (.ldc2_w 194, 3) := by decide +kernel
theorem dX7_door_6 : decode cX7_door 6 = .ok (.invokestatic 53, 3) := by decide +kernel
theorem dX7_door_9 : decode cX7_door 9 = .ok (.ifCond .eq 13, 3) := by decide +kernel
theorem dX7_door_12 : decode cX7_door 12 = .ok (.iload_n 2, 1) := by decide +kernel
theorem dX7_door_13 : decode cX7_door 13 = .ok (.i2l, 1) := by decide +kernel
theorem dX7_door_14 : decode cX7_door 14 = .ok (.lconst 0, 1) := by decide +kernel
theorem dX7_door_15 : decode cX7_door 15 = .ok (.lconst 1, 1) := by decide +kernel
theorem dX7_door_16 : decode cX7_door 16 = .ok (.invokestatic 53, 3) := by decide +kernel
theorem dX7_door_19 : decode cX7_door 19 = .ok (.ifCond .ne 5, 3) := by decide +kernel
theorem dX7_door_22 : decode cX7_door 22 = .ok (.iconst (-1), 1) := by decide +kernel
theorem dX7_door_23 : decode cX7_door 23 = .ok (.ireturn, 1) := by decide +kernel
theorem dX7_door_24 : decode cX7_door 24 = .ok (.iconst (-1), 1) := by decide +kernel
theorem dX7_door_25 : decode cX7_door 25 = .ok (.istore_n 3, 1) := by decide +kernel
theorem dX7_door_26 : decode cX7_door 26 = .ok (.iconst 0, 1) := by decide +kernel
theorem dX7_door_27 : decode cX7_door 27 = .ok (.istore 4, 2) := by decide +kernel
theorem dX7_door_29 : decode cX7_door 29 = .ok (.aload_n 0, 1) := by decide +kernel
theorem dX7_door_30 : decode cX7_door 30 = .ok (.iconst 0, 1) := by decide +kernel
theorem dX7_door_31 : decode cX7_door 31 = .ok (.sipush 265, 3) := by decide +kernel
theorem dX7_door_34 : decode cX7_door 34 = .ok (.invokevirtual 202, 3) := by decide +kernel
theorem dX7_door_37 : decode cX7_door 37 = .ok (.iconst 0, 1) := by decide +kernel
theorem dX7_door_38 : decode cX7_door 38 = .ok (.istore 5, 2) := by decide +kernel
theorem dX7_door_40 : decode cX7_door 40 = .ok (.iload 5, 2) := by decide +kernel
theorem dX7_door_42 : decode cX7_door 42 = .ok (.bipush 16, 2) := by decide +kernel
theorem dX7_door_44 : decode cX7_door 44 = .ok (.if_icmp .ge 57, 3) := by decide +kernel
theorem dX7_door_47 : decode cX7_door 47 = .ok (.aload_n 0, 1) := by decide +kernel
theorem dX7_door_48 : decode cX7_door 48 = .ok (.getfield 7, 3) := by decide +kernel
theorem dX7_door_51 : decode cX7_door 51 = .ok (.sipush 289, 3) := by decide +kernel
theorem dX7_door_54 : decode cX7_door 54 = .ok (.iload 5, 2) := by decide +kernel
theorem dX7_door_56 : decode cX7_door 56 = .ok (.iastore, 1) := by decide +kernel
theorem dX7_door_57 : decode cX7_door 57 = .ok (.aload_n 0, 1) := by decide +kernel
theorem dX7_door_58 : decode cX7_door 58 = .ok (.sipush 265, 3) := by decide +kernel
theorem dX7_door_61 : decode cX7_door 61 = .ok (.iload_n 1, 1) := by decide +kernel
theorem dX7_door_62 : decode cX7_door 62 = .ok (.invokevirtual 205, 3) := by decide +kernel
theorem dX7_door_65 : decode cX7_door 65 = .ok (.istore 6, 2) := by decide +kernel
theorem dX7_door_67 : decode cX7_door 67 = .ok (.iload 6, 2) := by decide +kernel
theorem dX7_door_69 : decode cX7_door 69 = .ok (.iload_n 3, 1) := by decide +kernel
theorem dX7_door_70 : decode cX7_door 70 = .ok (.if_icmp .le 8, 3) := by decide +kernel
theorem dX7_door_73 : decode cX7_door 73 = .ok (.iload 5, 2) := by decide +kernel
theorem dX7_door_75 : decode cX7_door 75 = .ok (.goto 5, 3) := by decide +kernel
theorem dX7_door_78 : decode cX7_door 78 = .ok (.iload 4, 2) := by decide +kernel
theorem dX7_door_80 : decode cX7_door 80 = .ok (.istore 4, 2) := by decide +kernel
theorem dX7_door_82 : decode cX7_door 82 = .ok (.iload 6, 2) := by decide +kernel
theorem dX7_door_84 : decode cX7_door 84 = .ok (.iload_n 3, 1) := by decide +kernel
theorem dX7_door_85 : decode cX7_door 85 = .ok (.if_icmp .le 8, 3) := by decide +kernel
theorem dX7_door_88 : decode cX7_door 88 = .ok (.iload 6, 2) := by decide +kernel
theorem dX7_door_90 : decode cX7_door 90 = .ok (.goto 4, 3) := by decide +kernel
theorem dX7_door_93 : decode cX7_door 93 = .ok (.iload_n 3, 1) := by decide +kernel
theorem dX7_door_94 : decode cX7_door 94 = .ok (.istore_n 3, 1) := by decide +kernel
theorem dX7_door_95 : decode cX7_door 95 = .ok (.iinc 5 1, 3) := by decide +kernel
theorem dX7_door_98 : decode cX7_door 98 = .ok (.goto (-58), 3) := by decide +kernel
theorem dX7_door_101 : decode cX7_door 101 = .ok (.iload_n 2, 1) := by decide +kernel
theorem dX7_door_102 : decode cX7_door 102 = .ok (.ifCond .ne 8, 3) := by decide +kernel
theorem dX7_door_105 : decode cX7_door 105 = .ok (.iload 4, 2) := by decide +kernel
theorem dX7_door_107 : decode cX7_door 107 = .ok (.goto 4, 3) := by decide +kernel
theorem dX7_door_110 : decode cX7_door 110 = .ok (.iload_n 3, 1) := by decide +kernel
theorem dX7_door_111 : decode cX7_door 111 = .ok (.ireturn, 1) := by decide +kernel
set_option maxRecDepth 20000 in
theorem ggX7_food_X7_isGuest : GoodIn wsX7_food wsX7_isGuest := goodIn_r _ [6, 1, 7, 8, 5, 9, 58, 59, 60, 61, 62, 63, 64, 65, 66, 67, 68, 69, 70, 71, 72, 73, 74, 75, 76, 77, 78, 79, 80, 81, 82] (by decide +kernel) (by decide +kernel)
set_option maxRecDepth 20000 in
theorem gX7_food_X7_isGuest : GoodIn wsX7_food (wsV RX7 177 RX7 yX7_isGuest wsX7_isGuest) := goodIn_app (goodIn_of _ (by decide +kernel)) ggX7_food_X7_isGuest
set_option maxRecDepth 20000 in
theorem ggX7_food_X7_copies : GoodIn wsX7_food wsX7_copies := goodIn_r _ [13, 1, 58, 59, 60, 61, 62, 63, 64, 65, 66, 67, 68, 69, 70, 71, 72, 73, 74, 75, 76, 77, 78, 79, 80, 81, 82] (by decide +kernel) (by decide +kernel)
set_option maxRecDepth 20000 in
theorem gX7_food_X7_copies : GoodIn wsX7_food (wsV RX7 202 RX7 yX7_copies wsX7_copies) := goodIn_app (goodIn_of _ (by decide +kernel)) ggX7_food_X7_copies
set_option maxRecDepth 20000 in
theorem ggX7_food_X7_daysGo : GoodIn wsX7_food wsX7_daysGo := goodIn_r _ [17, 10, 11, 12, 5, 13, 1, 18, 19, 20, 21, 22, 23, 24, 25, 26, 27, 28, 29, 30, 31, 32, 33, 34, 35, 36, 37, 38, 39, 40, 41, 42, 43, 44, 45, 46, 47, 48, 49, 50, 51, 52, 53, 54, 55, 56, 57, 58, 59, 60, 61, 62, 63, 64, 65, 66, 67, 68, 69, 70, 71, 72, 73, 74, 75, 76, 77, 78, 79, 80, 81, 82] (by decide +kernel) (by decide +kernel)
set_option maxRecDepth 20000 in
theorem gX7_food_X7_daysGo : GoodIn wsX7_food (wsV RX7 205 RX7 yX7_daysGo wsX7_daysGo) := goodIn_app (goodIn_of _ (by decide +kernel)) ggX7_food_X7_daysGo
theorem dX7_food_0 : decode cX7_food 0 = .ok (.aload_n 0, 1) := by decide +kernel
theorem dX7_food_1 : decode cX7_food 1 = .ok (.iload_n 1, 1) := by decide +kernel
theorem dX7_food_2 : decode cX7_food 2 = .ok (.invokevirtual 177, 3) := by decide +kernel
theorem dX7_food_5 : decode cX7_food 5 = .ok (.ifCond .ne 5, 3) := by decide +kernel
theorem dX7_food_8 : decode cX7_food 8 = .ok (.iconst (-1), 1) := by decide +kernel
theorem dX7_food_9 : decode cX7_food 9 = .ok (.ireturn, 1) := by decide +kernel
theorem dX7_food_10 : decode cX7_food 10 = .ok (.aload_n 0, 1) := by decide +kernel
theorem dX7_food_11 : decode cX7_food 11 = .ok (.getfield 7, 3) := by decide +kernel
theorem dX7_food_14 : decode cX7_food 14 = .ok (.bipush 47, 2) := by decide +kernel
theorem dX7_food_16 : decode cX7_food 16 = .ok (.iload_n 1, 1) := by decide +kernel
theorem dX7_food_17 : decode cX7_food 17 = .ok (.iadd, 1) := by decide +kernel
theorem dX7_food_18 : decode cX7_food 18 = .ok (.iaload, 1) := by decide +kernel
theorem dX7_food_19 : decode cX7_food 19 = .ok (.ifCond .eq 6, 3) := by decide +kernel
theorem dX7_food_22 : decode cX7_food 22 = .ok (.bipush (-2), 2) := by decide +kernel
theorem dX7_food_24 : decode cX7_food 24 = .ok (.ireturn, 1) := by decide +kernel
theorem dX7_food_25 : decode cX7_food 25 = .ok (.aload_n 0, 1) := by decide +kernel
theorem dX7_food_26 : decode cX7_food 26 = .ok (.iconst 0, 1) := by decide +kernel
theorem dX7_food_27 : decode cX7_food 27 = .ok (.sipush 265, 3) := by decide +kernel
theorem dX7_food_30 : decode cX7_food 30 = .ok (.invokevirtual 202, 3) := by decide +kernel
theorem dX7_food_33 : decode cX7_food 33 = .ok (.iconst 0, 1) := by decide +kernel
theorem dX7_food_34 : decode cX7_food 34 = .ok (.istore_n 2, 1) := by decide +kernel
theorem dX7_food_35 : decode cX7_food 35 = .ok (.iload_n 2, 1) := by decide +kernel
theorem dX7_food_36 : decode cX7_food 36 = .ok (.bipush 60, 2) := by decide +kernel
theorem dX7_food_38 : decode cX7_food 38 = .ok (.if_icmp .gt 46, 3) := by decide +kernel
theorem dX7_food_41 : decode cX7_food 41 = .ok (.aload_n 0, 1) := by decide +kernel
theorem dX7_food_42 : decode cX7_food 42 = .ok (.getfield 7, 3) := by decide +kernel
theorem dX7_food_45 : decode cX7_food 45 = .ok (.sipush 308, 3) := by decide +kernel
theorem dX7_food_48 : decode cX7_food 48 = .ok (.iload_n 1, 1) := by decide +kernel
theorem dX7_food_49 : decode cX7_food 49 = .ok (.iadd, 1) := by decide +kernel
theorem dX7_food_50 : decode cX7_food 50 = .ok (.iload_n 2, 1) := by decide +kernel
theorem dX7_food_51 : decode cX7_food 51 = .ok (.iastore, 1) := by decide +kernel
theorem dX7_food_52 : decode cX7_food 52 = .ok (.aload_n 0, 1) := by decide +kernel
theorem dX7_food_53 : decode cX7_food 53 = .ok (.sipush 265, 3) := by decide +kernel
theorem dX7_food_56 : decode cX7_food 56 = .ok (.bipush 60, 2) := by decide +kernel
theorem dX7_food_58 : decode cX7_food 58 = .ok (.invokevirtual 205, 3) := by decide +kernel
theorem dX7_food_61 : decode cX7_food 61 = .ok (.pop, 1) := by decide +kernel
theorem dX7_food_62 : decode cX7_food 62 = .ok (.aload_n 0, 1) := by decide +kernel
theorem dX7_food_63 : decode cX7_food 63 = .ok (.getfield 7, 3) := by decide +kernel
theorem dX7_food_66 : decode cX7_food 66 = .ok (.sipush 259, 3) := by decide +kernel
theorem dX7_food_69 : decode cX7_food 69 = .ok (.iload_n 1, 1) := by decide +kernel
theorem dX7_food_70 : decode cX7_food 70 = .ok (.iadd, 1) := by decide +kernel
theorem dX7_food_71 : decode cX7_food 71 = .ok (.iaload, 1) := by decide +kernel
theorem dX7_food_72 : decode cX7_food 72 = .ok (.iconst 1, 1) := by decide +kernel
theorem dX7_food_73 : decode cX7_food 73 = .ok (.if_icmp .ne 5, 3) := by decide +kernel
theorem dX7_food_76 : decode cX7_food 76 = .ok (.iload_n 2, 1) := by decide +kernel
theorem dX7_food_77 : decode cX7_food 77 = .ok (.ireturn, 1) := by decide +kernel
theorem dX7_food_78 : decode cX7_food 78 = .ok (.iinc 2 1, 3) := by decide +kernel
theorem dX7_food_81 : decode cX7_food 81 = .ok (.goto (-46), 3) := by decide +kernel
theorem dX7_food_84 : decode cX7_food 84 = .ok (.bipush (-4), 2) := by decide +kernel
theorem dX7_food_86 : decode cX7_food 86 = .ok (.ireturn, 1) := by decide +kernel
set_option maxRecDepth 20000 in
theorem ggX7_sack_X7_in : GoodIn wsX7_sack wsX7_in := goodIn_r _ [7] (by decide +kernel) (by decide +kernel)
set_option maxRecDepth 20000 in
theorem gX7_sack_X7_in : GoodIn wsX7_sack (va_wsS RX7 53 yX7_in wsX7_in) := goodIn_app (goodIn_of _ (by decide +kernel)) ggX7_sack_X7_in
set_option maxRecDepth 20000 in
theorem ggX7_sack_X7_daysGo : GoodIn wsX7_sack wsX7_daysGo := goodIn_r _ [11, 12, 13, 14, 6, 15, 2, 16, 17, 18, 19, 3, 20, 21, 22, 23, 24, 25, 26, 27, 28, 29, 30, 31, 32, 33, 34, 35, 36, 37, 38, 39, 40, 41, 42, 43, 44, 45, 46, 47, 48, 49, 50, 51, 52, 53, 54, 55, 56, 57, 58, 59, 60, 61, 62, 63, 64, 65, 66, 67, 68, 69, 70, 71, 72, 73, 74, 75, 76, 77, 78, 79] (by decide +kernel) (by decide +kernel)
set_option maxRecDepth 20000 in
theorem gX7_sack_X7_daysGo : GoodIn wsX7_sack (wsV RX7 205 RX7 yX7_daysGo wsX7_daysGo) := goodIn_app (goodIn_of _ (by decide +kernel)) ggX7_sack_X7_daysGo
theorem dX7_sack_0 : decode cX7_sack 0 = .ok (.iload_n 1, 1) := by decide +kernel
theorem dX7_sack_1 : decode cX7_sack 1 = .ok (.i2l, 1) := by decide +kernel
theorem dX7_sack_2 : decode cX7_sack 2 = .ok (.lconst 0, 1) := by decide +kernel
theorem dX7_sack_3 : decode cX7_sack 3 = .ok (.ldc2_w 194, 3) := by decide +kernel
theorem dX7_sack_6 : decode cX7_sack 6 = .ok (.invokestatic 53, 3) := by decide +kernel
theorem dX7_sack_9 : decode cX7_sack 9 = .ok (.ifCond .eq 13, 3) := by decide +kernel
theorem dX7_sack_12 : decode cX7_sack 12 = .ok (.iload_n 2, 1) := by decide +kernel
theorem dX7_sack_13 : decode cX7_sack 13 = .ok (.i2l, 1) := by decide +kernel
theorem dX7_sack_14 : decode cX7_sack 14 = .ok (.lconst 0, 1) := by decide +kernel
theorem dX7_sack_15 : decode cX7_sack 15 = .ok (.lconst 1, 1) := by decide +kernel
theorem dX7_sack_16 : decode cX7_sack 16 = .ok (.invokestatic 53, 3) := by decide +kernel
theorem dX7_sack_19 : decode cX7_sack 19 = .ok (.ifCond .ne 5, 3) := by decide +kernel
theorem dX7_sack_22 : decode cX7_sack 22 = .ok (.iconst (-1), 1) := by decide +kernel
theorem dX7_sack_23 : decode cX7_sack 23 = .ok (.ireturn, 1) := by decide +kernel
theorem dX7_sack_24 : decode cX7_sack 24 = .ok (.aload_n 0, 1) := by decide +kernel
theorem dX7_sack_25 : decode cX7_sack 25 = .ok (.iconst 0, 1) := by decide +kernel
theorem dX7_sack_26 : decode cX7_sack 26 = .ok (.iload_n 1, 1) := by decide +kernel
theorem dX7_sack_27 : decode cX7_sack 27 = .ok (.invokevirtual 205, 3) := by decide +kernel
theorem dX7_sack_30 : decode cX7_sack 30 = .ok (.istore_n 3, 1) := by decide +kernel
theorem dX7_sack_31 : decode cX7_sack 31 = .ok (.bipush (-4), 2) := by decide +kernel
theorem dX7_sack_33 : decode cX7_sack 33 = .ok (.istore 4, 2) := by decide +kernel
theorem dX7_sack_35 : decode cX7_sack 35 = .ok (.iconst 0, 1) := by decide +kernel
theorem dX7_sack_36 : decode cX7_sack 36 = .ok (.istore 5, 2) := by decide +kernel
theorem dX7_sack_38 : decode cX7_sack 38 = .ok (.iload 5, 2) := by decide +kernel
theorem dX7_sack_40 : decode cX7_sack 40 = .ok (.aload_n 0, 1) := by decide +kernel
theorem dX7_sack_41 : decode cX7_sack 41 = .ok (.getfield 7, 3) := by decide +kernel
theorem dX7_sack_44 : decode cX7_sack 44 = .ok (.bipush 37, 2) := by decide +kernel
theorem dX7_sack_46 : decode cX7_sack 46 = .ok (.iaload, 1) := by decide +kernel
theorem dX7_sack_47 : decode cX7_sack 47 = .ok (.if_icmp .ge 57, 3) := by decide +kernel
theorem dX7_sack_50 : decode cX7_sack 50 = .ok (.aload_n 0, 1) := by decide +kernel
theorem dX7_sack_51 : decode cX7_sack 51 = .ok (.iload 5, 2) := by decide +kernel
theorem dX7_sack_53 : decode cX7_sack 53 = .ok (.putfield 28, 3) := by decide +kernel
theorem dX7_sack_56 : decode cX7_sack 56 = .ok (.aload_n 0, 1) := by decide +kernel
theorem dX7_sack_57 : decode cX7_sack 57 = .ok (.iconst 0, 1) := by decide +kernel
theorem dX7_sack_58 : decode cX7_sack 58 = .ok (.iload_n 1, 1) := by decide +kernel
theorem dX7_sack_59 : decode cX7_sack 59 = .ok (.invokevirtual 205, 3) := by decide +kernel
theorem dX7_sack_62 : decode cX7_sack 62 = .ok (.istore 6, 2) := by decide +kernel
theorem dX7_sack_64 : decode cX7_sack 64 = .ok (.aload_n 0, 1) := by decide +kernel
theorem dX7_sack_65 : decode cX7_sack 65 = .ok (.bipush (-4), 2) := by decide +kernel
theorem dX7_sack_67 : decode cX7_sack 67 = .ok (.putfield 28, 3) := by decide +kernel
theorem dX7_sack_70 : decode cX7_sack 70 = .ok (.iload 6, 2) := by decide +kernel
theorem dX7_sack_72 : decode cX7_sack 72 = .ok (.iload_n 3, 1) := by decide +kernel
theorem dX7_sack_73 : decode cX7_sack 73 = .ok (.if_icmp .le 8, 3) := by decide +kernel
theorem dX7_sack_76 : decode cX7_sack 76 = .ok (.iload 5, 2) := by decide +kernel
theorem dX7_sack_78 : decode cX7_sack 78 = .ok (.goto 5, 3) := by decide +kernel
theorem dX7_sack_81 : decode cX7_sack 81 = .ok (.iload 4, 2) := by decide +kernel
theorem dX7_sack_83 : decode cX7_sack 83 = .ok (.istore 4, 2) := by decide +kernel
theorem dX7_sack_85 : decode cX7_sack 85 = .ok (.iload 6, 2) := by decide +kernel
theorem dX7_sack_87 : decode cX7_sack 87 = .ok (.iload_n 3, 1) := by decide +kernel
theorem dX7_sack_88 : decode cX7_sack 88 = .ok (.if_icmp .le 8, 3) := by decide +kernel
theorem dX7_sack_91 : decode cX7_sack 91 = .ok (.iload 6, 2) := by decide +kernel
theorem dX7_sack_93 : decode cX7_sack 93 = .ok (.goto 4, 3) := by decide +kernel
theorem dX7_sack_96 : decode cX7_sack 96 = .ok (.iload_n 3, 1) := by decide +kernel
theorem dX7_sack_97 : decode cX7_sack 97 = .ok (.istore_n 3, 1) := by decide +kernel
theorem dX7_sack_98 : decode cX7_sack 98 = .ok (.iinc 5 1, 3) := by decide +kernel
theorem dX7_sack_101 : decode cX7_sack 101 = .ok (.goto (-63), 3) := by decide +kernel
theorem dX7_sack_104 : decode cX7_sack 104 = .ok (.iload 4, 2) := by decide +kernel
theorem dX7_sack_106 : decode cX7_sack 106 = .ok (.bipush (-4), 2) := by decide +kernel
theorem dX7_sack_108 : decode cX7_sack 108 = .ok (.if_icmp .eq 7, 3) := by decide +kernel
theorem dX7_sack_111 : decode cX7_sack 111 = .ok (.iload_n 2, 1) := by decide +kernel
theorem dX7_sack_112 : decode cX7_sack 112 = .ok (.ifCond .ne 8, 3) := by decide +kernel
theorem dX7_sack_115 : decode cX7_sack 115 = .ok (.iload 4, 2) := by decide +kernel
theorem dX7_sack_117 : decode cX7_sack 117 = .ok (.goto 4, 3) := by decide +kernel
theorem dX7_sack_120 : decode cX7_sack 120 = .ok (.iload_n 3, 1) := by decide +kernel
theorem dX7_sack_121 : decode cX7_sack 121 = .ok (.ireturn, 1) := by decide +kernel
set_option maxRecDepth 20000 in
theorem ggX7_swap_X7_in : GoodIn wsX7_swap wsX7_in := goodIn_r _ [6] (by decide +kernel) (by decide +kernel)
set_option maxRecDepth 20000 in
theorem gX7_swap_X7_in : GoodIn wsX7_swap (va_wsS RX7 53 yX7_in wsX7_in) := goodIn_app (goodIn_of _ (by decide +kernel)) ggX7_swap_X7_in
set_option maxRecDepth 20000 in
theorem ggX7_swap_X7_daysGo : GoodIn wsX7_swap wsX7_daysGo := goodIn_r _ [10, 11, 12, 13, 5, 14, 2, 15, 16, 17, 18, 19, 20, 21, 22, 23, 24, 25, 26, 27, 28, 29, 30, 31, 32, 33, 34, 35, 36, 37, 38, 39, 40, 41, 42, 43, 44, 45, 46, 47, 48, 49, 50, 51, 52, 53, 54, 55, 56, 57, 58, 59, 60, 61, 62, 63, 64, 65, 66, 67, 68, 69, 70, 71, 72, 73, 74, 75, 76, 77, 78, 79] (by decide +kernel) (by decide +kernel)
set_option maxRecDepth 20000 in
theorem gX7_swap_X7_daysGo : GoodIn wsX7_swap (wsV RX7 205 RX7 yX7_daysGo wsX7_daysGo) := goodIn_app (goodIn_of _ (by decide +kernel)) ggX7_swap_X7_daysGo
set_option maxRecDepth 20000 in
theorem ggX7_swap_X7_copies : GoodIn wsX7_swap wsX7_copies := goodIn_r _ [14, 2, 55, 56, 57, 58, 59, 60, 61, 62, 63, 64, 65, 66, 67, 68, 69, 70, 71, 72, 73, 74, 75, 76, 77, 78, 79] (by decide +kernel) (by decide +kernel)
set_option maxRecDepth 20000 in
theorem gX7_swap_X7_copies : GoodIn wsX7_swap (wsV RX7 202 RX7 yX7_copies wsX7_copies) := goodIn_app (goodIn_of _ (by decide +kernel)) ggX7_swap_X7_copies
theorem dX7_swap_0 : decode cX7_swap 0 = .ok (.iload_n 1, 1) := by decide +kernel
theorem dX7_swap_1 : decode cX7_swap 1 = .ok (.i2l, 1) := by decide +kernel
theorem dX7_swap_2 : decode cX7_swap 2 = .ok (.lconst 0, 1) := by decide +kernel
theorem dX7_swap_3 : decode cX7_swap 3 = .ok (.ldc2_w 194, 3) := by decide +kernel
theorem dX7_swap_6 : decode cX7_swap 6 = .ok (.invokestatic 53, 3) := by decide +kernel
theorem dX7_swap_9 : decode cX7_swap 9 = .ok (.ifCond .eq 13, 3) := by decide +kernel
theorem dX7_swap_12 : decode cX7_swap 12 = .ok (.iload_n 2, 1) := by decide +kernel
theorem dX7_swap_13 : decode cX7_swap 13 = .ok (.i2l, 1) := by decide +kernel
theorem dX7_swap_14 : decode cX7_swap 14 = .ok (.lconst 0, 1) := by decide +kernel
theorem dX7_swap_15 : decode cX7_swap 15 = .ok (.lconst 1, 1) := by decide +kernel
theorem dX7_swap_16 : decode cX7_swap 16 = .ok (.invokestatic 53, 3) := by decide +kernel
theorem dX7_swap_19 : decode cX7_swap 19 = .ok (.ifCond .ne 5, 3) := by decide +kernel
theorem dX7_swap_22 : decode cX7_swap 22 = .ok (.iconst (-1), 1) := by decide +kernel
theorem dX7_swap_23 : decode cX7_swap 23 = .ok (.ireturn, 1) := by decide +kernel
theorem dX7_swap_24 : decode cX7_swap 24 = .ok (.aload_n 0, 1) := by decide +kernel
theorem dX7_swap_25 : decode cX7_swap 25 = .ok (.iconst 0, 1) := by decide +kernel
theorem dX7_swap_26 : decode cX7_swap 26 = .ok (.iload_n 1, 1) := by decide +kernel
theorem dX7_swap_27 : decode cX7_swap 27 = .ok (.invokevirtual 205, 3) := by decide +kernel
theorem dX7_swap_30 : decode cX7_swap 30 = .ok (.istore_n 3, 1) := by decide +kernel
theorem dX7_swap_31 : decode cX7_swap 31 = .ok (.bipush (-4), 2) := by decide +kernel
theorem dX7_swap_33 : decode cX7_swap 33 = .ok (.istore 4, 2) := by decide +kernel
theorem dX7_swap_35 : decode cX7_swap 35 = .ok (.iconst 0, 1) := by decide +kernel
theorem dX7_swap_36 : decode cX7_swap 36 = .ok (.istore 5, 2) := by decide +kernel
theorem dX7_swap_38 : decode cX7_swap 38 = .ok (.iload 5, 2) := by decide +kernel
theorem dX7_swap_40 : decode cX7_swap 40 = .ok (.aload_n 0, 1) := by decide +kernel
theorem dX7_swap_41 : decode cX7_swap 41 = .ok (.getfield 7, 3) := by decide +kernel
theorem dX7_swap_44 : decode cX7_swap 44 = .ok (.bipush 37, 2) := by decide +kernel
theorem dX7_swap_46 : decode cX7_swap 46 = .ok (.iaload, 1) := by decide +kernel
theorem dX7_swap_47 : decode cX7_swap 47 = .ok (.if_icmp .ge 150, 3) := by decide +kernel
theorem dX7_swap_50 : decode cX7_swap 50 = .ok (.iload 5, 2) := by decide +kernel
theorem dX7_swap_52 : decode cX7_swap 52 = .ok (.iconst 1, 1) := by decide +kernel
theorem dX7_swap_53 : decode cX7_swap 53 = .ok (.iadd, 1) := by decide +kernel
theorem dX7_swap_54 : decode cX7_swap 54 = .ok (.istore 6, 2) := by decide +kernel
theorem dX7_swap_56 : decode cX7_swap 56 = .ok (.iload 6, 2) := by decide +kernel
theorem dX7_swap_58 : decode cX7_swap 58 = .ok (.aload_n 0, 1) := by decide +kernel
theorem dX7_swap_59 : decode cX7_swap 59 = .ok (.getfield 7, 3) := by decide +kernel
theorem dX7_swap_62 : decode cX7_swap 62 = .ok (.bipush 37, 2) := by decide +kernel
theorem dX7_swap_64 : decode cX7_swap 64 = .ok (.iaload, 1) := by decide +kernel
theorem dX7_swap_65 : decode cX7_swap 65 = .ok (.if_icmp .ge 126, 3) := by decide +kernel
theorem dX7_swap_68 : decode cX7_swap 68 = .ok (.aload_n 0, 1) := by decide +kernel
theorem dX7_swap_69 : decode cX7_swap 69 = .ok (.iconst 0, 1) := by decide +kernel
theorem dX7_swap_70 : decode cX7_swap 70 = .ok (.sipush 265, 3) := by decide +kernel
theorem dX7_swap_73 : decode cX7_swap 73 = .ok (.invokevirtual 202, 3) := by decide +kernel
theorem dX7_swap_76 : decode cX7_swap 76 = .ok (.bipush 25, 2) := by decide +kernel
theorem dX7_swap_78 : decode cX7_swap 78 = .ok (.istore 7, 2) := by decide +kernel
theorem dX7_swap_80 : decode cX7_swap 80 = .ok (.iload 7, 2) := by decide +kernel
theorem dX7_swap_82 : decode cX7_swap 82 = .ok (.bipush 37, 2) := by decide +kernel
theorem dX7_swap_84 : decode cX7_swap 84 = .ok (.if_icmp .ge 57, 3) := by decide +kernel
theorem dX7_swap_87 : decode cX7_swap 87 = .ok (.aload_n 0, 1) := by decide +kernel
theorem dX7_swap_88 : decode cX7_swap 88 = .ok (.getfield 7, 3) := by decide +kernel
theorem dX7_swap_91 : decode cX7_swap 91 = .ok (.sipush 265, 3) := by decide +kernel
theorem dX7_swap_94 : decode cX7_swap 94 = .ok (.iload 7, 2) := by decide +kernel
theorem dX7_swap_96 : decode cX7_swap 96 = .ok (.iadd, 1) := by decide +kernel
theorem dX7_swap_97 : decode cX7_swap 97 = .ok (.iload 5, 2) := by decide +kernel
theorem dX7_swap_99 : decode cX7_swap 99 = .ok (.iadd, 1) := by decide +kernel
theorem dX7_swap_100 : decode cX7_swap 100 = .ok (.aload_n 0, 1) := by decide +kernel
theorem dX7_swap_101 : decode cX7_swap 101 = .ok (.getfield 7, 3) := by decide +kernel
theorem dX7_swap_104 : decode cX7_swap 104 = .ok (.iload 7, 2) := by decide +kernel
theorem dX7_swap_106 : decode cX7_swap 106 = .ok (.iload 6, 2) := by decide +kernel
theorem dX7_swap_108 : decode cX7_swap 108 = .ok (.iadd, 1) := by decide +kernel
theorem dX7_swap_109 : decode cX7_swap 109 = .ok (.iaload, 1) := by decide +kernel
theorem dX7_swap_110 : decode cX7_swap 110 = .ok (.iastore, 1) := by decide +kernel
theorem dX7_swap_111 : decode cX7_swap 111 = .ok (.aload_n 0, 1) := by decide +kernel
theorem dX7_swap_112 : decode cX7_swap 112 = .ok (.getfield 7, 3) := by decide +kernel
theorem dX7_swap_115 : decode cX7_swap 115 = .ok (.sipush 265, 3) := by decide +kernel
theorem dX7_swap_118 : decode cX7_swap 118 = .ok (.iload 7, 2) := by decide +kernel
theorem dX7_swap_120 : decode cX7_swap 120 = .ok (.iadd, 1) := by decide +kernel
theorem dX7_swap_121 : decode cX7_swap 121 = .ok (.iload 6, 2) := by decide +kernel
theorem dX7_swap_123 : decode cX7_swap 123 = .ok (.iadd, 1) := by decide +kernel
theorem dX7_swap_124 : decode cX7_swap 124 = .ok (.aload_n 0, 1) := by decide +kernel
theorem dX7_swap_125 : decode cX7_swap 125 = .ok (.getfield 7, 3) := by decide +kernel
theorem dX7_swap_128 : decode cX7_swap 128 = .ok (.iload 7, 2) := by decide +kernel
theorem dX7_swap_130 : decode cX7_swap 130 = .ok (.iload 5, 2) := by decide +kernel
theorem dX7_swap_132 : decode cX7_swap 132 = .ok (.iadd, 1) := by decide +kernel
theorem dX7_swap_133 : decode cX7_swap 133 = .ok (.iaload, 1) := by decide +kernel
theorem dX7_swap_134 : decode cX7_swap 134 = .ok (.iastore, 1) := by decide +kernel
theorem dX7_swap_135 : decode cX7_swap 135 = .ok (.iinc 7 4, 3) := by decide +kernel
theorem dX7_swap_138 : decode cX7_swap 138 = .ok (.goto (-58), 3) := by decide +kernel
theorem dX7_swap_141 : decode cX7_swap 141 = .ok (.aload_n 0, 1) := by decide +kernel
theorem dX7_swap_142 : decode cX7_swap 142 = .ok (.sipush 265, 3) := by decide +kernel
theorem dX7_swap_145 : decode cX7_swap 145 = .ok (.iload_n 1, 1) := by decide +kernel
theorem dX7_swap_146 : decode cX7_swap 146 = .ok (.invokevirtual 205, 3) := by decide +kernel
theorem dX7_swap_149 : decode cX7_swap 149 = .ok (.istore 7, 2) := by decide +kernel
theorem dX7_swap_151 : decode cX7_swap 151 = .ok (.iload 7, 2) := by decide +kernel
theorem dX7_swap_153 : decode cX7_swap 153 = .ok (.iload_n 3, 1) := by decide +kernel
theorem dX7_swap_154 : decode cX7_swap 154 = .ok (.if_icmp .le 14, 3) := by decide +kernel
theorem dX7_swap_157 : decode cX7_swap 157 = .ok (.bipush 10, 2) := by decide +kernel
theorem dX7_swap_159 : decode cX7_swap 159 = .ok (.iload 5, 2) := by decide +kernel
theorem dX7_swap_161 : decode cX7_swap 161 = .ok (.imul, 1) := by decide +kernel
theorem dX7_swap_162 : decode cX7_swap 162 = .ok (.iload 6, 2) := by decide +kernel
theorem dX7_swap_164 : decode cX7_swap 164 = .ok (.iadd, 1) := by decide +kernel
theorem dX7_swap_165 : decode cX7_swap 165 = .ok (.goto 5, 3) := by decide +kernel
theorem dX7_swap_168 : decode cX7_swap 168 = .ok (.iload 4, 2) := by decide +kernel
theorem dX7_swap_170 : decode cX7_swap 170 = .ok (.istore 4, 2) := by decide +kernel
theorem dX7_swap_172 : decode cX7_swap 172 = .ok (.iload 7, 2) := by decide +kernel
theorem dX7_swap_174 : decode cX7_swap 174 = .ok (.iload_n 3, 1) := by decide +kernel
theorem dX7_swap_175 : decode cX7_swap 175 = .ok (.if_icmp .le 8, 3) := by decide +kernel
theorem dX7_swap_178 : decode cX7_swap 178 = .ok (.iload 7, 2) := by decide +kernel
theorem dX7_swap_180 : decode cX7_swap 180 = .ok (.goto 4, 3) := by decide +kernel
theorem dX7_swap_183 : decode cX7_swap 183 = .ok (.iload_n 3, 1) := by decide +kernel
theorem dX7_swap_184 : decode cX7_swap 184 = .ok (.istore_n 3, 1) := by decide +kernel
theorem dX7_swap_185 : decode cX7_swap 185 = .ok (.iinc 6 1, 3) := by decide +kernel
theorem dX7_swap_188 : decode cX7_swap 188 = .ok (.goto (-132), 3) := by decide +kernel
theorem dX7_swap_191 : decode cX7_swap 191 = .ok (.iinc 5 1, 3) := by decide +kernel
theorem dX7_swap_194 : decode cX7_swap 194 = .ok (.goto (-156), 3) := by decide +kernel
theorem dX7_swap_197 : decode cX7_swap 197 = .ok (.iload 4, 2) := by decide +kernel
theorem dX7_swap_199 : decode cX7_swap 199 = .ok (.bipush (-4), 2) := by decide +kernel
theorem dX7_swap_201 : decode cX7_swap 201 = .ok (.if_icmp .eq 7, 3) := by decide +kernel
theorem dX7_swap_204 : decode cX7_swap 204 = .ok (.iload_n 2, 1) := by decide +kernel
theorem dX7_swap_205 : decode cX7_swap 205 = .ok (.ifCond .ne 8, 3) := by decide +kernel
theorem dX7_swap_208 : decode cX7_swap 208 = .ok (.iload 4, 2) := by decide +kernel
theorem dX7_swap_210 : decode cX7_swap 210 = .ok (.goto 4, 3) := by decide +kernel
theorem dX7_swap_213 : decode cX7_swap 213 = .ok (.iload_n 3, 1) := by decide +kernel
theorem dX7_swap_214 : decode cX7_swap 214 = .ok (.ireturn, 1) := by decide +kernel
set_option maxRecDepth 20000 in
theorem ggX7_kind_X7_isGardener : GoodIn wsX7_kind wsX7_isGardener := goodIn_r _ [7, 2, 8, 9, 6, 10, 59, 60, 61, 62, 63, 64, 65, 66, 67, 68, 69, 70, 71, 72, 73, 74, 75, 76, 77, 78, 79, 80, 81, 82, 83] (by decide +kernel) (by decide +kernel)
set_option maxRecDepth 20000 in
theorem gX7_kind_X7_isGardener : GoodIn wsX7_kind (wsV RX7 172 RX7 yX7_isGardener wsX7_isGardener) := goodIn_app (goodIn_of _ (by decide +kernel)) ggX7_kind_X7_isGardener
set_option maxRecDepth 20000 in
theorem ggX7_kind_X7_in : GoodIn wsX7_kind wsX7_in := goodIn_r _ [10] (by decide +kernel) (by decide +kernel)
set_option maxRecDepth 20000 in
theorem gX7_kind_X7_in : GoodIn wsX7_kind (va_wsS RX7 53 yX7_in wsX7_in) := goodIn_app (goodIn_of _ (by decide +kernel)) ggX7_kind_X7_in
set_option maxRecDepth 20000 in
theorem ggX7_kind_X7_copies : GoodIn wsX7_kind wsX7_copies := goodIn_r _ [14, 2, 59, 60, 61, 62, 63, 64, 65, 66, 67, 68, 69, 70, 71, 72, 73, 74, 75, 76, 77, 78, 79, 80, 81, 82, 83] (by decide +kernel) (by decide +kernel)
set_option maxRecDepth 20000 in
theorem gX7_kind_X7_copies : GoodIn wsX7_kind (wsV RX7 202 RX7 yX7_copies wsX7_copies) := goodIn_app (goodIn_of _ (by decide +kernel)) ggX7_kind_X7_copies
set_option maxRecDepth 20000 in
theorem ggX7_kind_X7_daysGo : GoodIn wsX7_kind wsX7_daysGo := goodIn_r _ [18, 11, 12, 13, 6, 14, 2, 19, 20, 21, 22, 23, 24, 25, 26, 27, 28, 29, 30, 31, 32, 33, 34, 35, 36, 37, 38, 39, 40, 41, 42, 43, 44, 45, 46, 47, 48, 49, 50, 51, 52, 53, 54, 55, 56, 57, 58, 59, 60, 61, 62, 63, 64, 65, 66, 67, 68, 69, 70, 71, 72, 73, 74, 75, 76, 77, 78, 79, 80, 81, 82, 83] (by decide +kernel) (by decide +kernel)
set_option maxRecDepth 20000 in
theorem gX7_kind_X7_daysGo : GoodIn wsX7_kind (wsV RX7 205 RX7 yX7_daysGo wsX7_daysGo) := goodIn_app (goodIn_of _ (by decide +kernel)) ggX7_kind_X7_daysGo
theorem dX7_kind_0 : decode cX7_kind 0 = .ok (.aload_n 0, 1) := by decide +kernel
theorem dX7_kind_1 : decode cX7_kind 1 = .ok (.iload_n 1, 1) := by decide +kernel
theorem dX7_kind_2 : decode cX7_kind 2 = .ok (.invokevirtual 172, 3) := by decide +kernel
theorem dX7_kind_5 : decode cX7_kind 5 = .ok (.ifCond .eq 25, 3) := by decide +kernel
theorem dX7_kind_8 : decode cX7_kind 8 = .ok (.iload_n 2, 1) := by decide +kernel
theorem dX7_kind_9 : decode cX7_kind 9 = .ok (.i2l, 1) := by decide +kernel
theorem dX7_kind_10 : decode cX7_kind 10 = .ok (.lconst 0, 1) := by decide +kernel
theorem dX7_kind_11 : decode cX7_kind 11 = .ok (.ldc2_w 194, 3) := by decide +kernel
theorem dX7_kind_14 : decode cX7_kind 14 = .ok (.invokestatic 53, 3) := by decide +kernel
theorem dX7_kind_17 : decode cX7_kind 17 = .ok (.ifCond .eq 13, 3) := by decide +kernel
theorem dX7_kind_20 : decode cX7_kind 20 = .ok (.iload_n 3, 1) := by decide +kernel
theorem dX7_kind_21 : decode cX7_kind 21 = .ok (.i2l, 1) := by decide +kernel
theorem dX7_kind_22 : decode cX7_kind 22 = .ok (.lconst 0, 1) := by decide +kernel
theorem dX7_kind_23 : decode cX7_kind 23 = .ok (.lconst 1, 1) := by decide +kernel
theorem dX7_kind_24 : decode cX7_kind 24 = .ok (.invokestatic 53, 3) := by decide +kernel
theorem dX7_kind_27 : decode cX7_kind 27 = .ok (.ifCond .ne 5, 3) := by decide +kernel
theorem dX7_kind_30 : decode cX7_kind 30 = .ok (.iconst (-1), 1) := by decide +kernel
theorem dX7_kind_31 : decode cX7_kind 31 = .ok (.ireturn, 1) := by decide +kernel
theorem dX7_kind_32 : decode cX7_kind 32 = .ok (.iconst (-1), 1) := by decide +kernel
theorem dX7_kind_33 : decode cX7_kind 33 = .ok (.istore 4, 2) := by decide +kernel
theorem dX7_kind_35 : decode cX7_kind 35 = .ok (.iconst 0, 1) := by decide +kernel
theorem dX7_kind_36 : decode cX7_kind 36 = .ok (.istore 5, 2) := by decide +kernel
theorem dX7_kind_38 : decode cX7_kind 38 = .ok (.aload_n 0, 1) := by decide +kernel
theorem dX7_kind_39 : decode cX7_kind 39 = .ok (.iconst 0, 1) := by decide +kernel
theorem dX7_kind_40 : decode cX7_kind 40 = .ok (.sipush 265, 3) := by decide +kernel
theorem dX7_kind_43 : decode cX7_kind 43 = .ok (.invokevirtual 202, 3) := by decide +kernel
theorem dX7_kind_46 : decode cX7_kind 46 = .ok (.iconst 0, 1) := by decide +kernel
theorem dX7_kind_47 : decode cX7_kind 47 = .ok (.istore 6, 2) := by decide +kernel
theorem dX7_kind_49 : decode cX7_kind 49 = .ok (.iload 6, 2) := by decide +kernel
theorem dX7_kind_51 : decode cX7_kind 51 = .ok (.iconst 4, 1) := by decide +kernel
theorem dX7_kind_52 : decode cX7_kind 52 = .ok (.if_icmp .ge 63, 3) := by decide +kernel
theorem dX7_kind_55 : decode cX7_kind 55 = .ok (.aload_n 0, 1) := by decide +kernel
theorem dX7_kind_56 : decode cX7_kind 56 = .ok (.getfield 7, 3) := by decide +kernel
theorem dX7_kind_59 : decode cX7_kind 59 = .ok (.sipush 290, 3) := by decide +kernel
theorem dX7_kind_62 : decode cX7_kind 62 = .ok (.iload_n 1, 1) := by decide +kernel
theorem dX7_kind_63 : decode cX7_kind 63 = .ok (.iadd, 1) := by decide +kernel
theorem dX7_kind_64 : decode cX7_kind 64 = .ok (.iload 6, 2) := by decide +kernel
theorem dX7_kind_66 : decode cX7_kind 66 = .ok (.iastore, 1) := by decide +kernel
theorem dX7_kind_67 : decode cX7_kind 67 = .ok (.aload_n 0, 1) := by decide +kernel
theorem dX7_kind_68 : decode cX7_kind 68 = .ok (.sipush 265, 3) := by decide +kernel
theorem dX7_kind_71 : decode cX7_kind 71 = .ok (.iload_n 2, 1) := by decide +kernel
theorem dX7_kind_72 : decode cX7_kind 72 = .ok (.invokevirtual 205, 3) := by decide +kernel
theorem dX7_kind_75 : decode cX7_kind 75 = .ok (.istore 7, 2) := by decide +kernel
theorem dX7_kind_77 : decode cX7_kind 77 = .ok (.iload 7, 2) := by decide +kernel
theorem dX7_kind_79 : decode cX7_kind 79 = .ok (.iload 4, 2) := by decide +kernel
theorem dX7_kind_81 : decode cX7_kind 81 = .ok (.if_icmp .le 8, 3) := by decide +kernel
theorem dX7_kind_84 : decode cX7_kind 84 = .ok (.iload 6, 2) := by decide +kernel
theorem dX7_kind_86 : decode cX7_kind 86 = .ok (.goto 5, 3) := by decide +kernel
theorem dX7_kind_89 : decode cX7_kind 89 = .ok (.iload 5, 2) := by decide +kernel
theorem dX7_kind_91 : decode cX7_kind 91 = .ok (.istore 5, 2) := by decide +kernel
theorem dX7_kind_93 : decode cX7_kind 93 = .ok (.iload 7, 2) := by decide +kernel
theorem dX7_kind_95 : decode cX7_kind 95 = .ok (.iload 4, 2) := by decide +kernel
theorem dX7_kind_97 : decode cX7_kind 97 = .ok (.if_icmp .le 8, 3) := by decide +kernel
theorem dX7_kind_100 : decode cX7_kind 100 = .ok (.iload 7, 2) := by decide +kernel
theorem dX7_kind_102 : decode cX7_kind 102 = .ok (.goto 5, 3) := by decide +kernel
theorem dX7_kind_105 : decode cX7_kind 105 = .ok (.iload 4, 2) := by decide +kernel
theorem dX7_kind_107 : decode cX7_kind 107 = .ok (.istore 4, 2) := by decide +kernel
theorem dX7_kind_109 : decode cX7_kind 109 = .ok (.iinc 6 1, 3) := by decide +kernel
theorem dX7_kind_112 : decode cX7_kind 112 = .ok (.goto (-63), 3) := by decide +kernel
theorem dX7_kind_115 : decode cX7_kind 115 = .ok (.iload_n 3, 1) := by decide +kernel
theorem dX7_kind_116 : decode cX7_kind 116 = .ok (.ifCond .ne 8, 3) := by decide +kernel
theorem dX7_kind_119 : decode cX7_kind 119 = .ok (.iload 5, 2) := by decide +kernel
theorem dX7_kind_121 : decode cX7_kind 121 = .ok (.goto 5, 3) := by decide +kernel
theorem dX7_kind_124 : decode cX7_kind 124 = .ok (.iload 4, 2) := by decide +kernel
theorem dX7_kind_126 : decode cX7_kind 126 = .ok (.ireturn, 1) := by decide +kernel
theorem dX7_lowest_0 : decode cX7_lowest 0 = .ok (.lload_n 0, 1) := by decide +kernel
theorem dX7_lowest_1 : decode cX7_lowest 1 = .ok (.lstore 5, 2) := by decide +kernel
theorem dX7_lowest_3 : decode cX7_lowest 3 = .ok (.lload_n 2, 1) := by decide +kernel
theorem dX7_lowest_4 : decode cX7_lowest 4 = .ok (.lstore 7, 2) := by decide +kernel
theorem dX7_lowest_6 : decode cX7_lowest 6 = .ok (.lload 7, 2) := by decide +kernel
theorem dX7_lowest_8 : decode cX7_lowest 8 = .ok (.lconst 0, 1) := by decide +kernel
theorem dX7_lowest_9 : decode cX7_lowest 9 = .ok (.lcmp, 1) := by decide +kernel
theorem dX7_lowest_10 : decode cX7_lowest 10 = .ok (.ifCond .eq 21, 3) := by decide +kernel
theorem dX7_lowest_13 : decode cX7_lowest 13 = .ok (.lload 5, 2) := by decide +kernel
theorem dX7_lowest_15 : decode cX7_lowest 15 = .ok (.lload 7, 2) := by decide +kernel
theorem dX7_lowest_17 : decode cX7_lowest 17 = .ok (.lrem, 1) := by decide +kernel
theorem dX7_lowest_18 : decode cX7_lowest 18 = .ok (.lstore 9, 2) := by decide +kernel
theorem dX7_lowest_20 : decode cX7_lowest 20 = .ok (.lload 7, 2) := by decide +kernel
theorem dX7_lowest_22 : decode cX7_lowest 22 = .ok (.lstore 5, 2) := by decide +kernel
theorem dX7_lowest_24 : decode cX7_lowest 24 = .ok (.lload 9, 2) := by decide +kernel
theorem dX7_lowest_26 : decode cX7_lowest 26 = .ok (.lstore 7, 2) := by decide +kernel
theorem dX7_lowest_28 : decode cX7_lowest 28 = .ok (.goto (-22), 3) := by decide +kernel
theorem dX7_lowest_31 : decode cX7_lowest 31 = .ok (.iload 4, 2) := by decide +kernel
theorem dX7_lowest_33 : decode cX7_lowest 33 = .ok (.ifCond .ne 7, 3) := by decide +kernel
theorem dX7_lowest_36 : decode cX7_lowest 36 = .ok (.lload_n 0, 1) := by decide +kernel
theorem dX7_lowest_37 : decode cX7_lowest 37 = .ok (.goto 4, 3) := by decide +kernel
theorem dX7_lowest_40 : decode cX7_lowest 40 = .ok (.lload_n 2, 1) := by decide +kernel
theorem dX7_lowest_41 : decode cX7_lowest 41 = .ok (.lload 5, 2) := by decide +kernel
theorem dX7_lowest_43 : decode cX7_lowest 43 = .ok (.ldiv, 1) := by decide +kernel
theorem dX7_lowest_44 : decode cX7_lowest 44 = .ok (.lreturn, 1) := by decide +kernel
set_option maxRecDepth 20000 in
theorem ggX7_byRain_X7_copies : GoodIn wsX7_byRain wsX7_copies := goodIn_r _ [6, 7, 51, 52, 53, 54, 55, 56, 57, 58, 59, 60, 61, 62, 63, 64, 65, 66, 67, 68, 69, 70, 71, 72, 73, 74, 75] (by decide +kernel) (by decide +kernel)
set_option maxRecDepth 20000 in
theorem gX7_byRain_X7_copies : GoodIn wsX7_byRain (wsV RX7 202 RX7 yX7_copies wsX7_copies) := goodIn_app (goodIn_of _ (by decide +kernel)) ggX7_byRain_X7_copies
set_option maxRecDepth 20000 in
theorem ggX7_byRain_X7_dayOn : GoodIn wsX7_byRain wsX7_dayOn := goodIn_r _ [11, 7, 12, 13, 14, 15, 5, 16, 17, 18, 19, 20, 21, 22, 23, 24, 25, 26, 27, 28, 29, 30, 31, 32, 33, 34, 35, 36, 37, 38, 39, 40, 51, 52, 53, 54, 55, 56, 57, 58, 59, 60, 61, 62, 63, 64, 65, 66, 67, 68, 69, 70, 71, 72, 73, 74, 75] (by decide +kernel) (by decide +kernel)
set_option maxRecDepth 20000 in
theorem gX7_byRain_X7_dayOn : GoodIn wsX7_byRain (wsV RX7 198 RX7 yX7_dayOn wsX7_dayOn) := goodIn_app (goodIn_of _ (by decide +kernel)) ggX7_byRain_X7_dayOn
set_option maxRecDepth 20000 in
theorem ggX7_byRain_X7_guestsOn : GoodIn wsX7_byRain wsX7_guestsOn := goodIn_r _ [44, 7, 51, 52, 53, 54, 55, 56, 57, 58, 59, 60, 61, 62, 63, 64, 65, 66, 67, 68, 69, 70, 71, 72, 73, 74, 75] (by decide +kernel) (by decide +kernel)
set_option maxRecDepth 20000 in
theorem gX7_byRain_X7_guestsOn : GoodIn wsX7_byRain (wsV RX7 162 RX7 yX7_guestsOn wsX7_guestsOn) := goodIn_app (goodIn_of _ (by decide +kernel)) ggX7_byRain_X7_guestsOn
set_option maxRecDepth 20000 in
theorem ggX7_byRain_X7_bitsOf : GoodIn wsX7_byRain wsX7_bitsOf := goodIn_r _ [47] (by decide +kernel) (by decide +kernel)
set_option maxRecDepth 20000 in
theorem gX7_byRain_X7_bitsOf : GoodIn wsX7_byRain (va_wsS RX7 159 yX7_bitsOf wsX7_bitsOf) := goodIn_app (goodIn_of _ (by decide +kernel)) ggX7_byRain_X7_bitsOf
set_option maxRecDepth 20000 in
theorem ggX7_byRain_X7_lowest : GoodIn wsX7_byRain wsX7_lowest := goodIn_r _ [50] (by decide +kernel) (by decide +kernel)
set_option maxRecDepth 20000 in
theorem gX7_byRain_X7_lowest : GoodIn wsX7_byRain (va_wsS RX7 210 yX7_lowest wsX7_lowest) := goodIn_app (goodIn_of _ (by decide +kernel)) ggX7_byRain_X7_lowest
theorem dX7_byRain_0 : decode cX7_byRain 0 = .ok (.lconst 0, 1) := by decide +kernel
theorem dX7_byRain_1 : decode cX7_byRain 1 = .ok (.lstore 5, 2) := by decide +kernel
theorem dX7_byRain_3 : decode cX7_byRain 3 = .ok (.lconst 1, 1) := by decide +kernel
theorem dX7_byRain_4 : decode cX7_byRain 4 = .ok (.lstore 7, 2) := by decide +kernel
theorem dX7_byRain_6 : decode cX7_byRain 6 = .ok (.iconst 0, 1) := by decide +kernel
theorem dX7_byRain_7 : decode cX7_byRain 7 = .ok (.istore 9, 2) := by decide +kernel
theorem dX7_byRain_9 : decode cX7_byRain 9 = .ok (.iload 9, 2) := by decide +kernel
theorem dX7_byRain_11 : decode cX7_byRain 11 = .ok (.iload_n 3, 1) := by decide +kernel
theorem dX7_byRain_12 : decode cX7_byRain 12 = .ok (.if_icmp .ge 17, 3) := by decide +kernel
theorem dX7_byRain_15 : decode cX7_byRain 15 = .ok (.lload 7, 2) := by decide +kernel
theorem dX7_byRain_17 : decode cX7_byRain 17 = .ok (.ldc2_w 208, 3) := by decide +kernel
theorem dX7_byRain_20 : decode cX7_byRain 20 = .ok (.lmul, 1) := by decide +kernel
theorem dX7_byRain_21 : decode cX7_byRain 21 = .ok (.lstore 7, 2) := by decide +kernel
theorem dX7_byRain_23 : decode cX7_byRain 23 = .ok (.iinc 9 1, 3) := by decide +kernel
theorem dX7_byRain_26 : decode cX7_byRain 26 = .ok (.goto (-17), 3) := by decide +kernel
theorem dX7_byRain_29 : decode cX7_byRain 29 = .ok (.iconst 0, 1) := by decide +kernel
theorem dX7_byRain_30 : decode cX7_byRain 30 = .ok (.istore 9, 2) := by decide +kernel
theorem dX7_byRain_32 : decode cX7_byRain 32 = .ok (.iload 9, 2) := by decide +kernel
theorem dX7_byRain_34 : decode cX7_byRain 34 = .ok (.iconst 1, 1) := by decide +kernel
theorem dX7_byRain_35 : decode cX7_byRain 35 = .ok (.iload_n 3, 1) := by decide +kernel
theorem dX7_byRain_36 : decode cX7_byRain 36 = .ok (.ishl, 1) := by decide +kernel
theorem dX7_byRain_37 : decode cX7_byRain 37 = .ok (.if_icmp .ge 121, 3) := by decide +kernel
theorem dX7_byRain_40 : decode cX7_byRain 40 = .ok (.lconst 1, 1) := by decide +kernel
theorem dX7_byRain_41 : decode cX7_byRain 41 = .ok (.lstore 10, 2) := by decide +kernel
theorem dX7_byRain_43 : decode cX7_byRain 43 = .ok (.aload_n 0, 1) := by decide +kernel
theorem dX7_byRain_44 : decode cX7_byRain 44 = .ok (.iconst 0, 1) := by decide +kernel
theorem dX7_byRain_45 : decode cX7_byRain 45 = .ok (.sipush 212, 3) := by decide +kernel
theorem dX7_byRain_48 : decode cX7_byRain 48 = .ok (.invokevirtual 202, 3) := by decide +kernel
theorem dX7_byRain_51 : decode cX7_byRain 51 = .ok (.iconst 0, 1) := by decide +kernel
theorem dX7_byRain_52 : decode cX7_byRain 52 = .ok (.istore 12, 2) := by decide +kernel
theorem dX7_byRain_54 : decode cX7_byRain 54 = .ok (.iload 12, 2) := by decide +kernel
theorem dX7_byRain_56 : decode cX7_byRain 56 = .ok (.iload_n 3, 1) := by decide +kernel
theorem dX7_byRain_57 : decode cX7_byRain 57 = .ok (.if_icmp .ge 56, 3) := by decide +kernel
theorem dX7_byRain_60 : decode cX7_byRain 60 = .ok (.iload 9, 2) := by decide +kernel
theorem dX7_byRain_62 : decode cX7_byRain 62 = .ok (.iload 12, 2) := by decide +kernel
theorem dX7_byRain_64 : decode cX7_byRain 64 = .ok (.ishr, 1) := by decide +kernel
theorem dX7_byRain_65 : decode cX7_byRain 65 = .ok (.iconst 1, 1) := by decide +kernel
theorem dX7_byRain_66 : decode cX7_byRain 66 = .ok (.iand, 1) := by decide +kernel
theorem dX7_byRain_67 : decode cX7_byRain 67 = .ok (.iconst 1, 1) := by decide +kernel
theorem dX7_byRain_68 : decode cX7_byRain 68 = .ok (.if_icmp .ne 7, 3) := by decide +kernel
theorem dX7_byRain_71 : decode cX7_byRain 71 = .ok (.iconst 1, 1) := by decide +kernel
theorem dX7_byRain_72 : decode cX7_byRain 72 = .ok (.goto 4, 3) := by decide +kernel
theorem dX7_byRain_75 : decode cX7_byRain 75 = .ok (.iconst 0, 1) := by decide +kernel
theorem dX7_byRain_76 : decode cX7_byRain 76 = .ok (.istore 13, 2) := by decide +kernel
theorem dX7_byRain_78 : decode cX7_byRain 78 = .ok (.lload 10, 2) := by decide +kernel
theorem dX7_byRain_80 : decode cX7_byRain 80 = .ok (.iload 13, 2) := by decide +kernel
theorem dX7_byRain_82 : decode cX7_byRain 82 = .ok (.ifCond .eq 8, 3) := by decide +kernel
theorem dX7_byRain_85 : decode cX7_byRain 85 = .ok (.iload_n 1, 1) := by decide +kernel
theorem dX7_byRain_86 : decode cX7_byRain 86 = .ok (.i2l, 1) := by decide +kernel
theorem dX7_byRain_87 : decode cX7_byRain 87 = .ok (.goto 8, 3) := by decide +kernel
theorem dX7_byRain_90 : decode cX7_byRain 90 = .ok (.bipush 10, 2) := by decide +kernel
theorem dX7_byRain_92 : decode cX7_byRain 92 = .ok (.iload_n 1, 1) := by decide +kernel
theorem dX7_byRain_93 : decode cX7_byRain 93 = .ok (.isub, 1) := by decide +kernel
theorem dX7_byRain_94 : decode cX7_byRain 94 = .ok (.i2l, 1) := by decide +kernel
theorem dX7_byRain_95 : decode cX7_byRain 95 = .ok (.lmul, 1) := by decide +kernel
theorem dX7_byRain_96 : decode cX7_byRain 96 = .ok (.lstore 10, 2) := by decide +kernel
theorem dX7_byRain_98 : decode cX7_byRain 98 = .ok (.aload_n 0, 1) := by decide +kernel
theorem dX7_byRain_99 : decode cX7_byRain 99 = .ok (.sipush 212, 3) := by decide +kernel
theorem dX7_byRain_102 : decode cX7_byRain 102 = .ok (.iload 13, 2) := by decide +kernel
theorem dX7_byRain_104 : decode cX7_byRain 104 = .ok (.invokevirtual 198, 3) := by decide +kernel
theorem dX7_byRain_107 : decode cX7_byRain 107 = .ok (.iinc 12 1, 3) := by decide +kernel
theorem dX7_byRain_110 : decode cX7_byRain 110 = .ok (.goto (-56), 3) := by decide +kernel
theorem dX7_byRain_113 : decode cX7_byRain 113 = .ok (.aload_n 0, 1) := by decide +kernel
theorem dX7_byRain_114 : decode cX7_byRain 114 = .ok (.sipush 212, 3) := by decide +kernel
theorem dX7_byRain_117 : decode cX7_byRain 117 = .ok (.iconst 1, 1) := by decide +kernel
theorem dX7_byRain_118 : decode cX7_byRain 118 = .ok (.invokevirtual 162, 3) := by decide +kernel
theorem dX7_byRain_121 : decode cX7_byRain 121 = .ok (.istore 12, 2) := by decide +kernel
theorem dX7_byRain_123 : decode cX7_byRain 123 = .ok (.lload 5, 2) := by decide +kernel
theorem dX7_byRain_125 : decode cX7_byRain 125 = .ok (.lload 10, 2) := by decide +kernel
theorem dX7_byRain_127 : decode cX7_byRain 127 = .ok (.iload_n 2, 1) := by decide +kernel
theorem dX7_byRain_128 : decode cX7_byRain 128 = .ok (.bipush (-4), 2) := by decide +kernel
theorem dX7_byRain_130 : decode cX7_byRain 130 = .ok (.if_icmp .ne 11, 3) := by decide +kernel
theorem dX7_byRain_133 : decode cX7_byRain 133 = .ok (.iload 12, 2) := by decide +kernel
theorem dX7_byRain_135 : decode cX7_byRain 135 = .ok (.invokestatic 159, 3) := by decide +kernel
theorem dX7_byRain_138 : decode cX7_byRain 138 = .ok (.goto 9, 3) := by decide +kernel
theorem dX7_byRain_141 : decode cX7_byRain 141 = .ok (.iload 12, 2) := by decide +kernel
theorem dX7_byRain_143 : decode cX7_byRain 143 = .ok (.iload_n 2, 1) := by decide +kernel
theorem dX7_byRain_144 : decode cX7_byRain 144 = .ok (.ishr, 1) := by decide +kernel
theorem dX7_byRain_145 : decode cX7_byRain 145 = .ok (.iconst 1, 1) := by decide +kernel
theorem dX7_byRain_146 : decode cX7_byRain 146 = .ok (.iand, 1) := by decide +kernel
theorem dX7_byRain_147 : decode cX7_byRain 147 = .ok (.i2l, 1) := by decide +kernel
theorem dX7_byRain_148 : decode cX7_byRain 148 = .ok (.lmul, 1) := by decide +kernel
theorem dX7_byRain_149 : decode cX7_byRain 149 = .ok (.ladd, 1) := by decide +kernel
theorem dX7_byRain_150 : decode cX7_byRain 150 = .ok (.lstore 5, 2) := by decide +kernel
theorem dX7_byRain_152 : decode cX7_byRain 152 = .ok (.iinc 9 1, 3) := by decide +kernel
theorem dX7_byRain_155 : decode cX7_byRain 155 = .ok (.goto (-123), 3) := by decide +kernel
theorem dX7_byRain_158 : decode cX7_byRain 158 = .ok (.lload 5, 2) := by decide +kernel
theorem dX7_byRain_160 : decode cX7_byRain 160 = .ok (.lload 7, 2) := by decide +kernel
theorem dX7_byRain_162 : decode cX7_byRain 162 = .ok (.iload 4, 2) := by decide +kernel
theorem dX7_byRain_164 : decode cX7_byRain 164 = .ok (.invokestatic 210, 3) := by decide +kernel
theorem dX7_byRain_167 : decode cX7_byRain 167 = .ok (.lreturn, 1) := by decide +kernel
set_option maxRecDepth 20000 in
theorem ggX7_luck_X7_in : GoodIn wsX7_luck wsX7_in := goodIn_r _ [7] (by decide +kernel) (by decide +kernel)
set_option maxRecDepth 20000 in
theorem gX7_luck_X7_in : GoodIn wsX7_luck (va_wsS RX7 53 yX7_in wsX7_in) := goodIn_app (goodIn_of _ (by decide +kernel)) ggX7_luck_X7_in
set_option maxRecDepth 20000 in
theorem ggX7_luck_X7_isGuest : GoodIn wsX7_luck wsX7_isGuest := goodIn_r _ [11, 12, 4, 5, 6, 7, 64, 65, 66, 67, 68, 69, 70, 71, 72, 73, 74, 75, 76, 77, 78, 79, 80, 81, 82, 83, 84, 85, 86, 87, 88] (by decide +kernel) (by decide +kernel)
set_option maxRecDepth 20000 in
theorem gX7_luck_X7_isGuest : GoodIn wsX7_luck (wsV RX7 177 RX7 yX7_isGuest wsX7_isGuest) := goodIn_app (goodIn_of _ (by decide +kernel)) ggX7_luck_X7_isGuest
set_option maxRecDepth 20000 in
theorem ggX7_luck_X7_byRain : GoodIn wsX7_luck wsX7_byRain := goodIn_r _ [16, 1, 17, 18, 19, 6, 20, 12, 21, 22, 23, 24, 25, 26, 27, 28, 29, 30, 31, 32, 33, 34, 35, 36, 37, 38, 39, 40, 41, 42, 43, 44, 45, 46, 47, 48, 49, 50, 51, 52, 53, 54, 55, 56, 57, 58, 59, 60, 61, 62, 63, 64, 65, 66, 67, 68, 69, 70, 71, 72, 73, 74, 75, 76, 77, 78, 79, 80, 81, 82, 83, 84, 85, 86, 87, 88] (by decide +kernel) (by decide +kernel)
set_option maxRecDepth 20000 in
theorem gX7_luck_X7_byRain : GoodIn wsX7_luck (wsV RX7 216 RX7 yX7_byRain wsX7_byRain) := goodIn_app (goodIn_of _ (by decide +kernel)) ggX7_luck_X7_byRain
theorem dX7_luck_0 : decode cX7_luck 0 = .ok (.iload_n 1, 1) := by decide +kernel
theorem dX7_luck_1 : decode cX7_luck 1 = .ok (.i2l, 1) := by decide +kernel
theorem dX7_luck_2 : decode cX7_luck 2 = .ok (.lconst 0, 1) := by decide +kernel
theorem dX7_luck_3 : decode cX7_luck 3 = .ok (.ldc2_w 208, 3) := by decide +kernel
theorem dX7_luck_6 : decode cX7_luck 6 = .ok (.invokestatic 53, 3) := by decide +kernel
theorem dX7_luck_9 : decode cX7_luck 9 = .ok (.ifCond .eq 46, 3) := by decide +kernel
theorem dX7_luck_12 : decode cX7_luck 12 = .ok (.aload_n 0, 1) := by decide +kernel
theorem dX7_luck_13 : decode cX7_luck 13 = .ok (.iload_n 2, 1) := by decide +kernel
theorem dX7_luck_14 : decode cX7_luck 14 = .ok (.invokevirtual 177, 3) := by decide +kernel
theorem dX7_luck_17 : decode cX7_luck 17 = .ok (.ifCond .eq 38, 3) := by decide +kernel
theorem dX7_luck_20 : decode cX7_luck 20 = .ok (.iload_n 3, 1) := by decide +kernel
theorem dX7_luck_21 : decode cX7_luck 21 = .ok (.i2l, 1) := by decide +kernel
theorem dX7_luck_22 : decode cX7_luck 22 = .ok (.lconst 0, 1) := by decide +kernel
theorem dX7_luck_23 : decode cX7_luck 23 = .ok (.ldc2_w 214, 3) := by decide +kernel
theorem dX7_luck_26 : decode cX7_luck 26 = .ok (.invokestatic 53, 3) := by decide +kernel
theorem dX7_luck_29 : decode cX7_luck 29 = .ok (.ifCond .eq 26, 3) := by decide +kernel
theorem dX7_luck_32 : decode cX7_luck 32 = .ok (.iload 4, 2) := by decide +kernel
theorem dX7_luck_34 : decode cX7_luck 34 = .ok (.i2l, 1) := by decide +kernel
theorem dX7_luck_35 : decode cX7_luck 35 = .ok (.lconst 0, 1) := by decide +kernel
theorem dX7_luck_36 : decode cX7_luck 36 = .ok (.lconst 1, 1) := by decide +kernel
theorem dX7_luck_37 : decode cX7_luck 37 = .ok (.invokestatic 53, 3) := by decide +kernel
theorem dX7_luck_40 : decode cX7_luck 40 = .ok (.ifCond .eq 15, 3) := by decide +kernel
theorem dX7_luck_43 : decode cX7_luck 43 = .ok (.aload_n 0, 1) := by decide +kernel
theorem dX7_luck_44 : decode cX7_luck 44 = .ok (.iload_n 1, 1) := by decide +kernel
theorem dX7_luck_45 : decode cX7_luck 45 = .ok (.iload_n 2, 1) := by decide +kernel
theorem dX7_luck_46 : decode cX7_luck 46 = .ok (.iload_n 3, 1) := by decide +kernel
theorem dX7_luck_47 : decode cX7_luck 47 = .ok (.iload 4, 2) := by decide +kernel
theorem dX7_luck_49 : decode cX7_luck 49 = .ok (.invokevirtual 216, 3) := by decide +kernel
theorem dX7_luck_52 : decode cX7_luck 52 = .ok (.goto 6, 3) := by decide +kernel
theorem dX7_luck_55 : decode cX7_luck 55 = .ok (.ldc2_w 220, 3) := by decide +kernel
theorem dX7_luck_58 : decode cX7_luck 58 = .ok (.lreturn, 1) := by decide +kernel
set_option maxRecDepth 20000 in
theorem ggX7_mean_X7_in : GoodIn wsX7_mean wsX7_in := goodIn_r _ [7] (by decide +kernel) (by decide +kernel)
set_option maxRecDepth 20000 in
theorem gX7_mean_X7_in : GoodIn wsX7_mean (va_wsS RX7 53 yX7_in wsX7_in) := goodIn_app (goodIn_of _ (by decide +kernel)) ggX7_mean_X7_in
set_option maxRecDepth 20000 in
theorem ggX7_mean_X7_byRain : GoodIn wsX7_mean wsX7_byRain := goodIn_r _ [11, 1, 12, 13, 14, 6, 15, 16, 17, 18, 19, 20, 21, 22, 23, 24, 25, 26, 27, 28, 29, 30, 31, 32, 33, 34, 35, 36, 37, 38, 39, 40, 41, 42, 43, 44, 45, 46, 47, 48, 49, 50, 51, 52, 53, 54, 55, 56, 57, 58, 59, 60, 61, 62, 63, 64, 65, 66, 67, 68, 69, 70, 71, 72, 73, 74, 75, 76, 77, 78, 79, 80, 81, 82, 83, 84] (by decide +kernel) (by decide +kernel)
set_option maxRecDepth 20000 in
theorem gX7_mean_X7_byRain : GoodIn wsX7_mean (wsV RX7 216 RX7 yX7_byRain wsX7_byRain) := goodIn_app (goodIn_of _ (by decide +kernel)) ggX7_mean_X7_byRain
theorem dX7_mean_0 : decode cX7_mean 0 = .ok (.iload_n 1, 1) := by decide +kernel
theorem dX7_mean_1 : decode cX7_mean 1 = .ok (.i2l, 1) := by decide +kernel
theorem dX7_mean_2 : decode cX7_mean 2 = .ok (.lconst 0, 1) := by decide +kernel
theorem dX7_mean_3 : decode cX7_mean 3 = .ok (.ldc2_w 208, 3) := by decide +kernel
theorem dX7_mean_6 : decode cX7_mean 6 = .ok (.invokestatic 53, 3) := by decide +kernel
theorem dX7_mean_9 : decode cX7_mean 9 = .ok (.ifCond .eq 37, 3) := by decide +kernel
theorem dX7_mean_12 : decode cX7_mean 12 = .ok (.iload_n 2, 1) := by decide +kernel
theorem dX7_mean_13 : decode cX7_mean 13 = .ok (.i2l, 1) := by decide +kernel
theorem dX7_mean_14 : decode cX7_mean 14 = .ok (.lconst 0, 1) := by decide +kernel
theorem dX7_mean_15 : decode cX7_mean 15 = .ok (.ldc2_w 214, 3) := by decide +kernel
theorem dX7_mean_18 : decode cX7_mean 18 = .ok (.invokestatic 53, 3) := by decide +kernel
theorem dX7_mean_21 : decode cX7_mean 21 = .ok (.ifCond .eq 25, 3) := by decide +kernel
theorem dX7_mean_24 : decode cX7_mean 24 = .ok (.iload_n 3, 1) := by decide +kernel
theorem dX7_mean_25 : decode cX7_mean 25 = .ok (.i2l, 1) := by decide +kernel
theorem dX7_mean_26 : decode cX7_mean 26 = .ok (.lconst 0, 1) := by decide +kernel
theorem dX7_mean_27 : decode cX7_mean 27 = .ok (.lconst 1, 1) := by decide +kernel
theorem dX7_mean_28 : decode cX7_mean 28 = .ok (.invokestatic 53, 3) := by decide +kernel
theorem dX7_mean_31 : decode cX7_mean 31 = .ok (.ifCond .eq 15, 3) := by decide +kernel
theorem dX7_mean_34 : decode cX7_mean 34 = .ok (.aload_n 0, 1) := by decide +kernel
theorem dX7_mean_35 : decode cX7_mean 35 = .ok (.iload_n 1, 1) := by decide +kernel
theorem dX7_mean_36 : decode cX7_mean 36 = .ok (.bipush (-4), 2) := by decide +kernel
theorem dX7_mean_38 : decode cX7_mean 38 = .ok (.iload_n 2, 1) := by decide +kernel
theorem dX7_mean_39 : decode cX7_mean 39 = .ok (.iload_n 3, 1) := by decide +kernel
theorem dX7_mean_40 : decode cX7_mean 40 = .ok (.invokevirtual 216, 3) := by decide +kernel
theorem dX7_mean_43 : decode cX7_mean 43 = .ok (.goto 6, 3) := by decide +kernel
theorem dX7_mean_46 : decode cX7_mean 46 = .ok (.ldc2_w 220, 3) := by decide +kernel
theorem dX7_mean_49 : decode cX7_mean 49 = .ok (.lreturn, 1) := by decide +kernel
set_option maxRecDepth 20000 in
theorem ggX7_see_X7_in : GoodIn wsX7_see wsX7_in := goodIn_r _ [7] (by decide +kernel) (by decide +kernel)
set_option maxRecDepth 20000 in
theorem gX7_see_X7_in : GoodIn wsX7_see (va_wsS RX7 53 yX7_in wsX7_in) := goodIn_app (goodIn_of _ (by decide +kernel)) ggX7_see_X7_in
set_option maxRecDepth 20000 in
theorem ggX7_see_X7_isHedge : GoodIn wsX7_see wsX7_isHedge := goodIn_r _ [10, 11, 4, 5, 6, 7] (by decide +kernel) (by decide +kernel)
set_option maxRecDepth 20000 in
theorem gX7_see_X7_isHedge : GoodIn wsX7_see (va_wsS RX7 168 yX7_isHedge wsX7_isHedge) := goodIn_app (goodIn_of _ (by decide +kernel)) ggX7_see_X7_isHedge
theorem dX7_see_0 : decode cX7_see 0 = .ok (.iload_n 1, 1) := by decide +kernel
theorem dX7_see_1 : decode cX7_see 1 = .ok (.i2l, 1) := by decide +kernel
theorem dX7_see_2 : decode cX7_see 2 = .ok (.lconst 0, 1) := by decide +kernel
theorem dX7_see_3 : decode cX7_see 3 = .ok (.ldc2_w 222, 3) := by decide +kernel
theorem dX7_see_6 : decode cX7_see 6 = .ok (.invokestatic 53, 3) := by decide +kernel
theorem dX7_see_9 : decode cX7_see 9 = .ok (.ifCond .eq 20, 3) := by decide +kernel
theorem dX7_see_12 : decode cX7_see 12 = .ok (.iload_n 2, 1) := by decide +kernel
theorem dX7_see_13 : decode cX7_see 13 = .ok (.invokestatic 168, 3) := by decide +kernel
theorem dX7_see_16 : decode cX7_see 16 = .ok (.ifCond .eq 13, 3) := by decide +kernel
theorem dX7_see_19 : decode cX7_see 19 = .ok (.iload_n 3, 1) := by decide +kernel
theorem dX7_see_20 : decode cX7_see 20 = .ok (.i2l, 1) := by decide +kernel
theorem dX7_see_21 : decode cX7_see 21 = .ok (.lconst 0, 1) := by decide +kernel
theorem dX7_see_22 : decode cX7_see 22 = .ok (.lconst 1, 1) := by decide +kernel
theorem dX7_see_23 : decode cX7_see 23 = .ok (.invokestatic 53, 3) := by decide +kernel
theorem dX7_see_26 : decode cX7_see 26 = .ok (.ifCond .ne 5, 3) := by decide +kernel
theorem dX7_see_29 : decode cX7_see 29 = .ok (.iconst (-1), 1) := by decide +kernel
theorem dX7_see_30 : decode cX7_see 30 = .ok (.ireturn, 1) := by decide +kernel
theorem dX7_see_31 : decode cX7_see 31 = .ok (.aload_n 0, 1) := by decide +kernel
theorem dX7_see_32 : decode cX7_see 32 = .ok (.getfield 128, 3) := by decide +kernel
theorem dX7_see_35 : decode cX7_see 35 = .ok (.bipush 6, 2) := by decide +kernel
theorem dX7_see_37 : decode cX7_see 37 = .ok (.if_icmp .ne 6, 3) := by decide +kernel
theorem dX7_see_40 : decode cX7_see 40 = .ok (.bipush (-3), 2) := by decide +kernel
theorem dX7_see_42 : decode cX7_see 42 = .ok (.ireturn, 1) := by decide +kernel
theorem dX7_see_43 : decode cX7_see 43 = .ok (.aload_n 0, 1) := by decide +kernel
theorem dX7_see_44 : decode cX7_see 44 = .ok (.getfield 32, 3) := by decide +kernel
theorem dX7_see_47 : decode cX7_see 47 = .ok (.iconst 3, 1) := by decide +kernel
theorem dX7_see_48 : decode cX7_see 48 = .ok (.aload_n 0, 1) := by decide +kernel
theorem dX7_see_49 : decode cX7_see 49 = .ok (.getfield 128, 3) := by decide +kernel
theorem dX7_see_52 : decode cX7_see 52 = .ok (.imul, 1) := by decide +kernel
theorem dX7_see_53 : decode cX7_see 53 = .ok (.iload_n 1, 1) := by decide +kernel
theorem dX7_see_54 : decode cX7_see 54 = .ok (.iastore, 1) := by decide +kernel
theorem dX7_see_55 : decode cX7_see 55 = .ok (.aload_n 0, 1) := by decide +kernel
theorem dX7_see_56 : decode cX7_see 56 = .ok (.getfield 32, 3) := by decide +kernel
theorem dX7_see_59 : decode cX7_see 59 = .ok (.iconst 3, 1) := by decide +kernel
theorem dX7_see_60 : decode cX7_see 60 = .ok (.aload_n 0, 1) := by decide +kernel
theorem dX7_see_61 : decode cX7_see 61 = .ok (.getfield 128, 3) := by decide +kernel
theorem dX7_see_64 : decode cX7_see 64 = .ok (.imul, 1) := by decide +kernel
theorem dX7_see_65 : decode cX7_see 65 = .ok (.iconst 1, 1) := by decide +kernel
theorem dX7_see_66 : decode cX7_see 66 = .ok (.iadd, 1) := by decide +kernel
theorem dX7_see_67 : decode cX7_see 67 = .ok (.iload_n 2, 1) := by decide +kernel
theorem dX7_see_68 : decode cX7_see 68 = .ok (.iastore, 1) := by decide +kernel
theorem dX7_see_69 : decode cX7_see 69 = .ok (.aload_n 0, 1) := by decide +kernel
theorem dX7_see_70 : decode cX7_see 70 = .ok (.getfield 32, 3) := by decide +kernel
theorem dX7_see_73 : decode cX7_see 73 = .ok (.iconst 3, 1) := by decide +kernel
theorem dX7_see_74 : decode cX7_see 74 = .ok (.aload_n 0, 1) := by decide +kernel
theorem dX7_see_75 : decode cX7_see 75 = .ok (.getfield 128, 3) := by decide +kernel
theorem dX7_see_78 : decode cX7_see 78 = .ok (.imul, 1) := by decide +kernel
theorem dX7_see_79 : decode cX7_see 79 = .ok (.iconst 2, 1) := by decide +kernel
theorem dX7_see_80 : decode cX7_see 80 = .ok (.iadd, 1) := by decide +kernel
theorem dX7_see_81 : decode cX7_see 81 = .ok (.iload_n 3, 1) := by decide +kernel
theorem dX7_see_82 : decode cX7_see 82 = .ok (.iastore, 1) := by decide +kernel
theorem dX7_see_83 : decode cX7_see 83 = .ok (.aload_n 0, 1) := by decide +kernel
theorem dX7_see_84 : decode cX7_see 84 = .ok (.dup, 1) := by decide +kernel
theorem dX7_see_85 : decode cX7_see 85 = .ok (.getfield 128, 3) := by decide +kernel
theorem dX7_see_88 : decode cX7_see 88 = .ok (.iconst 1, 1) := by decide +kernel
theorem dX7_see_89 : decode cX7_see 89 = .ok (.iadd, 1) := by decide +kernel
theorem dX7_see_90 : decode cX7_see 90 = .ok (.putfield 128, 3) := by decide +kernel
theorem dX7_see_93 : decode cX7_see 93 = .ok (.aload_n 0, 1) := by decide +kernel
theorem dX7_see_94 : decode cX7_see 94 = .ok (.getfield 128, 3) := by decide +kernel
theorem dX7_see_97 : decode cX7_see 97 = .ok (.ireturn, 1) := by decide +kernel
set_option maxRecDepth 20000 in
theorem ggX7_forget_X7_in : GoodIn wsX7_forget wsX7_in := goodIn_r _ [5] (by decide +kernel) (by decide +kernel)
set_option maxRecDepth 20000 in
theorem gX7_forget_X7_in : GoodIn wsX7_forget (va_wsS RX7 53 yX7_in wsX7_in) := goodIn_app (goodIn_of _ (by decide +kernel)) ggX7_forget_X7_in
theorem dX7_forget_0 : decode cX7_forget 0 = .ok (.iload_n 1, 1) := by decide +kernel
theorem dX7_forget_1 : decode cX7_forget 1 = .ok (.i2l, 1) := by decide +kernel
theorem dX7_forget_2 : decode cX7_forget 2 = .ok (.lconst 0, 1) := by decide +kernel
theorem dX7_forget_3 : decode cX7_forget 3 = .ok (.aload_n 0, 1) := by decide +kernel
theorem dX7_forget_4 : decode cX7_forget 4 = .ok (.getfield 128, 3) := by decide +kernel
theorem dX7_forget_7 : decode cX7_forget 7 = .ok (.i2l, 1) := by decide +kernel
theorem dX7_forget_8 : decode cX7_forget 8 = .ok (.invokestatic 53, 3) := by decide +kernel
theorem dX7_forget_11 : decode cX7_forget 11 = .ok (.ifCond .ne 5, 3) := by decide +kernel
theorem dX7_forget_14 : decode cX7_forget 14 = .ok (.iconst (-1), 1) := by decide +kernel
theorem dX7_forget_15 : decode cX7_forget 15 = .ok (.ireturn, 1) := by decide +kernel
theorem dX7_forget_16 : decode cX7_forget 16 = .ok (.aload_n 0, 1) := by decide +kernel
theorem dX7_forget_17 : decode cX7_forget 17 = .ok (.getfield 128, 3) := by decide +kernel
theorem dX7_forget_20 : decode cX7_forget 20 = .ok (.istore_n 2, 1) := by decide +kernel
theorem dX7_forget_21 : decode cX7_forget 21 = .ok (.aload_n 0, 1) := by decide +kernel
theorem dX7_forget_22 : decode cX7_forget 22 = .ok (.iload_n 1, 1) := by decide +kernel
theorem dX7_forget_23 : decode cX7_forget 23 = .ok (.putfield 128, 3) := by decide +kernel
theorem dX7_forget_26 : decode cX7_forget 26 = .ok (.iload_n 2, 1) := by decide +kernel
theorem dX7_forget_27 : decode cX7_forget 27 = .ok (.ireturn, 1) := by decide +kernel
set_option maxRecDepth 20000 in
theorem ggX7_isAsSeen_X7_copies : GoodIn wsX7_isAsSeen wsX7_copies := goodIn_r _ [9, 4, 47, 48, 49, 50, 51, 52, 53, 54, 55, 56, 57, 58, 59, 60, 61, 62, 63, 64, 65, 66, 67, 68, 69, 70, 71] (by decide +kernel) (by decide +kernel)
set_option maxRecDepth 20000 in
theorem gX7_isAsSeen_X7_copies : GoodIn wsX7_isAsSeen (wsV RX7 202 RX7 yX7_copies wsX7_copies) := goodIn_app (goodIn_of _ (by decide +kernel)) ggX7_isAsSeen_X7_copies
set_option maxRecDepth 20000 in
theorem ggX7_isAsSeen_X7_standOn : GoodIn wsX7_isAsSeen wsX7_standOn := goodIn_r _ [13, 4, 47, 48, 49, 50, 51, 52, 53, 54, 55, 56, 57, 58, 59, 60, 61, 62, 63, 64, 65, 66, 67, 68, 69, 70, 71] (by decide +kernel) (by decide +kernel)
set_option maxRecDepth 20000 in
theorem gX7_isAsSeen_X7_standOn : GoodIn wsX7_isAsSeen (wsV RX7 156 RX7 yX7_standOn wsX7_standOn) := goodIn_app (goodIn_of _ (by decide +kernel)) ggX7_isAsSeen_X7_standOn
set_option maxRecDepth 20000 in
theorem ggX7_isAsSeen_X7_dayOn : GoodIn wsX7_isAsSeen wsX7_dayOn := goodIn_r _ [17, 4, 18, 19, 20, 21, 8, 22, 23, 24, 25, 26, 27, 28, 29, 30, 31, 32, 33, 34, 35, 36, 37, 38, 39, 40, 41, 42, 43, 44, 45, 46, 47, 48, 49, 50, 51, 52, 53, 54, 55, 56, 57, 58, 59, 60, 61, 62, 63, 64, 65, 66, 67, 68, 69, 70, 71] (by decide +kernel) (by decide +kernel)
set_option maxRecDepth 20000 in
theorem gX7_isAsSeen_X7_dayOn : GoodIn wsX7_isAsSeen (wsV RX7 198 RX7 yX7_dayOn wsX7_dayOn) := goodIn_app (goodIn_of _ (by decide +kernel)) ggX7_isAsSeen_X7_dayOn
theorem dX7_isAsSeen_0 : decode cX7_isAsSeen 0 = .ok (.aload_n 0, 1) := by decide +kernel
theorem dX7_isAsSeen_1 : decode cX7_isAsSeen 1 = .ok (.iconst 0, 1) := by decide +kernel
theorem dX7_isAsSeen_2 : decode cX7_isAsSeen 2 = .ok (.sipush 212, 3) := by decide +kernel
theorem dX7_isAsSeen_5 : decode cX7_isAsSeen 5 = .ok (.invokevirtual 202, 3) := by decide +kernel
theorem dX7_isAsSeen_8 : decode cX7_isAsSeen 8 = .ok (.iconst 1, 1) := by decide +kernel
theorem dX7_isAsSeen_9 : decode cX7_isAsSeen 9 = .ok (.istore_n 2, 1) := by decide +kernel
theorem dX7_isAsSeen_10 : decode cX7_isAsSeen 10 = .ok (.iconst 0, 1) := by decide +kernel
theorem dX7_isAsSeen_11 : decode cX7_isAsSeen 11 = .ok (.istore_n 3, 1) := by decide +kernel
theorem dX7_isAsSeen_12 : decode cX7_isAsSeen 12 = .ok (.iload_n 3, 1) := by decide +kernel
theorem dX7_isAsSeen_13 : decode cX7_isAsSeen 13 = .ok (.bipush 20, 2) := by decide +kernel
theorem dX7_isAsSeen_15 : decode cX7_isAsSeen 15 = .ok (.if_icmp .gt 110, 3) := by decide +kernel
theorem dX7_isAsSeen_18 : decode cX7_isAsSeen 18 = .ok (.aload_n 0, 1) := by decide +kernel
theorem dX7_isAsSeen_19 : decode cX7_isAsSeen 19 = .ok (.getfield 35, 3) := by decide +kernel
theorem dX7_isAsSeen_22 : decode cX7_isAsSeen 22 = .ok (.bipush 21, 2) := by decide +kernel
theorem dX7_isAsSeen_24 : decode cX7_isAsSeen 24 = .ok (.iload_n 1, 1) := by decide +kernel
theorem dX7_isAsSeen_25 : decode cX7_isAsSeen 25 = .ok (.imul, 1) := by decide +kernel
theorem dX7_isAsSeen_26 : decode cX7_isAsSeen 26 = .ok (.iload_n 3, 1) := by decide +kernel
theorem dX7_isAsSeen_27 : decode cX7_isAsSeen 27 = .ok (.iadd, 1) := by decide +kernel
theorem dX7_isAsSeen_28 : decode cX7_isAsSeen 28 = .ok (.aload_n 0, 1) := by decide +kernel
theorem dX7_isAsSeen_29 : decode cX7_isAsSeen 29 = .ok (.sipush 212, 3) := by decide +kernel
theorem dX7_isAsSeen_32 : decode cX7_isAsSeen 32 = .ok (.invokevirtual 156, 3) := by decide +kernel
theorem dX7_isAsSeen_35 : decode cX7_isAsSeen 35 = .ok (.iastore, 1) := by decide +kernel
theorem dX7_isAsSeen_36 : decode cX7_isAsSeen 36 = .ok (.iconst 0, 1) := by decide +kernel
theorem dX7_isAsSeen_37 : decode cX7_isAsSeen 37 = .ok (.istore 4, 2) := by decide +kernel
theorem dX7_isAsSeen_39 : decode cX7_isAsSeen 39 = .ok (.iload 4, 2) := by decide +kernel
theorem dX7_isAsSeen_41 : decode cX7_isAsSeen 41 = .ok (.aload_n 0, 1) := by decide +kernel
theorem dX7_isAsSeen_42 : decode cX7_isAsSeen 42 = .ok (.getfield 128, 3) := by decide +kernel
theorem dX7_isAsSeen_45 : decode cX7_isAsSeen 45 = .ok (.if_icmp .ge 66, 3) := by decide +kernel
theorem dX7_isAsSeen_48 : decode cX7_isAsSeen 48 = .ok (.iload_n 2, 1) := by decide +kernel
theorem dX7_isAsSeen_49 : decode cX7_isAsSeen 49 = .ok (.ifCond .eq 54, 3) := by decide +kernel
theorem dX7_isAsSeen_52 : decode cX7_isAsSeen 52 = .ok (.aload_n 0, 1) := by decide +kernel
theorem dX7_isAsSeen_53 : decode cX7_isAsSeen 53 = .ok (.getfield 32, 3) := by decide +kernel
theorem dX7_isAsSeen_56 : decode cX7_isAsSeen 56 = .ok (.iconst 3, 1) := by decide +kernel
theorem dX7_isAsSeen_57 : decode cX7_isAsSeen 57 = .ok (.iload 4, 2) := by decide +kernel
theorem dX7_isAsSeen_59 : decode cX7_isAsSeen 59 = .ok (.imul, 1) := by decide +kernel
theorem dX7_isAsSeen_60 : decode cX7_isAsSeen 60 = .ok (.iaload, 1) := by decide +kernel
theorem dX7_isAsSeen_61 : decode cX7_isAsSeen 61 = .ok (.iload_n 3, 1) := by decide +kernel
theorem dX7_isAsSeen_62 : decode cX7_isAsSeen 62 = .ok (.if_icmp .ne 37, 3) := by decide +kernel
theorem dX7_isAsSeen_65 : decode cX7_isAsSeen 65 = .ok (.aload_n 0, 1) := by decide +kernel
theorem dX7_isAsSeen_66 : decode cX7_isAsSeen 66 = .ok (.getfield 7, 3) := by decide +kernel
theorem dX7_isAsSeen_69 : decode cX7_isAsSeen 69 = .ok (.sipush 212, 3) := by decide +kernel
theorem dX7_isAsSeen_72 : decode cX7_isAsSeen 72 = .ok (.aload_n 0, 1) := by decide +kernel
theorem dX7_isAsSeen_73 : decode cX7_isAsSeen 73 = .ok (.getfield 32, 3) := by decide +kernel
theorem dX7_isAsSeen_76 : decode cX7_isAsSeen 76 = .ok (.iconst 3, 1) := by decide +kernel
theorem dX7_isAsSeen_77 : decode cX7_isAsSeen 77 = .ok (.iload 4, 2) := by decide +kernel
theorem dX7_isAsSeen_79 : decode cX7_isAsSeen 79 = .ok (.imul, 1) := by decide +kernel
theorem dX7_isAsSeen_80 : decode cX7_isAsSeen 80 = .ok (.iconst 1, 1) := by decide +kernel
theorem dX7_isAsSeen_81 : decode cX7_isAsSeen 81 = .ok (.iadd, 1) := by decide +kernel
theorem dX7_isAsSeen_82 : decode cX7_isAsSeen 82 = .ok (.iaload, 1) := by decide +kernel
theorem dX7_isAsSeen_83 : decode cX7_isAsSeen 83 = .ok (.iadd, 1) := by decide +kernel
theorem dX7_isAsSeen_84 : decode cX7_isAsSeen 84 = .ok (.iaload, 1) := by decide +kernel
theorem dX7_isAsSeen_85 : decode cX7_isAsSeen 85 = .ok (.aload_n 0, 1) := by decide +kernel
theorem dX7_isAsSeen_86 : decode cX7_isAsSeen 86 = .ok (.getfield 32, 3) := by decide +kernel
theorem dX7_isAsSeen_89 : decode cX7_isAsSeen 89 = .ok (.iconst 3, 1) := by decide +kernel
theorem dX7_isAsSeen_90 : decode cX7_isAsSeen 90 = .ok (.iload 4, 2) := by decide +kernel
theorem dX7_isAsSeen_92 : decode cX7_isAsSeen 92 = .ok (.imul, 1) := by decide +kernel
theorem dX7_isAsSeen_93 : decode cX7_isAsSeen 93 = .ok (.iconst 2, 1) := by decide +kernel
theorem dX7_isAsSeen_94 : decode cX7_isAsSeen 94 = .ok (.iadd, 1) := by decide +kernel
theorem dX7_isAsSeen_95 : decode cX7_isAsSeen 95 = .ok (.iaload, 1) := by decide +kernel
theorem dX7_isAsSeen_96 : decode cX7_isAsSeen 96 = .ok (.if_icmp .ne 7, 3) := by decide +kernel
theorem dX7_isAsSeen_99 : decode cX7_isAsSeen 99 = .ok (.iconst 1, 1) := by decide +kernel
theorem dX7_isAsSeen_100 : decode cX7_isAsSeen 100 = .ok (.goto 4, 3) := by decide +kernel
theorem dX7_isAsSeen_103 : decode cX7_isAsSeen 103 = .ok (.iconst 0, 1) := by decide +kernel
theorem dX7_isAsSeen_104 : decode cX7_isAsSeen 104 = .ok (.istore_n 2, 1) := by decide +kernel
theorem dX7_isAsSeen_105 : decode cX7_isAsSeen 105 = .ok (.iinc 4 1, 3) := by decide +kernel
theorem dX7_isAsSeen_108 : decode cX7_isAsSeen 108 = .ok (.goto (-69), 3) := by decide +kernel
theorem dX7_isAsSeen_111 : decode cX7_isAsSeen 111 = .ok (.aload_n 0, 1) := by decide +kernel
theorem dX7_isAsSeen_112 : decode cX7_isAsSeen 112 = .ok (.sipush 212, 3) := by decide +kernel
theorem dX7_isAsSeen_115 : decode cX7_isAsSeen 115 = .ok (.iconst 0, 1) := by decide +kernel
theorem dX7_isAsSeen_116 : decode cX7_isAsSeen 116 = .ok (.invokevirtual 198, 3) := by decide +kernel
theorem dX7_isAsSeen_119 : decode cX7_isAsSeen 119 = .ok (.iinc 3 1, 3) := by decide +kernel
theorem dX7_isAsSeen_122 : decode cX7_isAsSeen 122 = .ok (.goto (-110), 3) := by decide +kernel
theorem dX7_isAsSeen_125 : decode cX7_isAsSeen 125 = .ok (.iload_n 2, 1) := by decide +kernel
theorem dX7_isAsSeen_126 : decode cX7_isAsSeen 126 = .ok (.ireturn, 1) := by decide +kernel
set_option maxRecDepth 20000 in
theorem ggX7_numbersAt_X7_isAsSeen : GoodIn wsX7_numbersAt wsX7_isAsSeen := goodIn_r _ [6, 7, 8, 9, 1, 10, 11, 12, 5, 13, 14, 15, 16, 17, 18, 19, 20, 21, 22, 23, 24, 25, 26, 27, 28, 29, 30, 31, 32, 33, 34, 35, 36, 37, 38, 39, 40, 41, 42, 43, 44, 45, 46, 47, 48, 49, 50, 51, 52, 53, 54, 55, 56, 57, 58, 59, 60, 61, 62, 63, 64, 65, 66, 67, 68, 69, 70, 71, 72, 73, 74, 75] (by decide +kernel) (by decide +kernel)
set_option maxRecDepth 20000 in
theorem gX7_numbersAt_X7_isAsSeen : GoodIn wsX7_numbersAt (wsV RX7 224 RX7 yX7_isAsSeen wsX7_isAsSeen) := goodIn_app (goodIn_of _ (by decide +kernel)) ggX7_numbersAt_X7_isAsSeen
theorem dX7_numbersAt_0 : decode cX7_numbersAt 0 = .ok (.aload_n 0, 1) := by decide +kernel
theorem dX7_numbersAt_1 : decode cX7_numbersAt 1 = .ok (.getfield 7, 3) := by decide +kernel
theorem dX7_numbersAt_4 : decode cX7_numbersAt 4 = .ok (.iload_n 1, 1) := by decide +kernel
theorem dX7_numbersAt_5 : decode cX7_numbersAt 5 = .ok (.iaload, 1) := by decide +kernel
theorem dX7_numbersAt_6 : decode cX7_numbersAt 6 = .ok (.istore_n 3, 1) := by decide +kernel
theorem dX7_numbersAt_7 : decode cX7_numbersAt 7 = .ok (.iconst 0, 1) := by decide +kernel
theorem dX7_numbersAt_8 : decode cX7_numbersAt 8 = .ok (.istore 4, 2) := by decide +kernel
theorem dX7_numbersAt_10 : decode cX7_numbersAt 10 = .ok (.iconst 0, 1) := by decide +kernel
theorem dX7_numbersAt_11 : decode cX7_numbersAt 11 = .ok (.istore 5, 2) := by decide +kernel
theorem dX7_numbersAt_13 : decode cX7_numbersAt 13 = .ok (.iload 5, 2) := by decide +kernel
theorem dX7_numbersAt_15 : decode cX7_numbersAt 15 = .ok (.iload_n 2, 1) := by decide +kernel
theorem dX7_numbersAt_16 : decode cX7_numbersAt 16 = .ok (.if_icmp .gt 39, 3) := by decide +kernel
theorem dX7_numbersAt_19 : decode cX7_numbersAt 19 = .ok (.aload_n 0, 1) := by decide +kernel
theorem dX7_numbersAt_20 : decode cX7_numbersAt 20 = .ok (.getfield 7, 3) := by decide +kernel
theorem dX7_numbersAt_23 : decode cX7_numbersAt 23 = .ok (.iload_n 1, 1) := by decide +kernel
theorem dX7_numbersAt_24 : decode cX7_numbersAt 24 = .ok (.iload 5, 2) := by decide +kernel
theorem dX7_numbersAt_26 : decode cX7_numbersAt 26 = .ok (.iastore, 1) := by decide +kernel
theorem dX7_numbersAt_27 : decode cX7_numbersAt 27 = .ok (.iload 4, 2) := by decide +kernel
theorem dX7_numbersAt_29 : decode cX7_numbersAt 29 = .ok (.aload_n 0, 1) := by decide +kernel
theorem dX7_numbersAt_30 : decode cX7_numbersAt 30 = .ok (.iload 5, 2) := by decide +kernel
theorem dX7_numbersAt_32 : decode cX7_numbersAt 32 = .ok (.invokevirtual 224, 3) := by decide +kernel
theorem dX7_numbersAt_35 : decode cX7_numbersAt 35 = .ok (.ifCond .eq 10, 3) := by decide +kernel
theorem dX7_numbersAt_38 : decode cX7_numbersAt 38 = .ok (.iconst 1, 1) := by decide +kernel
theorem dX7_numbersAt_39 : decode cX7_numbersAt 39 = .ok (.iload 5, 2) := by decide +kernel
theorem dX7_numbersAt_41 : decode cX7_numbersAt 41 = .ok (.ishl, 1) := by decide +kernel
theorem dX7_numbersAt_42 : decode cX7_numbersAt 42 = .ok (.goto 4, 3) := by decide +kernel
theorem dX7_numbersAt_45 : decode cX7_numbersAt 45 = .ok (.iconst 0, 1) := by decide +kernel
theorem dX7_numbersAt_46 : decode cX7_numbersAt 46 = .ok (.ior, 1) := by decide +kernel
theorem dX7_numbersAt_47 : decode cX7_numbersAt 47 = .ok (.istore 4, 2) := by decide +kernel
theorem dX7_numbersAt_49 : decode cX7_numbersAt 49 = .ok (.iinc 5 1, 3) := by decide +kernel
theorem dX7_numbersAt_52 : decode cX7_numbersAt 52 = .ok (.goto (-39), 3) := by decide +kernel
theorem dX7_numbersAt_55 : decode cX7_numbersAt 55 = .ok (.aload_n 0, 1) := by decide +kernel
theorem dX7_numbersAt_56 : decode cX7_numbersAt 56 = .ok (.getfield 7, 3) := by decide +kernel
theorem dX7_numbersAt_59 : decode cX7_numbersAt 59 = .ok (.iload_n 1, 1) := by decide +kernel
theorem dX7_numbersAt_60 : decode cX7_numbersAt 60 = .ok (.iload_n 3, 1) := by decide +kernel
theorem dX7_numbersAt_61 : decode cX7_numbersAt 61 = .ok (.iastore, 1) := by decide +kernel
theorem dX7_numbersAt_62 : decode cX7_numbersAt 62 = .ok (.iload 4, 2) := by decide +kernel
theorem dX7_numbersAt_64 : decode cX7_numbersAt 64 = .ok (.ireturn, 1) := by decide +kernel
set_option maxRecDepth 20000 in
theorem ggX7_kinds_X7_isGardener : GoodIn wsX7_kinds wsX7_isGardener := goodIn_r _ [5, 6, 7, 8, 4, 9, 62, 63, 64, 65, 66, 67, 68, 69, 70, 71, 72, 73, 74, 75, 76, 77, 78, 79, 80, 81, 82, 83, 84, 85, 86] (by decide +kernel) (by decide +kernel)
set_option maxRecDepth 20000 in
theorem gX7_kinds_X7_isGardener : GoodIn wsX7_kinds (wsV RX7 172 RX7 yX7_isGardener wsX7_isGardener) := goodIn_app (goodIn_of _ (by decide +kernel)) ggX7_kinds_X7_isGardener
set_option maxRecDepth 20000 in
theorem ggX7_kinds_X7_numbersAt : GoodIn wsX7_kinds wsX7_numbersAt := goodIn_r _ [13, 6, 14, 15, 16, 4, 17, 18, 19, 20, 21, 22, 23, 24, 25, 26, 27, 28, 29, 30, 31, 32, 33, 34, 35, 36, 37, 38, 39, 40, 41, 42, 43, 44, 45, 46, 47, 48, 49, 50, 51, 52, 53, 54, 55, 56, 57, 58, 59, 60, 61, 62, 63, 64, 65, 66, 67, 68, 69, 70, 71, 72, 73, 74, 75, 76, 77, 78, 79, 80, 81, 82, 83, 84, 85, 86] (by decide +kernel) (by decide +kernel)
set_option maxRecDepth 20000 in
theorem gX7_kinds_X7_numbersAt : GoodIn wsX7_kinds (wsV RX7 227 RX7 yX7_numbersAt wsX7_numbersAt) := goodIn_app (goodIn_of _ (by decide +kernel)) ggX7_kinds_X7_numbersAt
theorem dX7_kinds_0 : decode cX7_kinds 0 = .ok (.aload_n 0, 1) := by decide +kernel
theorem dX7_kinds_1 : decode cX7_kinds 1 = .ok (.iload_n 1, 1) := by decide +kernel
theorem dX7_kinds_2 : decode cX7_kinds 2 = .ok (.invokevirtual 172, 3) := by decide +kernel
theorem dX7_kinds_5 : decode cX7_kinds 5 = .ok (.ifCond .eq 15, 3) := by decide +kernel
theorem dX7_kinds_8 : decode cX7_kinds 8 = .ok (.aload_n 0, 1) := by decide +kernel
theorem dX7_kinds_9 : decode cX7_kinds 9 = .ok (.bipush 25, 2) := by decide +kernel
theorem dX7_kinds_11 : decode cX7_kinds 11 = .ok (.iload_n 1, 1) := by decide +kernel
theorem dX7_kinds_12 : decode cX7_kinds 12 = .ok (.iadd, 1) := by decide +kernel
theorem dX7_kinds_13 : decode cX7_kinds 13 = .ok (.iconst 3, 1) := by decide +kernel
theorem dX7_kinds_14 : decode cX7_kinds 14 = .ok (.invokevirtual 227, 3) := by decide +kernel
theorem dX7_kinds_17 : decode cX7_kinds 17 = .ok (.goto 4, 3) := by decide +kernel
theorem dX7_kinds_20 : decode cX7_kinds 20 = .ok (.iconst (-1), 1) := by decide +kernel
theorem dX7_kinds_21 : decode cX7_kinds 21 = .ok (.ireturn, 1) := by decide +kernel
set_option maxRecDepth 20000 in
theorem ggX7_tastes_X7_isGardener : GoodIn wsX7_tastes wsX7_isGardener := goodIn_r _ [5, 6, 7, 8, 4, 9, 62, 63, 64, 65, 66, 67, 68, 69, 70, 71, 72, 73, 74, 75, 76, 77, 78, 79, 80, 81, 82, 83, 84, 85, 86] (by decide +kernel) (by decide +kernel)
set_option maxRecDepth 20000 in
theorem gX7_tastes_X7_isGardener : GoodIn wsX7_tastes (wsV RX7 172 RX7 yX7_isGardener wsX7_isGardener) := goodIn_app (goodIn_of _ (by decide +kernel)) ggX7_tastes_X7_isGardener
set_option maxRecDepth 20000 in
theorem ggX7_tastes_X7_numbersAt : GoodIn wsX7_tastes wsX7_numbersAt := goodIn_r _ [13, 6, 14, 15, 16, 4, 17, 18, 19, 20, 21, 22, 23, 24, 25, 26, 27, 28, 29, 30, 31, 32, 33, 34, 35, 36, 37, 38, 39, 40, 41, 42, 43, 44, 45, 46, 47, 48, 49, 50, 51, 52, 53, 54, 55, 56, 57, 58, 59, 60, 61, 62, 63, 64, 65, 66, 67, 68, 69, 70, 71, 72, 73, 74, 75, 76, 77, 78, 79, 80, 81, 82, 83, 84, 85, 86] (by decide +kernel) (by decide +kernel)
set_option maxRecDepth 20000 in
theorem gX7_tastes_X7_numbersAt : GoodIn wsX7_tastes (wsV RX7 227 RX7 yX7_numbersAt wsX7_numbersAt) := goodIn_app (goodIn_of _ (by decide +kernel)) ggX7_tastes_X7_numbersAt
theorem dX7_tastes_0 : decode cX7_tastes 0 = .ok (.aload_n 0, 1) := by decide +kernel
theorem dX7_tastes_1 : decode cX7_tastes 1 = .ok (.iload_n 1, 1) := by decide +kernel
theorem dX7_tastes_2 : decode cX7_tastes 2 = .ok (.invokevirtual 172, 3) := by decide +kernel
theorem dX7_tastes_5 : decode cX7_tastes 5 = .ok (.ifCond .eq 16, 3) := by decide +kernel
theorem dX7_tastes_8 : decode cX7_tastes 8 = .ok (.aload_n 0, 1) := by decide +kernel
theorem dX7_tastes_9 : decode cX7_tastes 9 = .ok (.bipush 29, 2) := by decide +kernel
theorem dX7_tastes_11 : decode cX7_tastes 11 = .ok (.iload_n 1, 1) := by decide +kernel
theorem dX7_tastes_12 : decode cX7_tastes 12 = .ok (.iadd, 1) := by decide +kernel
theorem dX7_tastes_13 : decode cX7_tastes 13 = .ok (.bipush 23, 2) := by decide +kernel
theorem dX7_tastes_15 : decode cX7_tastes 15 = .ok (.invokevirtual 227, 3) := by decide +kernel
theorem dX7_tastes_18 : decode cX7_tastes 18 = .ok (.goto 4, 3) := by decide +kernel
theorem dX7_tastes_21 : decode cX7_tastes 21 = .ok (.iconst (-1), 1) := by decide +kernel
theorem dX7_tastes_22 : decode cX7_tastes 22 = .ok (.ireturn, 1) := by decide +kernel
set_option maxRecDepth 20000 in
theorem ggX7_ask_X7_isGardener : GoodIn wsX7_ask wsX7_isGardener := goodIn_r _ [6, 7, 8, 9, 5, 10, 65, 66, 67, 68, 69, 70, 71, 72, 73, 74, 75, 76, 77, 78, 79, 80, 81, 82, 83, 84, 85, 86, 87, 88, 89] (by decide +kernel) (by decide +kernel)
set_option maxRecDepth 20000 in
theorem gX7_ask_X7_isGardener : GoodIn wsX7_ask (wsV RX7 172 RX7 yX7_isGardener wsX7_isGardener) := goodIn_app (goodIn_of _ (by decide +kernel)) ggX7_ask_X7_isGardener
set_option maxRecDepth 20000 in
theorem ggX7_ask_X7_in : GoodIn wsX7_ask wsX7_in := goodIn_r _ [10] (by decide +kernel) (by decide +kernel)
set_option maxRecDepth 20000 in
theorem gX7_ask_X7_in : GoodIn wsX7_ask (va_wsS RX7 53 yX7_in wsX7_in) := goodIn_app (goodIn_of _ (by decide +kernel)) ggX7_ask_X7_in
set_option maxRecDepth 20000 in
theorem ggX7_ask_X7_numbersAt : GoodIn wsX7_ask wsX7_numbersAt := goodIn_r _ [14, 7, 15, 16, 17, 5, 18, 1, 19, 20, 21, 22, 23, 24, 25, 26, 27, 28, 29, 30, 31, 32, 33, 34, 35, 36, 37, 38, 39, 40, 41, 42, 43, 44, 45, 46, 47, 48, 49, 50, 51, 52, 53, 54, 55, 56, 57, 58, 59, 60, 61, 65, 66, 67, 68, 69, 70, 71, 72, 73, 74, 75, 76, 77, 78, 79, 80, 81, 82, 83, 84, 85, 86, 87, 88, 89] (by decide +kernel) (by decide +kernel)
set_option maxRecDepth 20000 in
theorem gX7_ask_X7_numbersAt : GoodIn wsX7_ask (wsV RX7 227 RX7 yX7_numbersAt wsX7_numbersAt) := goodIn_app (goodIn_of _ (by decide +kernel)) ggX7_ask_X7_numbersAt
set_option maxRecDepth 20000 in
theorem ggX7_ask_X7_bitsOf : GoodIn wsX7_ask wsX7_bitsOf := goodIn_r _ [64] (by decide +kernel) (by decide +kernel)
set_option maxRecDepth 20000 in
theorem gX7_ask_X7_bitsOf : GoodIn wsX7_ask (va_wsS RX7 159 yX7_bitsOf wsX7_bitsOf) := goodIn_app (goodIn_of _ (by decide +kernel)) ggX7_ask_X7_bitsOf
theorem dX7_ask_0 : decode cX7_ask 0 = .ok (.aload_n 0, 1) := by decide +kernel
theorem dX7_ask_1 : decode cX7_ask 1 = .ok (.iload_n 1, 1) := by decide +kernel
theorem dX7_ask_2 : decode cX7_ask 2 = .ok (.invokevirtual 172, 3) := by decide +kernel
theorem dX7_ask_5 : decode cX7_ask 5 = .ok (.ifCond .eq 13, 3) := by decide +kernel
theorem dX7_ask_8 : decode cX7_ask 8 = .ok (.iload_n 2, 1) := by decide +kernel
theorem dX7_ask_9 : decode cX7_ask 9 = .ok (.i2l, 1) := by decide +kernel
theorem dX7_ask_10 : decode cX7_ask 10 = .ok (.lconst 0, 1) := by decide +kernel
theorem dX7_ask_11 : decode cX7_ask 11 = .ok (.lconst 1, 1) := by decide +kernel
theorem dX7_ask_12 : decode cX7_ask 12 = .ok (.invokestatic 53, 3) := by decide +kernel
theorem dX7_ask_15 : decode cX7_ask 15 = .ok (.ifCond .ne 5, 3) := by decide +kernel
theorem dX7_ask_18 : decode cX7_ask 18 = .ok (.iconst (-1), 1) := by decide +kernel
theorem dX7_ask_19 : decode cX7_ask 19 = .ok (.ireturn, 1) := by decide +kernel
theorem dX7_ask_20 : decode cX7_ask 20 = .ok (.aload_n 0, 1) := by decide +kernel
theorem dX7_ask_21 : decode cX7_ask 21 = .ok (.bipush 29, 2) := by decide +kernel
theorem dX7_ask_23 : decode cX7_ask 23 = .ok (.iload_n 1, 1) := by decide +kernel
theorem dX7_ask_24 : decode cX7_ask 24 = .ok (.iadd, 1) := by decide +kernel
theorem dX7_ask_25 : decode cX7_ask 25 = .ok (.bipush 23, 2) := by decide +kernel
theorem dX7_ask_27 : decode cX7_ask 27 = .ok (.invokevirtual 227, 3) := by decide +kernel
theorem dX7_ask_30 : decode cX7_ask 30 = .ok (.istore_n 3, 1) := by decide +kernel
theorem dX7_ask_31 : decode cX7_ask 31 = .ok (.iload_n 3, 1) := by decide +kernel
theorem dX7_ask_32 : decode cX7_ask 32 = .ok (.invokestatic 159, 3) := by decide +kernel
theorem dX7_ask_35 : decode cX7_ask 35 = .ok (.istore 4, 2) := by decide +kernel
theorem dX7_ask_37 : decode cX7_ask 37 = .ok (.iload 4, 2) := by decide +kernel
theorem dX7_ask_39 : decode cX7_ask 39 = .ok (.istore 5, 2) := by decide +kernel
theorem dX7_ask_41 : decode cX7_ask 41 = .ok (.bipush (-4), 2) := by decide +kernel
theorem dX7_ask_43 : decode cX7_ask 43 = .ok (.istore 6, 2) := by decide +kernel
theorem dX7_ask_45 : decode cX7_ask 45 = .ok (.iconst 0, 1) := by decide +kernel
theorem dX7_ask_46 : decode cX7_ask 46 = .ok (.istore 7, 2) := by decide +kernel
theorem dX7_ask_48 : decode cX7_ask 48 = .ok (.iload 7, 2) := by decide +kernel
theorem dX7_ask_50 : decode cX7_ask 50 = .ok (.bipush 20, 2) := by decide +kernel
theorem dX7_ask_52 : decode cX7_ask 52 = .ok (.if_icmp .gt 141, 3) := by decide +kernel
theorem dX7_ask_55 : decode cX7_ask 55 = .ok (.iconst 0, 1) := by decide +kernel
theorem dX7_ask_56 : decode cX7_ask 56 = .ok (.istore 8, 2) := by decide +kernel
theorem dX7_ask_58 : decode cX7_ask 58 = .ok (.iload 8, 2) := by decide +kernel
theorem dX7_ask_60 : decode cX7_ask 60 = .ok (.bipush 24, 2) := by decide +kernel
theorem dX7_ask_62 : decode cX7_ask 62 = .ok (.if_icmp .ge 125, 3) := by decide +kernel
theorem dX7_ask_65 : decode cX7_ask 65 = .ok (.iconst 0, 1) := by decide +kernel
theorem dX7_ask_66 : decode cX7_ask 66 = .ok (.istore 9, 2) := by decide +kernel
theorem dX7_ask_68 : decode cX7_ask 68 = .ok (.iconst 0, 1) := by decide +kernel
theorem dX7_ask_69 : decode cX7_ask 69 = .ok (.istore 10, 2) := by decide +kernel
theorem dX7_ask_71 : decode cX7_ask 71 = .ok (.iload 10, 2) := by decide +kernel
theorem dX7_ask_73 : decode cX7_ask 73 = .ok (.bipush 24, 2) := by decide +kernel
theorem dX7_ask_75 : decode cX7_ask 75 = .ok (.if_icmp .ge 46, 3) := by decide +kernel
theorem dX7_ask_78 : decode cX7_ask 78 = .ok (.iload 9, 2) := by decide +kernel
theorem dX7_ask_80 : decode cX7_ask 80 = .ok (.iload_n 3, 1) := by decide +kernel
theorem dX7_ask_81 : decode cX7_ask 81 = .ok (.iload 10, 2) := by decide +kernel
theorem dX7_ask_83 : decode cX7_ask 83 = .ok (.ishr, 1) := by decide +kernel
theorem dX7_ask_84 : decode cX7_ask 84 = .ok (.iconst 1, 1) := by decide +kernel
theorem dX7_ask_85 : decode cX7_ask 85 = .ok (.iand, 1) := by decide +kernel
theorem dX7_ask_86 : decode cX7_ask 86 = .ok (.iconst 1, 1) := by decide +kernel
theorem dX7_ask_87 : decode cX7_ask 87 = .ok (.if_icmp .ne 24, 3) := by decide +kernel
theorem dX7_ask_90 : decode cX7_ask 90 = .ok (.aload_n 0, 1) := by decide +kernel
theorem dX7_ask_91 : decode cX7_ask 91 = .ok (.getfield 35, 3) := by decide +kernel
theorem dX7_ask_94 : decode cX7_ask 94 = .ok (.bipush 21, 2) := by decide +kernel
theorem dX7_ask_96 : decode cX7_ask 96 = .ok (.iload 10, 2) := by decide +kernel
theorem dX7_ask_98 : decode cX7_ask 98 = .ok (.imul, 1) := by decide +kernel
theorem dX7_ask_99 : decode cX7_ask 99 = .ok (.iload 7, 2) := by decide +kernel
theorem dX7_ask_101 : decode cX7_ask 101 = .ok (.iadd, 1) := by decide +kernel
theorem dX7_ask_102 : decode cX7_ask 102 = .ok (.iaload, 1) := by decide +kernel
theorem dX7_ask_103 : decode cX7_ask 103 = .ok (.iload 8, 2) := by decide +kernel
theorem dX7_ask_105 : decode cX7_ask 105 = .ok (.ishr, 1) := by decide +kernel
theorem dX7_ask_106 : decode cX7_ask 106 = .ok (.iconst 1, 1) := by decide +kernel
theorem dX7_ask_107 : decode cX7_ask 107 = .ok (.iand, 1) := by decide +kernel
theorem dX7_ask_108 : decode cX7_ask 108 = .ok (.goto 4, 3) := by decide +kernel
theorem dX7_ask_111 : decode cX7_ask 111 = .ok (.iconst 0, 1) := by decide +kernel
theorem dX7_ask_112 : decode cX7_ask 112 = .ok (.iadd, 1) := by decide +kernel
theorem dX7_ask_113 : decode cX7_ask 113 = .ok (.istore 9, 2) := by decide +kernel
theorem dX7_ask_115 : decode cX7_ask 115 = .ok (.iinc 10 1, 3) := by decide +kernel
theorem dX7_ask_118 : decode cX7_ask 118 = .ok (.goto (-47), 3) := by decide +kernel
theorem dX7_ask_121 : decode cX7_ask 121 = .ok (.iload 9, 2) := by decide +kernel
theorem dX7_ask_123 : decode cX7_ask 123 = .ok (.iload 4, 2) := by decide +kernel
theorem dX7_ask_125 : decode cX7_ask 125 = .ok (.iload 9, 2) := by decide +kernel
theorem dX7_ask_127 : decode cX7_ask 127 = .ok (.isub, 1) := by decide +kernel
theorem dX7_ask_128 : decode cX7_ask 128 = .ok (.if_icmp .le 8, 3) := by decide +kernel
theorem dX7_ask_131 : decode cX7_ask 131 = .ok (.iload 9, 2) := by decide +kernel
theorem dX7_ask_133 : decode cX7_ask 133 = .ok (.goto 8, 3) := by decide +kernel
theorem dX7_ask_136 : decode cX7_ask 136 = .ok (.iload 4, 2) := by decide +kernel
theorem dX7_ask_138 : decode cX7_ask 138 = .ok (.iload 9, 2) := by decide +kernel
theorem dX7_ask_140 : decode cX7_ask 140 = .ok (.isub, 1) := by decide +kernel
theorem dX7_ask_141 : decode cX7_ask 141 = .ok (.istore 10, 2) := by decide +kernel
theorem dX7_ask_143 : decode cX7_ask 143 = .ok (.iload 10, 2) := by decide +kernel
theorem dX7_ask_145 : decode cX7_ask 145 = .ok (.iload 5, 2) := by decide +kernel
theorem dX7_ask_147 : decode cX7_ask 147 = .ok (.if_icmp .ge 14, 3) := by decide +kernel
theorem dX7_ask_150 : decode cX7_ask 150 = .ok (.bipush 100, 2) := by decide +kernel
theorem dX7_ask_152 : decode cX7_ask 152 = .ok (.iload 7, 2) := by decide +kernel
theorem dX7_ask_154 : decode cX7_ask 154 = .ok (.imul, 1) := by decide +kernel
theorem dX7_ask_155 : decode cX7_ask 155 = .ok (.iload 8, 2) := by decide +kernel
theorem dX7_ask_157 : decode cX7_ask 157 = .ok (.iadd, 1) := by decide +kernel
theorem dX7_ask_158 : decode cX7_ask 158 = .ok (.goto 5, 3) := by decide +kernel
theorem dX7_ask_161 : decode cX7_ask 161 = .ok (.iload 6, 2) := by decide +kernel
theorem dX7_ask_163 : decode cX7_ask 163 = .ok (.istore 6, 2) := by decide +kernel
theorem dX7_ask_165 : decode cX7_ask 165 = .ok (.iload 10, 2) := by decide +kernel
theorem dX7_ask_167 : decode cX7_ask 167 = .ok (.iload 5, 2) := by decide +kernel
theorem dX7_ask_169 : decode cX7_ask 169 = .ok (.if_icmp .ge 8, 3) := by decide +kernel
theorem dX7_ask_172 : decode cX7_ask 172 = .ok (.iload 10, 2) := by decide +kernel
theorem dX7_ask_174 : decode cX7_ask 174 = .ok (.goto 5, 3) := by decide +kernel
theorem dX7_ask_177 : decode cX7_ask 177 = .ok (.iload 5, 2) := by decide +kernel
theorem dX7_ask_179 : decode cX7_ask 179 = .ok (.istore 5, 2) := by decide +kernel
