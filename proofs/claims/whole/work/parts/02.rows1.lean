theorem dX0_init_0 : decode cX0_init 0 = .ok (.aload_n 0, 1) := by decide +kernel
theorem dX0_init_1 : decode cX0_init 1 = .ok (.invokespecial 3, 3) := by decide +kernel
theorem dX0_init_4 : decode cX0_init 4 = .ok (.aload_n 0, 1) := by decide +kernel
theorem dX0_init_5 : decode cX0_init 5 = .ok (.bipush (-4), 2) := by decide +kernel
theorem dX0_init_7 : decode cX0_init 7 = .ok (.putfield 9, 3) := by decide +kernel
theorem dX0_init_10 : decode cX0_init 10 = .ok (.aload_n 0, 1) := by decide +kernel
theorem dX0_init_11 : decode cX0_init 11 = .ok (.iconst 0, 1) := by decide +kernel
theorem dX0_init_12 : decode cX0_init 12 = .ok (.putfield 15, 3) := by decide +kernel
theorem dX0_init_15 : decode cX0_init 15 = .ok (.return_, 1) := by decide +kernel
theorem dX0_above_0 : decode cX0_above 0 = .ok (.aload_n 0, 1) := by decide +kernel
theorem dX0_above_1 : decode cX0_above 1 = .ok (.bipush (-4), 2) := by decide +kernel
theorem dX0_above_3 : decode cX0_above 3 = .ok (.putfield 9, 3) := by decide +kernel
theorem dX0_above_6 : decode cX0_above 6 = .ok (.aload_n 0, 1) := by decide +kernel
theorem dX0_above_7 : decode cX0_above 7 = .ok (.iload_n 1, 1) := by decide +kernel
theorem dX0_above_8 : decode cX0_above 8 = .ok (.putfield 15, 3) := by decide +kernel
theorem dX0_above_11 : decode cX0_above 11 = .ok (.return_, 1) := by decide +kernel
theorem dX0_offer_0 : decode cX0_offer 0 = .ok (.iload_n 2, 1) := by decide +kernel
theorem dX0_offer_1 : decode cX0_offer 1 = .ok (.aload_n 0, 1) := by decide +kernel
theorem dX0_offer_2 : decode cX0_offer 2 = .ok (.getfield 15, 3) := by decide +kernel
theorem dX0_offer_5 : decode cX0_offer 5 = .ok (.if_icmp .le 13, 3) := by decide +kernel
theorem dX0_offer_8 : decode cX0_offer 8 = .ok (.aload_n 0, 1) := by decide +kernel
theorem dX0_offer_9 : decode cX0_offer 9 = .ok (.iload_n 1, 1) := by decide +kernel
theorem dX0_offer_10 : decode cX0_offer 10 = .ok (.putfield 9, 3) := by decide +kernel
theorem dX0_offer_13 : decode cX0_offer 13 = .ok (.aload_n 0, 1) := by decide +kernel
theorem dX0_offer_14 : decode cX0_offer 14 = .ok (.iload_n 2, 1) := by decide +kernel
theorem dX0_offer_15 : decode cX0_offer 15 = .ok (.putfield 15, 3) := by decide +kernel
theorem dX0_offer_18 : decode cX0_offer 18 = .ok (.return_, 1) := by decide +kernel
theorem dX0_told_0 : decode cX0_told 0 = .ok (.aload_n 0, 1) := by decide +kernel
theorem dX0_told_1 : decode cX0_told 1 = .ok (.getfield 9, 3) := by decide +kernel
theorem dX0_told_4 : decode cX0_told 4 = .ok (.bipush (-4), 2) := by decide +kernel
theorem dX0_told_6 : decode cX0_told 6 = .ok (.if_icmp .eq 7, 3) := by decide +kernel
theorem dX0_told_9 : decode cX0_told 9 = .ok (.iload_n 1, 1) := by decide +kernel
theorem dX0_told_10 : decode cX0_told 10 = .ok (.ifCond .ne 10, 3) := by decide +kernel
theorem dX0_told_13 : decode cX0_told 13 = .ok (.aload_n 0, 1) := by decide +kernel
theorem dX0_told_14 : decode cX0_told 14 = .ok (.getfield 9, 3) := by decide +kernel
theorem dX0_told_17 : decode cX0_told 17 = .ok (.goto 7, 3) := by decide +kernel
theorem dX0_told_20 : decode cX0_told 20 = .ok (.aload_n 0, 1) := by decide +kernel
theorem dX0_told_21 : decode cX0_told 21 = .ok (.getfield 15, 3) := by decide +kernel
theorem dX0_told_24 : decode cX0_told 24 = .ok (.ireturn, 1) := by decide +kernel
theorem dX1_init_0 : decode cX1_init 0 = .ok (.aload_n 0, 1) := by decide +kernel
theorem dX1_init_1 : decode cX1_init 1 = .ok (.invokespecial 3, 3) := by decide +kernel
theorem dX1_init_4 : decode cX1_init 4 = .ok (.aload_n 0, 1) := by decide +kernel
theorem dX1_init_5 : decode cX1_init 5 = .ok (.iconst 0, 1) := by decide +kernel
theorem dX1_init_6 : decode cX1_init 6 = .ok (.putfield 9, 3) := by decide +kernel
theorem dX1_init_9 : decode cX1_init 9 = .ok (.aload_n 0, 1) := by decide +kernel
theorem dX1_init_10 : decode cX1_init 10 = .ok (.iconst 0, 1) := by decide +kernel
theorem dX1_init_11 : decode cX1_init 11 = .ok (.putfield 15, 3) := by decide +kernel
theorem dX1_init_14 : decode cX1_init 14 = .ok (.aload_n 0, 1) := by decide +kernel
theorem dX1_init_15 : decode cX1_init 15 = .ok (.bipush (-4), 2) := by decide +kernel
theorem dX1_init_17 : decode cX1_init 17 = .ok (.putfield 18, 3) := by decide +kernel
theorem dX1_init_20 : decode cX1_init 20 = .ok (.aload_n 0, 1) := by decide +kernel
theorem dX1_init_21 : decode cX1_init 21 = .ok (.iconst 0, 1) := by decide +kernel
theorem dX1_init_22 : decode cX1_init 22 = .ok (.putfield 21, 3) := by decide +kernel
theorem dX1_init_25 : decode cX1_init 25 = .ok (.aload_n 0, 1) := by decide +kernel
theorem dX1_init_26 : decode cX1_init 26 = .ok (.iconst 0, 1) := by decide +kernel
theorem dX1_init_27 : decode cX1_init 27 = .ok (.putfield 24, 3) := by decide +kernel
theorem dX1_init_30 : decode cX1_init 30 = .ok (.aload_n 0, 1) := by decide +kernel
theorem dX1_init_31 : decode cX1_init 31 = .ok (.iconst 4, 1) := by decide +kernel
theorem dX1_init_32 : decode cX1_init 32 = .ok (.newarray .int, 2) := by decide +kernel
theorem dX1_init_34 : decode cX1_init 34 = .ok (.putfield 27, 3) := by decide +kernel
theorem dX1_init_37 : decode cX1_init 37 = .ok (.aload_n 0, 1) := by decide +kernel
theorem dX1_init_38 : decode cX1_init 38 = .ok (.iconst 4, 1) := by decide +kernel
theorem dX1_init_39 : decode cX1_init 39 = .ok (.newarray .int, 2) := by decide +kernel
theorem dX1_init_41 : decode cX1_init 41 = .ok (.putfield 31, 3) := by decide +kernel
theorem dX1_init_44 : decode cX1_init 44 = .ok (.aload_n 0, 1) := by decide +kernel
theorem dX1_init_45 : decode cX1_init 45 = .ok (.iconst 4, 1) := by decide +kernel
theorem dX1_init_46 : decode cX1_init 46 = .ok (.newarray .int, 2) := by decide +kernel
theorem dX1_init_48 : decode cX1_init 48 = .ok (.putfield 34, 3) := by decide +kernel
theorem dX1_init_51 : decode cX1_init 51 = .ok (.aload_n 0, 1) := by decide +kernel
theorem dX1_init_52 : decode cX1_init 52 = .ok (.iconst 0, 1) := by decide +kernel
theorem dX1_init_53 : decode cX1_init 53 = .ok (.putfield 37, 3) := by decide +kernel
theorem dX1_init_56 : decode cX1_init 56 = .ok (.aload_n 0, 1) := by decide +kernel
theorem dX1_init_57 : decode cX1_init 57 = .ok (.iconst 4, 1) := by decide +kernel
theorem dX1_init_58 : decode cX1_init 58 = .ok (.newarray .int, 2) := by decide +kernel
theorem dX1_init_60 : decode cX1_init 60 = .ok (.putfield 40, 3) := by decide +kernel
theorem dX1_init_63 : decode cX1_init 63 = .ok (.aload_n 0, 1) := by decide +kernel
theorem dX1_init_64 : decode cX1_init 64 = .ok (.iconst 4, 1) := by decide +kernel
theorem dX1_init_65 : decode cX1_init 65 = .ok (.newarray .int, 2) := by decide +kernel
theorem dX1_init_67 : decode cX1_init 67 = .ok (.putfield 43, 3) := by decide +kernel
theorem dX1_init_70 : decode cX1_init 70 = .ok (.aload_n 0, 1) := by decide +kernel
theorem dX1_init_71 : decode cX1_init 71 = .ok (.iconst 4, 1) := by decide +kernel
theorem dX1_init_72 : decode cX1_init 72 = .ok (.newarray .int, 2) := by decide +kernel
theorem dX1_init_74 : decode cX1_init 74 = .ok (.putfield 46, 3) := by decide +kernel
theorem dX1_init_77 : decode cX1_init 77 = .ok (.return_, 1) := by decide +kernel
theorem dX1_restart_0 : decode cX1_restart 0 = .ok (.aload_n 0, 1) := by decide +kernel
theorem dX1_restart_1 : decode cX1_restart 1 = .ok (.iconst 0, 1) := by decide +kernel
theorem dX1_restart_2 : decode cX1_restart 2 = .ok (.putfield 9, 3) := by decide +kernel
theorem dX1_restart_5 : decode cX1_restart 5 = .ok (.aload_n 0, 1) := by decide +kernel
theorem dX1_restart_6 : decode cX1_restart 6 = .ok (.iconst 0, 1) := by decide +kernel
theorem dX1_restart_7 : decode cX1_restart 7 = .ok (.putfield 15, 3) := by decide +kernel
theorem dX1_restart_10 : decode cX1_restart 10 = .ok (.aload_n 0, 1) := by decide +kernel
theorem dX1_restart_11 : decode cX1_restart 11 = .ok (.bipush (-4), 2) := by decide +kernel
theorem dX1_restart_13 : decode cX1_restart 13 = .ok (.putfield 18, 3) := by decide +kernel
theorem dX1_restart_16 : decode cX1_restart 16 = .ok (.aload_n 0, 1) := by decide +kernel
theorem dX1_restart_17 : decode cX1_restart 17 = .ok (.iconst 0, 1) := by decide +kernel
theorem dX1_restart_18 : decode cX1_restart 18 = .ok (.putfield 21, 3) := by decide +kernel
theorem dX1_restart_21 : decode cX1_restart 21 = .ok (.aload_n 0, 1) := by decide +kernel
theorem dX1_restart_22 : decode cX1_restart 22 = .ok (.iconst 0, 1) := by decide +kernel
theorem dX1_restart_23 : decode cX1_restart 23 = .ok (.putfield 24, 3) := by decide +kernel
theorem dX1_restart_26 : decode cX1_restart 26 = .ok (.aload_n 0, 1) := by decide +kernel
theorem dX1_restart_27 : decode cX1_restart 27 = .ok (.iconst 0, 1) := by decide +kernel
theorem dX1_restart_28 : decode cX1_restart 28 = .ok (.putfield 37, 3) := by decide +kernel
theorem dX1_restart_31 : decode cX1_restart 31 = .ok (.return_, 1) := by decide +kernel
theorem dX1_become_0 : decode cX1_become 0 = .ok (.aload_n 0, 1) := by decide +kernel
theorem dX1_become_1 : decode cX1_become 1 = .ok (.aload_n 1, 1) := by decide +kernel
theorem dX1_become_2 : decode cX1_become 2 = .ok (.getfield 9, 3) := by decide +kernel
theorem dX1_become_5 : decode cX1_become 5 = .ok (.putfield 9, 3) := by decide +kernel
theorem dX1_become_8 : decode cX1_become 8 = .ok (.aload_n 0, 1) := by decide +kernel
theorem dX1_become_9 : decode cX1_become 9 = .ok (.aload_n 1, 1) := by decide +kernel
theorem dX1_become_10 : decode cX1_become 10 = .ok (.getfield 15, 3) := by decide +kernel
theorem dX1_become_13 : decode cX1_become 13 = .ok (.putfield 15, 3) := by decide +kernel
theorem dX1_become_16 : decode cX1_become 16 = .ok (.aload_n 0, 1) := by decide +kernel
theorem dX1_become_17 : decode cX1_become 17 = .ok (.aload_n 1, 1) := by decide +kernel
theorem dX1_become_18 : decode cX1_become 18 = .ok (.getfield 18, 3) := by decide +kernel
theorem dX1_become_21 : decode cX1_become 21 = .ok (.putfield 18, 3) := by decide +kernel
theorem dX1_become_24 : decode cX1_become 24 = .ok (.aload_n 0, 1) := by decide +kernel
theorem dX1_become_25 : decode cX1_become 25 = .ok (.aload_n 1, 1) := by decide +kernel
theorem dX1_become_26 : decode cX1_become 26 = .ok (.getfield 21, 3) := by decide +kernel
theorem dX1_become_29 : decode cX1_become 29 = .ok (.putfield 21, 3) := by decide +kernel
theorem dX1_become_32 : decode cX1_become 32 = .ok (.aload_n 0, 1) := by decide +kernel
theorem dX1_become_33 : decode cX1_become 33 = .ok (.aload_n 1, 1) := by decide +kernel
theorem dX1_become_34 : decode cX1_become 34 = .ok (.getfield 24, 3) := by decide +kernel
theorem dX1_become_37 : decode cX1_become 37 = .ok (.putfield 24, 3) := by decide +kernel
theorem dX1_become_40 : decode cX1_become 40 = .ok (.aload_n 0, 1) := by decide +kernel
theorem dX1_become_41 : decode cX1_become 41 = .ok (.aload_n 1, 1) := by decide +kernel
theorem dX1_become_42 : decode cX1_become 42 = .ok (.getfield 37, 3) := by decide +kernel
theorem dX1_become_45 : decode cX1_become 45 = .ok (.putfield 37, 3) := by decide +kernel
theorem dX1_become_48 : decode cX1_become 48 = .ok (.iconst 0, 1) := by decide +kernel
theorem dX1_become_49 : decode cX1_become 49 = .ok (.istore_n 2, 1) := by decide +kernel
theorem dX1_become_50 : decode cX1_become 50 = .ok (.iload_n 2, 1) := by decide +kernel
theorem dX1_become_51 : decode cX1_become 51 = .ok (.iconst 4, 1) := by decide +kernel
theorem dX1_become_52 : decode cX1_become 52 = .ok (.if_icmp .ge 45, 3) := by decide +kernel
theorem dX1_become_55 : decode cX1_become 55 = .ok (.aload_n 0, 1) := by decide +kernel
theorem dX1_become_56 : decode cX1_become 56 = .ok (.getfield 27, 3) := by decide +kernel
theorem dX1_become_59 : decode cX1_become 59 = .ok (.iload_n 2, 1) := by decide +kernel
theorem dX1_become_60 : decode cX1_become 60 = .ok (.aload_n 1, 1) := by decide +kernel
theorem dX1_become_61 : decode cX1_become 61 = .ok (.getfield 27, 3) := by decide +kernel
theorem dX1_become_64 : decode cX1_become 64 = .ok (.iload_n 2, 1) := by decide +kernel
theorem dX1_become_65 : decode cX1_become 65 = .ok (.iaload, 1) := by decide +kernel
theorem dX1_become_66 : decode cX1_become 66 = .ok (.iastore, 1) := by decide +kernel
theorem dX1_become_67 : decode cX1_become 67 = .ok (.aload_n 0, 1) := by decide +kernel
theorem dX1_become_68 : decode cX1_become 68 = .ok (.getfield 31, 3) := by decide +kernel
theorem dX1_become_71 : decode cX1_become 71 = .ok (.iload_n 2, 1) := by decide +kernel
theorem dX1_become_72 : decode cX1_become 72 = .ok (.aload_n 1, 1) := by decide +kernel
theorem dX1_become_73 : decode cX1_become 73 = .ok (.getfield 31, 3) := by decide +kernel
theorem dX1_become_76 : decode cX1_become 76 = .ok (.iload_n 2, 1) := by decide +kernel
theorem dX1_become_77 : decode cX1_become 77 = .ok (.iaload, 1) := by decide +kernel
theorem dX1_become_78 : decode cX1_become 78 = .ok (.iastore, 1) := by decide +kernel
theorem dX1_become_79 : decode cX1_become 79 = .ok (.aload_n 0, 1) := by decide +kernel
theorem dX1_become_80 : decode cX1_become 80 = .ok (.getfield 34, 3) := by decide +kernel
theorem dX1_become_83 : decode cX1_become 83 = .ok (.iload_n 2, 1) := by decide +kernel
theorem dX1_become_84 : decode cX1_become 84 = .ok (.aload_n 1, 1) := by decide +kernel
theorem dX1_become_85 : decode cX1_become 85 = .ok (.getfield 34, 3) := by decide +kernel
theorem dX1_become_88 : decode cX1_become 88 = .ok (.iload_n 2, 1) := by decide +kernel
theorem dX1_become_89 : decode cX1_become 89 = .ok (.iaload, 1) := by decide +kernel
theorem dX1_become_90 : decode cX1_become 90 = .ok (.iastore, 1) := by decide +kernel
theorem dX1_become_91 : decode cX1_become 91 = .ok (.iinc 2 1, 3) := by decide +kernel
theorem dX1_become_94 : decode cX1_become 94 = .ok (.goto (-44), 3) := by decide +kernel
theorem dX1_become_97 : decode cX1_become 97 = .ok (.iconst 0, 1) := by decide +kernel
theorem dX1_become_98 : decode cX1_become 98 = .ok (.istore_n 2, 1) := by decide +kernel
theorem dX1_become_99 : decode cX1_become 99 = .ok (.iload_n 2, 1) := by decide +kernel
theorem dX1_become_100 : decode cX1_become 100 = .ok (.iconst 4, 1) := by decide +kernel
theorem dX1_become_101 : decode cX1_become 101 = .ok (.if_icmp .ge 45, 3) := by decide +kernel
theorem dX1_become_104 : decode cX1_become 104 = .ok (.aload_n 0, 1) := by decide +kernel
theorem dX1_become_105 : decode cX1_become 105 = .ok (.getfield 40, 3) := by decide +kernel
theorem dX1_become_108 : decode cX1_become 108 = .ok (.iload_n 2, 1) := by decide +kernel
theorem dX1_become_109 : decode cX1_become 109 = .ok (.aload_n 1, 1) := by decide +kernel
theorem dX1_become_110 : decode cX1_become 110 = .ok (.getfield 40, 3) := by decide +kernel
theorem dX1_become_113 : decode cX1_become 113 = .ok (.iload_n 2, 1) := by decide +kernel
theorem dX1_become_114 : decode cX1_become 114 = .ok (.iaload, 1) := by decide +kernel
theorem dX1_become_115 : decode cX1_become 115 = .ok (.iastore, 1) := by decide +kernel
theorem dX1_become_116 : decode cX1_become 116 = .ok (.aload_n 0, 1) := by decide +kernel
theorem dX1_become_117 : decode cX1_become 117 = .ok (.getfield 43, 3) := by decide +kernel
theorem dX1_become_120 : decode cX1_become 120 = .ok (.iload_n 2, 1) := by decide +kernel
theorem dX1_become_121 : decode cX1_become 121 = .ok (.aload_n 1, 1) := by decide +kernel
theorem dX1_become_122 : decode cX1_become 122 = .ok (.getfield 43, 3) := by decide +kernel
theorem dX1_become_125 : decode cX1_become 125 = .ok (.iload_n 2, 1) := by decide +kernel
theorem dX1_become_126 : decode cX1_become 126 = .ok (.iaload, 1) := by decide +kernel
theorem dX1_become_127 : decode cX1_become 127 = .ok (.iastore, 1) := by decide +kernel
theorem dX1_become_128 : decode cX1_become 128 = .ok (.aload_n 0, 1) := by decide +kernel
theorem dX1_become_129 : decode cX1_become 129 = .ok (.getfield 46, 3) := by decide +kernel
theorem dX1_become_132 : decode cX1_become 132 = .ok (.iload_n 2, 1) := by decide +kernel
theorem dX1_become_133 : decode cX1_become 133 = .ok (.aload_n 1, 1) := by decide +kernel
theorem dX1_become_134 : decode cX1_become 134 = .ok (.getfield 46, 3) := by decide +kernel
theorem dX1_become_137 : decode cX1_become 137 = .ok (.iload_n 2, 1) := by decide +kernel
theorem dX1_become_138 : decode cX1_become 138 = .ok (.iaload, 1) := by decide +kernel
theorem dX1_become_139 : decode cX1_become 139 = .ok (.iastore, 1) := by decide +kernel
theorem dX1_become_140 : decode cX1_become 140 = .ok (.iinc 2 1, 3) := by decide +kernel
theorem dX1_become_143 : decode cX1_become 143 = .ok (.goto (-44), 3) := by decide +kernel
theorem dX1_become_146 : decode cX1_become 146 = .ok (.return_, 1) := by decide +kernel
theorem dX1_isTrait_0 : decode cX1_isTrait 0 = .ok (.iload_n 0, 1) := by decide +kernel
theorem dX1_isTrait_1 : decode cX1_isTrait 1 = .ok (.ifCond .ne 7, 3) := by decide +kernel
theorem dX1_isTrait_4 : decode cX1_isTrait 4 = .ok (.iconst 4, 1) := by decide +kernel
theorem dX1_isTrait_5 : decode cX1_isTrait 5 = .ok (.goto 15, 3) := by decide +kernel
theorem dX1_isTrait_8 : decode cX1_isTrait 8 = .ok (.iload_n 0, 1) := by decide +kernel
theorem dX1_isTrait_9 : decode cX1_isTrait 9 = .ok (.iconst 1, 1) := by decide +kernel
theorem dX1_isTrait_10 : decode cX1_isTrait 10 = .ok (.if_icmp .ne 8, 3) := by decide +kernel
theorem dX1_isTrait_13 : decode cX1_isTrait 13 = .ok (.bipush 24, 2) := by decide +kernel
theorem dX1_isTrait_15 : decode cX1_isTrait 15 = .ok (.goto 5, 3) := by decide +kernel
theorem dX1_isTrait_18 : decode cX1_isTrait 18 = .ok (.bipush 10, 2) := by decide +kernel
theorem dX1_isTrait_20 : decode cX1_isTrait 20 = .ok (.istore_n 2, 1) := by decide +kernel
theorem dX1_isTrait_21 : decode cX1_isTrait 21 = .ok (.iload_n 1, 1) := by decide +kernel
theorem dX1_isTrait_22 : decode cX1_isTrait 22 = .ok (.ifCond .lt 12, 3) := by decide +kernel
theorem dX1_isTrait_25 : decode cX1_isTrait 25 = .ok (.iload_n 1, 1) := by decide +kernel
theorem dX1_isTrait_26 : decode cX1_isTrait 26 = .ok (.iload_n 2, 1) := by decide +kernel
theorem dX1_isTrait_27 : decode cX1_isTrait 27 = .ok (.if_icmp .ge 7, 3) := by decide +kernel
theorem dX1_isTrait_30 : decode cX1_isTrait 30 = .ok (.iconst 1, 1) := by decide +kernel
theorem dX1_isTrait_31 : decode cX1_isTrait 31 = .ok (.goto 4, 3) := by decide +kernel
theorem dX1_isTrait_34 : decode cX1_isTrait 34 = .ok (.iconst 0, 1) := by decide +kernel
theorem dX1_isTrait_35 : decode cX1_isTrait 35 = .ok (.ireturn, 1) := by decide +kernel
theorem dX1_trait_0 : decode cX1_trait 0 = .ok (.iload_n 1, 1) := by decide +kernel
theorem dX1_trait_1 : decode cX1_trait 1 = .ok (.ifCond .ne 10, 3) := by decide +kernel
theorem dX1_trait_4 : decode cX1_trait 4 = .ok (.aload_n 0, 1) := by decide +kernel
theorem dX1_trait_5 : decode cX1_trait 5 = .ok (.getfield 27, 3) := by decide +kernel
theorem dX1_trait_8 : decode cX1_trait 8 = .ok (.goto 19, 3) := by decide +kernel
theorem dX1_trait_11 : decode cX1_trait 11 = .ok (.iload_n 1, 1) := by decide +kernel
theorem dX1_trait_12 : decode cX1_trait 12 = .ok (.iconst 1, 1) := by decide +kernel
theorem dX1_trait_13 : decode cX1_trait 13 = .ok (.if_icmp .ne 10, 3) := by decide +kernel
theorem dX1_trait_16 : decode cX1_trait 16 = .ok (.aload_n 0, 1) := by decide +kernel
theorem dX1_trait_17 : decode cX1_trait 17 = .ok (.getfield 31, 3) := by decide +kernel
theorem dX1_trait_20 : decode cX1_trait 20 = .ok (.goto 7, 3) := by decide +kernel
theorem dX1_trait_23 : decode cX1_trait 23 = .ok (.aload_n 0, 1) := by decide +kernel
theorem dX1_trait_24 : decode cX1_trait 24 = .ok (.getfield 34, 3) := by decide +kernel
theorem dX1_trait_27 : decode cX1_trait 27 = .ok (.areturn, 1) := by decide +kernel
theorem dX1_lot_0 : decode cX1_lot 0 = .ok (.iload_n 1, 1) := by decide +kernel
theorem dX1_lot_1 : decode cX1_lot 1 = .ok (.ifCond .ne 10, 3) := by decide +kernel
theorem dX1_lot_4 : decode cX1_lot 4 = .ok (.aload_n 0, 1) := by decide +kernel
theorem dX1_lot_5 : decode cX1_lot 5 = .ok (.getfield 40, 3) := by decide +kernel
theorem dX1_lot_8 : decode cX1_lot 8 = .ok (.goto 19, 3) := by decide +kernel
theorem dX1_lot_11 : decode cX1_lot 11 = .ok (.iload_n 1, 1) := by decide +kernel
theorem dX1_lot_12 : decode cX1_lot 12 = .ok (.iconst 1, 1) := by decide +kernel
theorem dX1_lot_13 : decode cX1_lot 13 = .ok (.if_icmp .ne 10, 3) := by decide +kernel
theorem dX1_lot_16 : decode cX1_lot 16 = .ok (.aload_n 0, 1) := by decide +kernel
theorem dX1_lot_17 : decode cX1_lot 17 = .ok (.getfield 43, 3) := by decide +kernel
theorem dX1_lot_20 : decode cX1_lot 20 = .ok (.goto 7, 3) := by decide +kernel
theorem dX1_lot_23 : decode cX1_lot 23 = .ok (.aload_n 0, 1) := by decide +kernel
theorem dX1_lot_24 : decode cX1_lot 24 = .ok (.getfield 46, 3) := by decide +kernel
theorem dX1_lot_27 : decode cX1_lot 27 = .ok (.areturn, 1) := by decide +kernel
theorem dX1_addGardener_0 : decode cX1_addGardener 0 = .ok (.aload_n 0, 1) := by decide +kernel
theorem dX1_addGardener_1 : decode cX1_addGardener 1 = .ok (.getfield 24, 3) := by decide +kernel
theorem dX1_addGardener_4 : decode cX1_addGardener 4 = .ok (.iconst 4, 1) := by decide +kernel
theorem dX1_addGardener_5 : decode cX1_addGardener 5 = .ok (.if_icmp .lt 5, 3) := by decide +kernel
theorem dX1_addGardener_8 : decode cX1_addGardener 8 = .ok (.iconst 0, 1) := by decide +kernel
theorem dX1_addGardener_9 : decode cX1_addGardener 9 = .ok (.ireturn, 1) := by decide +kernel
theorem dX1_addGardener_10 : decode cX1_addGardener 10 = .ok (.aload_n 0, 1) := by decide +kernel
theorem dX1_addGardener_11 : decode cX1_addGardener 11 = .ok (.getfield 27, 3) := by decide +kernel
theorem dX1_addGardener_14 : decode cX1_addGardener 14 = .ok (.aload_n 0, 1) := by decide +kernel
theorem dX1_addGardener_15 : decode cX1_addGardener 15 = .ok (.getfield 24, 3) := by decide +kernel
theorem dX1_addGardener_18 : decode cX1_addGardener 18 = .ok (.iload_n 1, 1) := by decide +kernel
theorem dX1_addGardener_19 : decode cX1_addGardener 19 = .ok (.iastore, 1) := by decide +kernel
theorem dX1_addGardener_20 : decode cX1_addGardener 20 = .ok (.aload_n 0, 1) := by decide +kernel
theorem dX1_addGardener_21 : decode cX1_addGardener 21 = .ok (.getfield 31, 3) := by decide +kernel
theorem dX1_addGardener_24 : decode cX1_addGardener 24 = .ok (.aload_n 0, 1) := by decide +kernel
theorem dX1_addGardener_25 : decode cX1_addGardener 25 = .ok (.getfield 24, 3) := by decide +kernel
theorem dX1_addGardener_28 : decode cX1_addGardener 28 = .ok (.iload_n 2, 1) := by decide +kernel
theorem dX1_addGardener_29 : decode cX1_addGardener 29 = .ok (.iastore, 1) := by decide +kernel
theorem dX1_addGardener_30 : decode cX1_addGardener 30 = .ok (.aload_n 0, 1) := by decide +kernel
theorem dX1_addGardener_31 : decode cX1_addGardener 31 = .ok (.getfield 34, 3) := by decide +kernel
theorem dX1_addGardener_34 : decode cX1_addGardener 34 = .ok (.aload_n 0, 1) := by decide +kernel
theorem dX1_addGardener_35 : decode cX1_addGardener 35 = .ok (.getfield 24, 3) := by decide +kernel
theorem dX1_addGardener_38 : decode cX1_addGardener 38 = .ok (.iload_n 3, 1) := by decide +kernel
theorem dX1_addGardener_39 : decode cX1_addGardener 39 = .ok (.iastore, 1) := by decide +kernel
theorem dX1_addGardener_40 : decode cX1_addGardener 40 = .ok (.aload_n 0, 1) := by decide +kernel
theorem dX1_addGardener_41 : decode cX1_addGardener 41 = .ok (.dup, 1) := by decide +kernel
theorem dX1_addGardener_42 : decode cX1_addGardener 42 = .ok (.getfield 24, 3) := by decide +kernel
theorem dX1_addGardener_45 : decode cX1_addGardener 45 = .ok (.iconst 1, 1) := by decide +kernel
theorem dX1_addGardener_46 : decode cX1_addGardener 46 = .ok (.iadd, 1) := by decide +kernel
theorem dX1_addGardener_47 : decode cX1_addGardener 47 = .ok (.putfield 24, 3) := by decide +kernel
theorem dX1_addGardener_50 : decode cX1_addGardener 50 = .ok (.iconst 1, 1) := by decide +kernel
theorem dX1_addGardener_51 : decode cX1_addGardener 51 = .ok (.ireturn, 1) := by decide +kernel
theorem dX1_addGuest_0 : decode cX1_addGuest 0 = .ok (.aload_n 0, 1) := by decide +kernel
theorem dX1_addGuest_1 : decode cX1_addGuest 1 = .ok (.getfield 37, 3) := by decide +kernel
theorem dX1_addGuest_4 : decode cX1_addGuest 4 = .ok (.iconst 4, 1) := by decide +kernel
theorem dX1_addGuest_5 : decode cX1_addGuest 5 = .ok (.if_icmp .lt 5, 3) := by decide +kernel
theorem dX1_addGuest_8 : decode cX1_addGuest 8 = .ok (.iconst 0, 1) := by decide +kernel
theorem dX1_addGuest_9 : decode cX1_addGuest 9 = .ok (.ireturn, 1) := by decide +kernel
theorem dX1_addGuest_10 : decode cX1_addGuest 10 = .ok (.aload_n 0, 1) := by decide +kernel
theorem dX1_addGuest_11 : decode cX1_addGuest 11 = .ok (.getfield 40, 3) := by decide +kernel
theorem dX1_addGuest_14 : decode cX1_addGuest 14 = .ok (.aload_n 0, 1) := by decide +kernel
theorem dX1_addGuest_15 : decode cX1_addGuest 15 = .ok (.getfield 37, 3) := by decide +kernel
theorem dX1_addGuest_18 : decode cX1_addGuest 18 = .ok (.iload_n 1, 1) := by decide +kernel
theorem dX1_addGuest_19 : decode cX1_addGuest 19 = .ok (.iastore, 1) := by decide +kernel
theorem dX1_addGuest_20 : decode cX1_addGuest 20 = .ok (.aload_n 0, 1) := by decide +kernel
theorem dX1_addGuest_21 : decode cX1_addGuest 21 = .ok (.getfield 43, 3) := by decide +kernel
theorem dX1_addGuest_24 : decode cX1_addGuest 24 = .ok (.aload_n 0, 1) := by decide +kernel
theorem dX1_addGuest_25 : decode cX1_addGuest 25 = .ok (.getfield 37, 3) := by decide +kernel
theorem dX1_addGuest_28 : decode cX1_addGuest 28 = .ok (.iload_n 2, 1) := by decide +kernel
theorem dX1_addGuest_29 : decode cX1_addGuest 29 = .ok (.iastore, 1) := by decide +kernel
theorem dX1_addGuest_30 : decode cX1_addGuest 30 = .ok (.aload_n 0, 1) := by decide +kernel
theorem dX1_addGuest_31 : decode cX1_addGuest 31 = .ok (.getfield 46, 3) := by decide +kernel
theorem dX1_addGuest_34 : decode cX1_addGuest 34 = .ok (.aload_n 0, 1) := by decide +kernel
theorem dX1_addGuest_35 : decode cX1_addGuest 35 = .ok (.getfield 37, 3) := by decide +kernel
theorem dX1_addGuest_38 : decode cX1_addGuest 38 = .ok (.iconst 0, 1) := by decide +kernel
theorem dX1_addGuest_39 : decode cX1_addGuest 39 = .ok (.iastore, 1) := by decide +kernel
theorem dX1_addGuest_40 : decode cX1_addGuest 40 = .ok (.aload_n 0, 1) := by decide +kernel
theorem dX1_addGuest_41 : decode cX1_addGuest 41 = .ok (.dup, 1) := by decide +kernel
theorem dX1_addGuest_42 : decode cX1_addGuest 42 = .ok (.getfield 37, 3) := by decide +kernel
theorem dX1_addGuest_45 : decode cX1_addGuest 45 = .ok (.iconst 1, 1) := by decide +kernel
theorem dX1_addGuest_46 : decode cX1_addGuest 46 = .ok (.iadd, 1) := by decide +kernel
theorem dX1_addGuest_47 : decode cX1_addGuest 47 = .ok (.putfield 37, 3) := by decide +kernel
theorem dX1_addGuest_50 : decode cX1_addGuest 50 = .ok (.iconst 1, 1) := by decide +kernel
theorem dX1_addGuest_51 : decode cX1_addGuest 51 = .ok (.ireturn, 1) := by decide +kernel
theorem dX1_standing_0 : decode cX1_standing 0 = .ok (.aload_n 0, 1) := by decide +kernel
theorem dX1_standing_1 : decode cX1_standing 1 = .ok (.getfield 9, 3) := by decide +kernel
theorem dX1_standing_4 : decode cX1_standing 4 = .ok (.iload_n 1, 1) := by decide +kernel
theorem dX1_standing_5 : decode cX1_standing 5 = .ok (.ishr, 1) := by decide +kernel
theorem dX1_standing_6 : decode cX1_standing 6 = .ok (.iconst 1, 1) := by decide +kernel
theorem dX1_standing_7 : decode cX1_standing 7 = .ok (.iand, 1) := by decide +kernel
theorem dX1_standing_8 : decode cX1_standing 8 = .ok (.ireturn, 1) := by decide +kernel
theorem dX1_whoIs_0 : decode cX1_whoIs 0 = .ok (.iconst 0, 1) := by decide +kernel
theorem dX1_whoIs_1 : decode cX1_whoIs 1 = .ok (.istore_n 2, 1) := by decide +kernel
theorem dX1_whoIs_2 : decode cX1_whoIs 2 = .ok (.iconst 0, 1) := by decide +kernel
theorem dX1_whoIs_3 : decode cX1_whoIs 3 = .ok (.istore_n 3, 1) := by decide +kernel
theorem dX1_whoIs_4 : decode cX1_whoIs 4 = .ok (.iload_n 3, 1) := by decide +kernel
theorem dX1_whoIs_5 : decode cX1_whoIs 5 = .ok (.aload_n 0, 1) := by decide +kernel
theorem dX1_whoIs_6 : decode cX1_whoIs 6 = .ok (.getfield 37, 3) := by decide +kernel
theorem dX1_whoIs_9 : decode cX1_whoIs 9 = .ok (.if_icmp .ge 25, 3) := by decide +kernel
theorem dX1_whoIs_12 : decode cX1_whoIs 12 = .ok (.aload_n 0, 1) := by decide +kernel
theorem dX1_whoIs_13 : decode cX1_whoIs 13 = .ok (.getfield 46, 3) := by decide +kernel
theorem dX1_whoIs_16 : decode cX1_whoIs 16 = .ok (.iload_n 3, 1) := by decide +kernel
theorem dX1_whoIs_17 : decode cX1_whoIs 17 = .ok (.iaload, 1) := by decide +kernel
theorem dX1_whoIs_18 : decode cX1_whoIs 18 = .ok (.iload_n 1, 1) := by decide +kernel
theorem dX1_whoIs_19 : decode cX1_whoIs 19 = .ok (.if_icmp .ne 9, 3) := by decide +kernel
theorem dX1_whoIs_22 : decode cX1_whoIs 22 = .ok (.iload_n 2, 1) := by decide +kernel
theorem dX1_whoIs_23 : decode cX1_whoIs 23 = .ok (.iconst 1, 1) := by decide +kernel
theorem dX1_whoIs_24 : decode cX1_whoIs 24 = .ok (.iload_n 3, 1) := by decide +kernel
theorem dX1_whoIs_25 : decode cX1_whoIs 25 = .ok (.ishl, 1) := by decide +kernel
theorem dX1_whoIs_26 : decode cX1_whoIs 26 = .ok (.ior, 1) := by decide +kernel
theorem dX1_whoIs_27 : decode cX1_whoIs 27 = .ok (.istore_n 2, 1) := by decide +kernel
theorem dX1_whoIs_28 : decode cX1_whoIs 28 = .ok (.iinc 3 1, 3) := by decide +kernel
theorem dX1_whoIs_31 : decode cX1_whoIs 31 = .ok (.goto (-27), 3) := by decide +kernel
theorem dX1_whoIs_34 : decode cX1_whoIs 34 = .ok (.iload_n 2, 1) := by decide +kernel
theorem dX1_whoIs_35 : decode cX1_whoIs 35 = .ok (.ireturn, 1) := by decide +kernel
set_option maxRecDepth 20000 in
theorem ggX1_outs_X1_whoIs : GoodIn wsX1_outs wsX1_whoIs := goodIn_r _ [5, 6, 7, 15, 16, 17, 18, 19, 20, 21, 22, 23, 24, 25, 26] (by decide +kernel) (by decide +kernel)
set_option maxRecDepth 20000 in
theorem gX1_outs_X1_whoIs : GoodIn wsX1_outs (wsV RX1 49 RX1 yX1_whoIs wsX1_whoIs) := goodIn_app (goodIn_of _ (by decide +kernel)) ggX1_outs_X1_whoIs
set_option maxRecDepth 20000 in
theorem ggX1_outs_J6_bitCount_0f7a4 : GoodIn wsX1_outs wsJ6_bitCount_0f7a4 := goodIn_r _ [11, 12, 13, 14] (by decide +kernel) (by decide +kernel)
set_option maxRecDepth 20000 in
theorem gX1_outs_J6_bitCount_0f7a4 : GoodIn wsX1_outs (va_wsS RX1 53 yJ6_bitCount_0f7a4 wsJ6_bitCount_0f7a4) := goodIn_app (goodIn_of _ (by decide +kernel)) ggX1_outs_J6_bitCount_0f7a4
theorem dX1_outs_0 : decode cX1_outs 0 = .ok (.aload_n 0, 1) := by decide +kernel
theorem dX1_outs_1 : decode cX1_outs 1 = .ok (.iconst 1, 1) := by decide +kernel
theorem dX1_outs_2 : decode cX1_outs 2 = .ok (.invokevirtual 49, 3) := by decide +kernel
theorem dX1_outs_5 : decode cX1_outs 5 = .ok (.invokestatic 53, 3) := by decide +kernel
theorem dX1_outs_8 : decode cX1_outs 8 = .ok (.ireturn, 1) := by decide +kernel
theorem dX1_goal_0 : decode cX1_goal 0 = .ok (.aload_n 0, 1) := by decide +kernel
theorem dX1_goal_1 : decode cX1_goal 1 = .ok (.getfield 27, 3) := by decide +kernel
theorem dX1_goal_4 : decode cX1_goal 4 = .ok (.iload_n 1, 1) := by decide +kernel
theorem dX1_goal_5 : decode cX1_goal 5 = .ok (.iaload, 1) := by decide +kernel
theorem dX1_goal_6 : decode cX1_goal 6 = .ok (.lookupswitch 59 #[(1, 26), (3, 49)], 26) := by decide +kernel
theorem dX1_goal_32 : decode cX1_goal 32 = .ok (.aload_n 0, 1) := by decide +kernel
theorem dX1_goal_33 : decode cX1_goal 33 = .ok (.getfield 18, 3) := by decide +kernel
theorem dX1_goal_36 : decode cX1_goal 36 = .ok (.bipush (-4), 2) := by decide +kernel
theorem dX1_goal_38 : decode cX1_goal 38 = .ok (.if_icmp .ne 12, 3) := by decide +kernel
theorem dX1_goal_41 : decode cX1_goal 41 = .ok (.aload_n 0, 1) := by decide +kernel
theorem dX1_goal_42 : decode cX1_goal 42 = .ok (.getfield 31, 3) := by decide +kernel
theorem dX1_goal_45 : decode cX1_goal 45 = .ok (.iload_n 1, 1) := by decide +kernel
theorem dX1_goal_46 : decode cX1_goal 46 = .ok (.iaload, 1) := by decide +kernel
theorem dX1_goal_47 : decode cX1_goal 47 = .ok (.goto 7, 3) := by decide +kernel
theorem dX1_goal_50 : decode cX1_goal 50 = .ok (.aload_n 0, 1) := by decide +kernel
theorem dX1_goal_51 : decode cX1_goal 51 = .ok (.getfield 18, 3) := by decide +kernel
theorem dX1_goal_54 : decode cX1_goal 54 = .ok (.ireturn, 1) := by decide +kernel
theorem dX1_goal_55 : decode cX1_goal 55 = .ok (.bipush 23, 2) := by decide +kernel
theorem dX1_goal_57 : decode cX1_goal 57 = .ok (.aload_n 0, 1) := by decide +kernel
theorem dX1_goal_58 : decode cX1_goal 58 = .ok (.getfield 31, 3) := by decide +kernel
theorem dX1_goal_61 : decode cX1_goal 61 = .ok (.iload_n 1, 1) := by decide +kernel
theorem dX1_goal_62 : decode cX1_goal 62 = .ok (.iaload, 1) := by decide +kernel
theorem dX1_goal_63 : decode cX1_goal 63 = .ok (.isub, 1) := by decide +kernel
theorem dX1_goal_64 : decode cX1_goal 64 = .ok (.ireturn, 1) := by decide +kernel
theorem dX1_goal_65 : decode cX1_goal 65 = .ok (.aload_n 0, 1) := by decide +kernel
theorem dX1_goal_66 : decode cX1_goal 66 = .ok (.getfield 31, 3) := by decide +kernel
theorem dX1_goal_69 : decode cX1_goal 69 = .ok (.iload_n 1, 1) := by decide +kernel
theorem dX1_goal_70 : decode cX1_goal 70 = .ok (.iaload, 1) := by decide +kernel
theorem dX1_goal_71 : decode cX1_goal 71 = .ok (.ireturn, 1) := by decide +kernel
set_option maxRecDepth 20000 in
theorem ggX1_made_X1_standing : GoodIn wsX1_made wsX1_standing := goodIn_r _ [6, 7, 8, 9, 10, 11, 12, 13, 14, 15, 16, 17, 18, 19] (by decide +kernel) (by decide +kernel)
set_option maxRecDepth 20000 in
theorem gX1_made_X1_standing : GoodIn wsX1_made (wsV RX1 58 RX1 yX1_standing wsX1_standing) := goodIn_app (goodIn_of _ (by decide +kernel)) ggX1_made_X1_standing
theorem dX1_made_0 : decode cX1_made 0 = .ok (.aload_n 0, 1) := by decide +kernel
theorem dX1_made_1 : decode cX1_made 1 = .ok (.getfield 27, 3) := by decide +kernel
theorem dX1_made_4 : decode cX1_made 4 = .ok (.iload_n 1, 1) := by decide +kernel
theorem dX1_made_5 : decode cX1_made 5 = .ok (.iaload, 1) := by decide +kernel
theorem dX1_made_6 : decode cX1_made 6 = .ok (.lookupswitch 30 #[(2, 26), (3, 28)], 26) := by decide +kernel
theorem dX1_made_32 : decode cX1_made 32 = .ok (.iconst 1, 1) := by decide +kernel
theorem dX1_made_33 : decode cX1_made 33 = .ok (.ireturn, 1) := by decide +kernel
theorem dX1_made_34 : decode cX1_made 34 = .ok (.iconst 0, 1) := by decide +kernel
theorem dX1_made_35 : decode cX1_made 35 = .ok (.ireturn, 1) := by decide +kernel
theorem dX1_made_36 : decode cX1_made 36 = .ok (.iconst 1, 1) := by decide +kernel
theorem dX1_made_37 : decode cX1_made 37 = .ok (.aload_n 0, 1) := by decide +kernel
theorem dX1_made_38 : decode cX1_made 38 = .ok (.iload_n 2, 1) := by decide +kernel
theorem dX1_made_39 : decode cX1_made 39 = .ok (.invokevirtual 58, 3) := by decide +kernel
theorem dX1_made_42 : decode cX1_made 42 = .ok (.isub, 1) := by decide +kernel
theorem dX1_made_43 : decode cX1_made 43 = .ok (.ireturn, 1) := by decide +kernel
theorem dX1_todays_0 : decode cX1_todays 0 = .ok (.aload_n 0, 1) := by decide +kernel
theorem dX1_todays_1 : decode cX1_todays 1 = .ok (.getfield 24, 3) := by decide +kernel
theorem dX1_todays_4 : decode cX1_todays 4 = .ok (.ifCond .le 15, 3) := by decide +kernel
theorem dX1_todays_7 : decode cX1_todays 7 = .ok (.aload_n 0, 1) := by decide +kernel
theorem dX1_todays_8 : decode cX1_todays 8 = .ok (.getfield 21, 3) := by decide +kernel
theorem dX1_todays_11 : decode cX1_todays 11 = .ok (.aload_n 0, 1) := by decide +kernel
theorem dX1_todays_12 : decode cX1_todays 12 = .ok (.getfield 24, 3) := by decide +kernel
theorem dX1_todays_15 : decode cX1_todays 15 = .ok (.irem, 1) := by decide +kernel
theorem dX1_todays_16 : decode cX1_todays 16 = .ok (.goto 5, 3) := by decide +kernel
theorem dX1_todays_19 : decode cX1_todays 19 = .ok (.bipush (-4), 2) := by decide +kernel
theorem dX1_todays_21 : decode cX1_todays 21 = .ok (.ireturn, 1) := by decide +kernel
set_option maxRecDepth 20000 in
theorem ggX1_mow_X1_todays : GoodIn wsX1_mow wsX1_todays := goodIn_r _ [9, 10, 11, 29, 30, 31, 32, 33, 34, 35, 36, 37, 38, 39, 40] (by decide +kernel) (by decide +kernel)
set_option maxRecDepth 20000 in
theorem gX1_mow_X1_todays : GoodIn wsX1_mow (wsV RX1 61 RX1 yX1_todays wsX1_todays) := goodIn_app (goodIn_of _ (by decide +kernel)) ggX1_mow_X1_todays
set_option maxRecDepth 20000 in
theorem ggX1_mow_X1_goal : GoodIn wsX1_mow wsX1_goal := goodIn_r _ [15, 16, 2, 3, 29, 30, 31, 32, 33, 34, 35, 36, 37, 38, 39, 40] (by decide +kernel) (by decide +kernel)
set_option maxRecDepth 20000 in
theorem gX1_mow_X1_goal : GoodIn wsX1_mow (wsV RX1 65 RX1 yX1_goal wsX1_goal) := goodIn_app (goodIn_of _ (by decide +kernel)) ggX1_mow_X1_goal
set_option maxRecDepth 20000 in
theorem ggX1_mow_X1_made : GoodIn wsX1_mow wsX1_made := goodIn_r _ [20, 16, 21, 22, 23, 8, 24, 1, 29, 30, 31, 32, 33, 34, 35, 36, 37, 38, 39, 40] (by decide +kernel) (by decide +kernel)
set_option maxRecDepth 20000 in
theorem gX1_mow_X1_made : GoodIn wsX1_mow (wsV RX1 68 RX1 yX1_made wsX1_made) := goodIn_app (goodIn_of _ (by decide +kernel)) ggX1_mow_X1_made
set_option maxRecDepth 20000 in
theorem ggX1_mow_X2_with : GoodIn wsX1_mow wsX2_with := goodIn_r _ [28] (by decide +kernel) (by decide +kernel)
set_option maxRecDepth 20000 in
theorem gX1_mow_X2_with : GoodIn wsX1_mow (va_wsS RX1 72 yX2_with wsX2_with) := goodIn_app (goodIn_of _ (by decide +kernel)) ggX1_mow_X2_with
theorem dX1_mow_0 : decode cX1_mow 0 = .ok (.aload_n 0, 1) := by decide +kernel
theorem dX1_mow_1 : decode cX1_mow 1 = .ok (.invokevirtual 61, 3) := by decide +kernel
theorem dX1_mow_4 : decode cX1_mow 4 = .ok (.istore_n 1, 1) := by decide +kernel
theorem dX1_mow_5 : decode cX1_mow 5 = .ok (.iload_n 1, 1) := by decide +kernel
theorem dX1_mow_6 : decode cX1_mow 6 = .ok (.ifCond .ge 4, 3) := by decide +kernel
theorem dX1_mow_9 : decode cX1_mow 9 = .ok (.return_, 1) := by decide +kernel
theorem dX1_mow_10 : decode cX1_mow 10 = .ok (.aload_n 0, 1) := by decide +kernel
theorem dX1_mow_11 : decode cX1_mow 11 = .ok (.iload_n 1, 1) := by decide +kernel
theorem dX1_mow_12 : decode cX1_mow 12 = .ok (.invokevirtual 65, 3) := by decide +kernel
theorem dX1_mow_15 : decode cX1_mow 15 = .ok (.istore_n 2, 1) := by decide +kernel
theorem dX1_mow_16 : decode cX1_mow 16 = .ok (.aload_n 0, 1) := by decide +kernel
theorem dX1_mow_17 : decode cX1_mow 17 = .ok (.aload_n 0, 1) := by decide +kernel
theorem dX1_mow_18 : decode cX1_mow 18 = .ok (.getfield 9, 3) := by decide +kernel
theorem dX1_mow_21 : decode cX1_mow 21 = .ok (.iload_n 2, 1) := by decide +kernel
theorem dX1_mow_22 : decode cX1_mow 22 = .ok (.aload_n 0, 1) := by decide +kernel
theorem dX1_mow_23 : decode cX1_mow 23 = .ok (.iload_n 1, 1) := by decide +kernel
theorem dX1_mow_24 : decode cX1_mow 24 = .ok (.iload_n 2, 1) := by decide +kernel
theorem dX1_mow_25 : decode cX1_mow 25 = .ok (.invokevirtual 68, 3) := by decide +kernel
theorem dX1_mow_28 : decode cX1_mow 28 = .ok (.invokestatic 72, 3) := by decide +kernel
theorem dX1_mow_31 : decode cX1_mow 31 = .ok (.putfield 9, 3) := by decide +kernel
theorem dX1_mow_34 : decode cX1_mow 34 = .ok (.aload_n 0, 1) := by decide +kernel
theorem dX1_mow_35 : decode cX1_mow 35 = .ok (.iload_n 2, 1) := by decide +kernel
theorem dX1_mow_36 : decode cX1_mow 36 = .ok (.putfield 18, 3) := by decide +kernel
theorem dX1_mow_39 : decode cX1_mow 39 = .ok (.aload_n 0, 1) := by decide +kernel
theorem dX1_mow_40 : decode cX1_mow 40 = .ok (.getfield 31, 3) := by decide +kernel
theorem dX1_mow_43 : decode cX1_mow 43 = .ok (.iload_n 1, 1) := by decide +kernel
theorem dX1_mow_44 : decode cX1_mow 44 = .ok (.aload_n 0, 1) := by decide +kernel
theorem dX1_mow_45 : decode cX1_mow 45 = .ok (.getfield 31, 3) := by decide +kernel
theorem dX1_mow_48 : decode cX1_mow 48 = .ok (.iload_n 1, 1) := by decide +kernel
theorem dX1_mow_49 : decode cX1_mow 49 = .ok (.iaload, 1) := by decide +kernel
theorem dX1_mow_50 : decode cX1_mow 50 = .ok (.aload_n 0, 1) := by decide +kernel
theorem dX1_mow_51 : decode cX1_mow 51 = .ok (.getfield 34, 3) := by decide +kernel
theorem dX1_mow_54 : decode cX1_mow 54 = .ok (.iload_n 1, 1) := by decide +kernel
theorem dX1_mow_55 : decode cX1_mow 55 = .ok (.iaload, 1) := by decide +kernel
theorem dX1_mow_56 : decode cX1_mow 56 = .ok (.iadd, 1) := by decide +kernel
theorem dX1_mow_57 : decode cX1_mow 57 = .ok (.bipush 24, 2) := by decide +kernel
theorem dX1_mow_59 : decode cX1_mow 59 = .ok (.irem, 1) := by decide +kernel
theorem dX1_mow_60 : decode cX1_mow 60 = .ok (.iastore, 1) := by decide +kernel
theorem dX1_mow_61 : decode cX1_mow 61 = .ok (.return_, 1) := by decide +kernel
set_option maxRecDepth 20000 in
theorem ggX1_walk_X2_toward : GoodIn wsX1_walk wsX2_toward := goodIn_r _ [10, 11, 12, 9, 13, 14, 15, 16, 17, 18] (by decide +kernel) (by decide +kernel)
set_option maxRecDepth 20000 in
theorem gX1_walk_X2_toward : GoodIn wsX1_walk (va_wsS RX1 78 yX2_toward wsX2_toward) := goodIn_app (goodIn_of _ (by decide +kernel)) ggX1_walk_X2_toward
theorem dX1_walk_0 : decode cX1_walk 0 = .ok (.iconst 0, 1) := by decide +kernel
theorem dX1_walk_1 : decode cX1_walk 1 = .ok (.istore_n 1, 1) := by decide +kernel
theorem dX1_walk_2 : decode cX1_walk 2 = .ok (.iload_n 1, 1) := by decide +kernel
theorem dX1_walk_3 : decode cX1_walk 3 = .ok (.aload_n 0, 1) := by decide +kernel
theorem dX1_walk_4 : decode cX1_walk 4 = .ok (.getfield 37, 3) := by decide +kernel
theorem dX1_walk_7 : decode cX1_walk 7 = .ok (.if_icmp .ge 93, 3) := by decide +kernel
theorem dX1_walk_10 : decode cX1_walk 10 = .ok (.aload_n 0, 1) := by decide +kernel
theorem dX1_walk_11 : decode cX1_walk 11 = .ok (.getfield 46, 3) := by decide +kernel
theorem dX1_walk_14 : decode cX1_walk 14 = .ok (.iload_n 1, 1) := by decide +kernel
theorem dX1_walk_15 : decode cX1_walk 15 = .ok (.iaload, 1) := by decide +kernel
theorem dX1_walk_16 : decode cX1_walk 16 = .ok (.ifCond .eq 6, 3) := by decide +kernel
theorem dX1_walk_19 : decode cX1_walk 19 = .ok (.goto 75, 3) := by decide +kernel
theorem dX1_walk_22 : decode cX1_walk 22 = .ok (.aload_n 0, 1) := by decide +kernel
theorem dX1_walk_23 : decode cX1_walk 23 = .ok (.getfield 43, 3) := by decide +kernel
theorem dX1_walk_26 : decode cX1_walk 26 = .ok (.iload_n 1, 1) := by decide +kernel
theorem dX1_walk_27 : decode cX1_walk 27 = .ok (.iaload, 1) := by decide +kernel
theorem dX1_walk_28 : decode cX1_walk 28 = .ok (.ifCond .ne 13, 3) := by decide +kernel
theorem dX1_walk_31 : decode cX1_walk 31 = .ok (.aload_n 0, 1) := by decide +kernel
theorem dX1_walk_32 : decode cX1_walk 32 = .ok (.getfield 46, 3) := by decide +kernel
theorem dX1_walk_35 : decode cX1_walk 35 = .ok (.iload_n 1, 1) := by decide +kernel
theorem dX1_walk_36 : decode cX1_walk 36 = .ok (.iconst 2, 1) := by decide +kernel
theorem dX1_walk_37 : decode cX1_walk 37 = .ok (.iastore, 1) := by decide +kernel
theorem dX1_walk_38 : decode cX1_walk 38 = .ok (.goto 56, 3) := by decide +kernel
theorem dX1_walk_41 : decode cX1_walk 41 = .ok (.aload_n 0, 1) := by decide +kernel
theorem dX1_walk_42 : decode cX1_walk 42 = .ok (.getfield 40, 3) := by decide +kernel
theorem dX1_walk_45 : decode cX1_walk 45 = .ok (.iload_n 1, 1) := by decide +kernel
theorem dX1_walk_46 : decode cX1_walk 46 = .ok (.aload_n 0, 1) := by decide +kernel
theorem dX1_walk_47 : decode cX1_walk 47 = .ok (.getfield 9, 3) := by decide +kernel
theorem dX1_walk_50 : decode cX1_walk 50 = .ok (.aload_n 0, 1) := by decide +kernel
theorem dX1_walk_51 : decode cX1_walk 51 = .ok (.getfield 40, 3) := by decide +kernel
theorem dX1_walk_54 : decode cX1_walk 54 = .ok (.iload_n 1, 1) := by decide +kernel
theorem dX1_walk_55 : decode cX1_walk 55 = .ok (.iaload, 1) := by decide +kernel
theorem dX1_walk_56 : decode cX1_walk 56 = .ok (.aload_n 0, 1) := by decide +kernel
theorem dX1_walk_57 : decode cX1_walk 57 = .ok (.getfield 15, 3) := by decide +kernel
theorem dX1_walk_60 : decode cX1_walk 60 = .ok (.invokestatic 78, 3) := by decide +kernel
theorem dX1_walk_63 : decode cX1_walk 63 = .ok (.iastore, 1) := by decide +kernel
theorem dX1_walk_64 : decode cX1_walk 64 = .ok (.aload_n 0, 1) := by decide +kernel
theorem dX1_walk_65 : decode cX1_walk 65 = .ok (.getfield 43, 3) := by decide +kernel
theorem dX1_walk_68 : decode cX1_walk 68 = .ok (.iload_n 1, 1) := by decide +kernel
theorem dX1_walk_69 : decode cX1_walk 69 = .ok (.dup2, 1) := by decide +kernel
theorem dX1_walk_70 : decode cX1_walk 70 = .ok (.iaload, 1) := by decide +kernel
theorem dX1_walk_71 : decode cX1_walk 71 = .ok (.iconst 1, 1) := by decide +kernel
theorem dX1_walk_72 : decode cX1_walk 72 = .ok (.isub, 1) := by decide +kernel
theorem dX1_walk_73 : decode cX1_walk 73 = .ok (.iastore, 1) := by decide +kernel
theorem dX1_walk_74 : decode cX1_walk 74 = .ok (.aload_n 0, 1) := by decide +kernel
theorem dX1_walk_75 : decode cX1_walk 75 = .ok (.getfield 40, 3) := by decide +kernel
theorem dX1_walk_78 : decode cX1_walk 78 = .ok (.iload_n 1, 1) := by decide +kernel
theorem dX1_walk_79 : decode cX1_walk 79 = .ok (.iaload, 1) := by decide +kernel
theorem dX1_walk_80 : decode cX1_walk 80 = .ok (.aload_n 0, 1) := by decide +kernel
theorem dX1_walk_81 : decode cX1_walk 81 = .ok (.getfield 15, 3) := by decide +kernel
theorem dX1_walk_84 : decode cX1_walk 84 = .ok (.if_icmp .ne 10, 3) := by decide +kernel
theorem dX1_walk_87 : decode cX1_walk 87 = .ok (.aload_n 0, 1) := by decide +kernel
theorem dX1_walk_88 : decode cX1_walk 88 = .ok (.getfield 46, 3) := by decide +kernel
theorem dX1_walk_91 : decode cX1_walk 91 = .ok (.iload_n 1, 1) := by decide +kernel
theorem dX1_walk_92 : decode cX1_walk 92 = .ok (.iconst 1, 1) := by decide +kernel
theorem dX1_walk_93 : decode cX1_walk 93 = .ok (.iastore, 1) := by decide +kernel
theorem dX1_walk_94 : decode cX1_walk 94 = .ok (.iinc 1 1, 3) := by decide +kernel
theorem dX1_walk_97 : decode cX1_walk 97 = .ok (.goto (-95), 3) := by decide +kernel
theorem dX1_walk_100 : decode cX1_walk 100 = .ok (.return_, 1) := by decide +kernel
set_option maxRecDepth 20000 in
theorem ggX1_passDays_X1_mow : GoodIn wsX1_passDays wsX1_mow := goodIn_r _ [6, 7, 8, 9, 10, 11, 12, 13, 5, 14, 15, 1, 16, 17, 18, 19, 20, 21, 22, 23, 24, 25, 26, 27, 28, 29, 30, 31, 32, 53, 54, 55, 56, 57, 58, 59, 60, 61, 62, 63, 64] (by decide +kernel) (by decide +kernel)
set_option maxRecDepth 20000 in
theorem gX1_passDays_X1_mow : GoodIn wsX1_passDays (wsV RX1 81 RX1 yX1_mow wsX1_mow) := goodIn_app (goodIn_of _ (by decide +kernel)) ggX1_passDays_X1_mow
set_option maxRecDepth 20000 in
theorem ggX1_passDays_X1_walk : GoodIn wsX1_passDays wsX1_walk := goodIn_r _ [36, 37, 38, 39, 40, 7, 41, 42, 43, 31, 44, 45, 46, 47, 48, 49, 50, 51, 52, 53, 54, 55, 56, 57, 58, 59, 60, 61, 62, 63, 64] (by decide +kernel) (by decide +kernel)
set_option maxRecDepth 20000 in
theorem gX1_passDays_X1_walk : GoodIn wsX1_passDays (wsV RX1 84 RX1 yX1_walk wsX1_walk) := goodIn_app (goodIn_of _ (by decide +kernel)) ggX1_passDays_X1_walk
theorem dX1_passDays_0 : decode cX1_passDays 0 = .ok (.iconst 0, 1) := by decide +kernel
theorem dX1_passDays_1 : decode cX1_passDays 1 = .ok (.istore_n 2, 1) := by decide +kernel
theorem dX1_passDays_2 : decode cX1_passDays 2 = .ok (.iload_n 2, 1) := by decide +kernel
theorem dX1_passDays_3 : decode cX1_passDays 3 = .ok (.iload_n 1, 1) := by decide +kernel
theorem dX1_passDays_4 : decode cX1_passDays 4 = .ok (.if_icmp .ge 27, 3) := by decide +kernel
theorem dX1_passDays_7 : decode cX1_passDays 7 = .ok (.aload_n 0, 1) := by decide +kernel
theorem dX1_passDays_8 : decode cX1_passDays 8 = .ok (.invokevirtual 81, 3) := by decide +kernel
theorem dX1_passDays_11 : decode cX1_passDays 11 = .ok (.aload_n 0, 1) := by decide +kernel
theorem dX1_passDays_12 : decode cX1_passDays 12 = .ok (.invokevirtual 84, 3) := by decide +kernel
theorem dX1_passDays_15 : decode cX1_passDays 15 = .ok (.aload_n 0, 1) := by decide +kernel
theorem dX1_passDays_16 : decode cX1_passDays 16 = .ok (.dup, 1) := by decide +kernel
theorem dX1_passDays_17 : decode cX1_passDays 17 = .ok (.getfield 21, 3) := by decide +kernel
theorem dX1_passDays_20 : decode cX1_passDays 20 = .ok (.iconst 1, 1) := by decide +kernel
theorem dX1_passDays_21 : decode cX1_passDays 21 = .ok (.iadd, 1) := by decide +kernel
theorem dX1_passDays_22 : decode cX1_passDays 22 = .ok (.putfield 21, 3) := by decide +kernel
theorem dX1_passDays_25 : decode cX1_passDays 25 = .ok (.iinc 2 1, 3) := by decide +kernel
theorem dX1_passDays_28 : decode cX1_passDays 28 = .ok (.goto (-26), 3) := by decide +kernel
theorem dX1_passDays_31 : decode cX1_passDays 31 = .ok (.return_, 1) := by decide +kernel
set_option maxRecDepth 20000 in
theorem ggX1_passDayOfGuests_X1_walk : GoodIn wsX1_passDayOfGuests wsX1_walk := goodIn_r _ [6, 7, 8, 9, 10, 11, 12, 13, 14, 15, 16, 17, 18, 19, 20, 21, 22, 23, 24, 25, 26, 27, 28, 29, 30, 31, 32, 33, 34, 35, 36] (by decide +kernel) (by decide +kernel)
set_option maxRecDepth 20000 in
theorem gX1_passDayOfGuests_X1_walk : GoodIn wsX1_passDayOfGuests (wsV RX1 84 RX1 yX1_walk wsX1_walk) := goodIn_app (goodIn_of _ (by decide +kernel)) ggX1_passDayOfGuests_X1_walk
theorem dX1_passDayOfGuests_0 : decode cX1_passDayOfGuests 0 = .ok (.aload_n 0, 1) := by decide +kernel
theorem dX1_passDayOfGuests_1 : decode cX1_passDayOfGuests 1 = .ok (.invokevirtual 84, 3) := by decide +kernel
theorem dX1_passDayOfGuests_4 : decode cX1_passDayOfGuests 4 = .ok (.aload_n 0, 1) := by decide +kernel
theorem dX1_passDayOfGuests_5 : decode cX1_passDayOfGuests 5 = .ok (.dup, 1) := by decide +kernel
theorem dX1_passDayOfGuests_6 : decode cX1_passDayOfGuests 6 = .ok (.getfield 21, 3) := by decide +kernel
theorem dX1_passDayOfGuests_9 : decode cX1_passDayOfGuests 9 = .ok (.iconst 1, 1) := by decide +kernel
theorem dX1_passDayOfGuests_10 : decode cX1_passDayOfGuests 10 = .ok (.iadd, 1) := by decide +kernel
theorem dX1_passDayOfGuests_11 : decode cX1_passDayOfGuests 11 = .ok (.putfield 21, 3) := by decide +kernel
theorem dX1_passDayOfGuests_14 : decode cX1_passDayOfGuests 14 = .ok (.return_, 1) := by decide +kernel
set_option maxRecDepth 20000 in
theorem ggX1_passDayOfGardeners_X1_mow : GoodIn wsX1_passDayOfGardeners wsX1_mow := goodIn_r _ [6, 7, 8, 9, 10, 11, 12, 13, 5, 14, 15, 1, 16, 17, 18, 19, 20, 21, 22, 23, 24, 25, 26, 27, 28, 29, 30, 31, 32, 33, 34, 35, 36, 37, 38, 39, 40, 41, 42, 43, 44] (by decide +kernel) (by decide +kernel)
set_option maxRecDepth 20000 in
theorem gX1_passDayOfGardeners_X1_mow : GoodIn wsX1_passDayOfGardeners (wsV RX1 81 RX1 yX1_mow wsX1_mow) := goodIn_app (goodIn_of _ (by decide +kernel)) ggX1_passDayOfGardeners_X1_mow
theorem dX1_passDayOfGardeners_0 : decode cX1_passDayOfGardeners 0 = .ok (.aload_n 0, 1) := by decide +kernel
theorem dX1_passDayOfGardeners_1 : decode cX1_passDayOfGardeners 1 = .ok (.invokevirtual 81, 3) := by decide +kernel
theorem dX1_passDayOfGardeners_4 : decode cX1_passDayOfGardeners 4 = .ok (.aload_n 0, 1) := by decide +kernel
theorem dX1_passDayOfGardeners_5 : decode cX1_passDayOfGardeners 5 = .ok (.dup, 1) := by decide +kernel
theorem dX1_passDayOfGardeners_6 : decode cX1_passDayOfGardeners 6 = .ok (.getfield 21, 3) := by decide +kernel
theorem dX1_passDayOfGardeners_9 : decode cX1_passDayOfGardeners 9 = .ok (.iconst 1, 1) := by decide +kernel
theorem dX1_passDayOfGardeners_10 : decode cX1_passDayOfGardeners 10 = .ok (.iadd, 1) := by decide +kernel
theorem dX1_passDayOfGardeners_11 : decode cX1_passDayOfGardeners 11 = .ok (.putfield 21, 3) := by decide +kernel
theorem dX1_passDayOfGardeners_14 : decode cX1_passDayOfGardeners 14 = .ok (.return_, 1) := by decide +kernel
set_option maxRecDepth 20000 in
theorem ggX1_outsBehind_X1_outsWithout : GoodIn wsX1_outsBehind wsX1_outsWithout := goodIn_r _ [5, 6, 7, 8, 9, 4, 10, 11, 12, 13, 14, 15, 16, 17, 18, 19, 20, 21, 22, 23, 24, 25, 26, 27, 28, 29, 30, 31, 32, 33, 34, 35, 36, 37, 38, 39, 40, 41, 42, 43, 44, 45, 46, 47, 48, 49, 50, 51, 52, 53, 54, 55, 56, 57, 58, 59, 60, 61, 62, 63, 64, 65, 66, 67, 68, 69, 70, 71, 72, 73, 74, 75, 76, 77, 78, 79, 80, 81, 82, 83, 84, 85, 86] (by decide +kernel) (by decide +kernel)
set_option maxRecDepth 20000 in
theorem gX1_outsBehind_X1_outsWithout : GoodIn wsX1_outsBehind (wsV RX1 87 RX1 yX1_outsWithout wsX1_outsWithout) := goodIn_app (goodIn_of _ (by decide +kernel)) ggX1_outsBehind_X1_outsWithout
theorem dX1_outsBehind_0 : decode cX1_outsBehind 0 = .ok (.aload_n 0, 1) := by decide +kernel
theorem dX1_outsBehind_1 : decode cX1_outsBehind 1 = .ok (.bipush (-4), 2) := by decide +kernel
theorem dX1_outsBehind_3 : decode cX1_outsBehind 3 = .ok (.iload_n 1, 1) := by decide +kernel
theorem dX1_outsBehind_4 : decode cX1_outsBehind 4 = .ok (.invokevirtual 87, 3) := by decide +kernel
theorem dX1_outsBehind_7 : decode cX1_outsBehind 7 = .ok (.ireturn, 1) := by decide +kernel
set_option maxRecDepth 20000 in
theorem ggX1_outsWithout_X1_whoIs : GoodIn wsX1_outsWithout wsX1_whoIs := goodIn_r _ [6, 7, 8, 71, 72, 73, 74, 75, 76, 77, 78, 79, 80, 81, 82] (by decide +kernel) (by decide +kernel)
set_option maxRecDepth 20000 in
theorem gX1_outsWithout_X1_whoIs : GoodIn wsX1_outsWithout (wsV RX1 49 RX1 yX1_whoIs wsX1_whoIs) := goodIn_app (goodIn_of _ (by decide +kernel)) ggX1_outsWithout_X1_whoIs
set_option maxRecDepth 20000 in
theorem ggX1_outsWithout_X1_todays : GoodIn wsX1_outsWithout wsX1_todays := goodIn_r _ [12, 1, 13, 71, 72, 73, 74, 75, 76, 77, 78, 79, 80, 81, 82] (by decide +kernel) (by decide +kernel)
set_option maxRecDepth 20000 in
theorem gX1_outsWithout_X1_todays : GoodIn wsX1_outsWithout (wsV RX1 61 RX1 yX1_todays wsX1_todays) := goodIn_app (goodIn_of _ (by decide +kernel)) ggX1_outsWithout_X1_todays
set_option maxRecDepth 20000 in
theorem ggX1_outsWithout_X1_mow : GoodIn wsX1_outsWithout wsX1_mow := goodIn_r _ [17, 18, 19, 20, 21, 9, 10, 11, 5, 12, 1, 13, 22, 23, 24, 25, 26, 27, 28, 29, 30, 31, 32, 33, 34, 35, 36, 37, 38, 71, 72, 73, 74, 75, 76, 77, 78, 79, 80, 81, 82] (by decide +kernel) (by decide +kernel)
set_option maxRecDepth 20000 in
theorem gX1_outsWithout_X1_mow : GoodIn wsX1_outsWithout (wsV RX1 81 RX1 yX1_mow wsX1_mow) := goodIn_app (goodIn_of _ (by decide +kernel)) ggX1_outsWithout_X1_mow
set_option maxRecDepth 20000 in
theorem ggX1_outsWithout_X1_passDayOfGuests : GoodIn wsX1_outsWithout wsX1_passDayOfGuests := goodIn_r _ [42, 13, 43, 44, 45, 5, 46, 7, 8, 47, 48, 18, 49, 50, 51, 37, 52, 53, 54, 55, 56, 57, 58, 59, 60, 71, 72, 73, 74, 75, 76, 77, 78, 79, 80, 81, 82] (by decide +kernel) (by decide +kernel)
set_option maxRecDepth 20000 in
theorem gX1_outsWithout_X1_passDayOfGuests : GoodIn wsX1_outsWithout (wsV RX1 90 RX1 yX1_passDayOfGuests wsX1_passDayOfGuests) := goodIn_app (goodIn_of _ (by decide +kernel)) ggX1_outsWithout_X1_passDayOfGuests
set_option maxRecDepth 20000 in
theorem ggX1_outsWithout_X1_outs : GoodIn wsX1_outsWithout wsX1_outs := goodIn_r _ [64, 2, 3, 4, 5, 6, 7, 8, 65, 66, 58, 67, 68, 69, 70, 71, 72, 73, 74, 75, 76, 77, 78, 79, 80, 81, 82] (by decide +kernel) (by decide +kernel)
set_option maxRecDepth 20000 in
theorem gX1_outsWithout_X1_outs : GoodIn wsX1_outsWithout (wsV RX1 93 RX1 yX1_outs wsX1_outs) := goodIn_app (goodIn_of _ (by decide +kernel)) ggX1_outsWithout_X1_outs
theorem dX1_outsWithout_0 : decode cX1_outsWithout 0 = .ok (.iconst 0, 1) := by decide +kernel
theorem dX1_outsWithout_1 : decode cX1_outsWithout 1 = .ok (.istore_n 3, 1) := by decide +kernel
theorem dX1_outsWithout_2 : decode cX1_outsWithout 2 = .ok (.iload_n 3, 1) := by decide +kernel
theorem dX1_outsWithout_3 : decode cX1_outsWithout 3 = .ok (.iload_n 2, 1) := by decide +kernel
theorem dX1_outsWithout_4 : decode cX1_outsWithout 4 = .ok (.if_icmp .ge 40, 3) := by decide +kernel
theorem dX1_outsWithout_7 : decode cX1_outsWithout 7 = .ok (.aload_n 0, 1) := by decide +kernel
theorem dX1_outsWithout_8 : decode cX1_outsWithout 8 = .ok (.iconst 0, 1) := by decide +kernel
theorem dX1_outsWithout_9 : decode cX1_outsWithout 9 = .ok (.invokevirtual 49, 3) := by decide +kernel
theorem dX1_outsWithout_12 : decode cX1_outsWithout 12 = .ok (.ifCond .eq 32, 3) := by decide +kernel
theorem dX1_outsWithout_15 : decode cX1_outsWithout 15 = .ok (.aload_n 0, 1) := by decide +kernel
theorem dX1_outsWithout_16 : decode cX1_outsWithout 16 = .ok (.getfield 24, 3) := by decide +kernel
theorem dX1_outsWithout_19 : decode cX1_outsWithout 19 = .ok (.ifCond .le 15, 3) := by decide +kernel
theorem dX1_outsWithout_22 : decode cX1_outsWithout 22 = .ok (.aload_n 0, 1) := by decide +kernel
theorem dX1_outsWithout_23 : decode cX1_outsWithout 23 = .ok (.invokevirtual 61, 3) := by decide +kernel
theorem dX1_outsWithout_26 : decode cX1_outsWithout 26 = .ok (.iload_n 1, 1) := by decide +kernel
theorem dX1_outsWithout_27 : decode cX1_outsWithout 27 = .ok (.if_icmp .eq 7, 3) := by decide +kernel
theorem dX1_outsWithout_30 : decode cX1_outsWithout 30 = .ok (.aload_n 0, 1) := by decide +kernel
theorem dX1_outsWithout_31 : decode cX1_outsWithout 31 = .ok (.invokevirtual 81, 3) := by decide +kernel
theorem dX1_outsWithout_34 : decode cX1_outsWithout 34 = .ok (.aload_n 0, 1) := by decide +kernel
theorem dX1_outsWithout_35 : decode cX1_outsWithout 35 = .ok (.invokevirtual 90, 3) := by decide +kernel
theorem dX1_outsWithout_38 : decode cX1_outsWithout 38 = .ok (.iinc 3 1, 3) := by decide +kernel
theorem dX1_outsWithout_41 : decode cX1_outsWithout 41 = .ok (.goto (-39), 3) := by decide +kernel
theorem dX1_outsWithout_44 : decode cX1_outsWithout 44 = .ok (.aload_n 0, 1) := by decide +kernel
theorem dX1_outsWithout_45 : decode cX1_outsWithout 45 = .ok (.invokevirtual 93, 3) := by decide +kernel
theorem dX1_outsWithout_48 : decode cX1_outsWithout 48 = .ok (.ireturn, 1) := by decide +kernel
set_option maxRecDepth 20000 in
theorem ggX1_exchange_X1_trait : GoodIn wsX1_exchange wsX1_trait := goodIn_r _ [5, 6, 7, 8, 9, 10, 11, 12, 13, 14, 15, 16, 17, 18, 19, 20] (by decide +kernel) (by decide +kernel)
set_option maxRecDepth 20000 in
theorem gX1_exchange_X1_trait : GoodIn wsX1_exchange (wsV RX1 96 RX1 yX1_trait wsX1_trait) := goodIn_app (goodIn_of _ (by decide +kernel)) ggX1_exchange_X1_trait
theorem dX1_exchange_0 : decode cX1_exchange 0 = .ok (.iconst 0, 1) := by decide +kernel
theorem dX1_exchange_1 : decode cX1_exchange 1 = .ok (.istore_n 3, 1) := by decide +kernel
theorem dX1_exchange_2 : decode cX1_exchange 2 = .ok (.iload_n 3, 1) := by decide +kernel
theorem dX1_exchange_3 : decode cX1_exchange 3 = .ok (.iconst 3, 1) := by decide +kernel
theorem dX1_exchange_4 : decode cX1_exchange 4 = .ok (.if_icmp .ge 36, 3) := by decide +kernel
theorem dX1_exchange_7 : decode cX1_exchange 7 = .ok (.aload_n 0, 1) := by decide +kernel
theorem dX1_exchange_8 : decode cX1_exchange 8 = .ok (.iload_n 3, 1) := by decide +kernel
theorem dX1_exchange_9 : decode cX1_exchange 9 = .ok (.invokevirtual 96, 3) := by decide +kernel
theorem dX1_exchange_12 : decode cX1_exchange 12 = .ok (.astore 4, 2) := by decide +kernel
theorem dX1_exchange_14 : decode cX1_exchange 14 = .ok (.aload 4, 2) := by decide +kernel
theorem dX1_exchange_16 : decode cX1_exchange 16 = .ok (.iload_n 1, 1) := by decide +kernel
theorem dX1_exchange_17 : decode cX1_exchange 17 = .ok (.iaload, 1) := by decide +kernel
theorem dX1_exchange_18 : decode cX1_exchange 18 = .ok (.istore 5, 2) := by decide +kernel
theorem dX1_exchange_20 : decode cX1_exchange 20 = .ok (.aload 4, 2) := by decide +kernel
theorem dX1_exchange_22 : decode cX1_exchange 22 = .ok (.iload_n 1, 1) := by decide +kernel
theorem dX1_exchange_23 : decode cX1_exchange 23 = .ok (.aload 4, 2) := by decide +kernel
theorem dX1_exchange_25 : decode cX1_exchange 25 = .ok (.iload_n 2, 1) := by decide +kernel
theorem dX1_exchange_26 : decode cX1_exchange 26 = .ok (.iaload, 1) := by decide +kernel
theorem dX1_exchange_27 : decode cX1_exchange 27 = .ok (.iastore, 1) := by decide +kernel
theorem dX1_exchange_28 : decode cX1_exchange 28 = .ok (.aload 4, 2) := by decide +kernel
theorem dX1_exchange_30 : decode cX1_exchange 30 = .ok (.iload_n 2, 1) := by decide +kernel
theorem dX1_exchange_31 : decode cX1_exchange 31 = .ok (.iload 5, 2) := by decide +kernel
theorem dX1_exchange_33 : decode cX1_exchange 33 = .ok (.iastore, 1) := by decide +kernel
theorem dX1_exchange_34 : decode cX1_exchange 34 = .ok (.iinc 3 1, 3) := by decide +kernel
theorem dX1_exchange_37 : decode cX1_exchange 37 = .ok (.goto (-35), 3) := by decide +kernel
theorem dX1_exchange_40 : decode cX1_exchange 40 = .ok (.return_, 1) := by decide +kernel
set_option maxRecDepth 20000 in
theorem ggX1_isMownLike_X1_todays : GoodIn wsX1_isMownLike wsX1_todays := goodIn_r _ [9, 3, 10, 11, 12, 13, 14, 15, 16, 17, 18, 19, 20, 21, 22] (by decide +kernel) (by decide +kernel)
set_option maxRecDepth 20000 in
theorem gX1_isMownLike_X1_todays : GoodIn wsX1_isMownLike (wsV RX1 61 RX1 yX1_todays wsX1_todays) := goodIn_app (goodIn_of _ (by decide +kernel)) ggX1_isMownLike_X1_todays
theorem dX1_isMownLike_0 : decode cX1_isMownLike 0 = .ok (.aload_n 0, 1) := by decide +kernel
theorem dX1_isMownLike_1 : decode cX1_isMownLike 1 = .ok (.getfield 9, 3) := by decide +kernel
theorem dX1_isMownLike_4 : decode cX1_isMownLike 4 = .ok (.aload_n 1, 1) := by decide +kernel
theorem dX1_isMownLike_5 : decode cX1_isMownLike 5 = .ok (.getfield 9, 3) := by decide +kernel
theorem dX1_isMownLike_8 : decode cX1_isMownLike 8 = .ok (.if_icmp .ne 25, 3) := by decide +kernel
theorem dX1_isMownLike_11 : decode cX1_isMownLike 11 = .ok (.aload_n 0, 1) := by decide +kernel
theorem dX1_isMownLike_12 : decode cX1_isMownLike 12 = .ok (.getfield 18, 3) := by decide +kernel
theorem dX1_isMownLike_15 : decode cX1_isMownLike 15 = .ok (.aload_n 1, 1) := by decide +kernel
theorem dX1_isMownLike_16 : decode cX1_isMownLike 16 = .ok (.getfield 18, 3) := by decide +kernel
theorem dX1_isMownLike_19 : decode cX1_isMownLike 19 = .ok (.if_icmp .ne 14, 3) := by decide +kernel
theorem dX1_isMownLike_22 : decode cX1_isMownLike 22 = .ok (.aload_n 0, 1) := by decide +kernel
theorem dX1_isMownLike_23 : decode cX1_isMownLike 23 = .ok (.invokevirtual 61, 3) := by decide +kernel
theorem dX1_isMownLike_26 : decode cX1_isMownLike 26 = .ok (.aload_n 1, 1) := by decide +kernel
theorem dX1_isMownLike_27 : decode cX1_isMownLike 27 = .ok (.invokevirtual 61, 3) := by decide +kernel
theorem dX1_isMownLike_30 : decode cX1_isMownLike 30 = .ok (.if_icmp .eq 5, 3) := by decide +kernel
theorem dX1_isMownLike_33 : decode cX1_isMownLike 33 = .ok (.iconst 0, 1) := by decide +kernel
theorem dX1_isMownLike_34 : decode cX1_isMownLike 34 = .ok (.ireturn, 1) := by decide +kernel
theorem dX1_isMownLike_35 : decode cX1_isMownLike 35 = .ok (.iconst 0, 1) := by decide +kernel
theorem dX1_isMownLike_36 : decode cX1_isMownLike 36 = .ok (.istore_n 2, 1) := by decide +kernel
theorem dX1_isMownLike_37 : decode cX1_isMownLike 37 = .ok (.iload_n 2, 1) := by decide +kernel
theorem dX1_isMownLike_38 : decode cX1_isMownLike 38 = .ok (.aload_n 0, 1) := by decide +kernel
theorem dX1_isMownLike_39 : decode cX1_isMownLike 39 = .ok (.getfield 24, 3) := by decide +kernel
theorem dX1_isMownLike_42 : decode cX1_isMownLike 42 = .ok (.if_icmp .ge 26, 3) := by decide +kernel
theorem dX1_isMownLike_45 : decode cX1_isMownLike 45 = .ok (.aload_n 0, 1) := by decide +kernel
theorem dX1_isMownLike_46 : decode cX1_isMownLike 46 = .ok (.getfield 31, 3) := by decide +kernel
theorem dX1_isMownLike_49 : decode cX1_isMownLike 49 = .ok (.iload_n 2, 1) := by decide +kernel
theorem dX1_isMownLike_50 : decode cX1_isMownLike 50 = .ok (.iaload, 1) := by decide +kernel
theorem dX1_isMownLike_51 : decode cX1_isMownLike 51 = .ok (.aload_n 1, 1) := by decide +kernel
theorem dX1_isMownLike_52 : decode cX1_isMownLike 52 = .ok (.getfield 31, 3) := by decide +kernel
theorem dX1_isMownLike_55 : decode cX1_isMownLike 55 = .ok (.iload_n 2, 1) := by decide +kernel
theorem dX1_isMownLike_56 : decode cX1_isMownLike 56 = .ok (.iaload, 1) := by decide +kernel
theorem dX1_isMownLike_57 : decode cX1_isMownLike 57 = .ok (.if_icmp .eq 5, 3) := by decide +kernel
theorem dX1_isMownLike_60 : decode cX1_isMownLike 60 = .ok (.iconst 0, 1) := by decide +kernel
theorem dX1_isMownLike_61 : decode cX1_isMownLike 61 = .ok (.ireturn, 1) := by decide +kernel
theorem dX1_isMownLike_62 : decode cX1_isMownLike 62 = .ok (.iinc 2 1, 3) := by decide +kernel
theorem dX1_isMownLike_65 : decode cX1_isMownLike 65 = .ok (.goto (-28), 3) := by decide +kernel
theorem dX1_isMownLike_68 : decode cX1_isMownLike 68 = .ok (.iconst 1, 1) := by decide +kernel
theorem dX1_isMownLike_69 : decode cX1_isMownLike 69 = .ok (.ireturn, 1) := by decide +kernel
theorem dX2_changed_0 : decode cX2_changed 0 = .ok (.iload_n 0, 1) := by decide +kernel
theorem dX2_changed_1 : decode cX2_changed 1 = .ok (.iconst 1, 1) := by decide +kernel
theorem dX2_changed_2 : decode cX2_changed 2 = .ok (.iload_n 1, 1) := by decide +kernel
theorem dX2_changed_3 : decode cX2_changed 3 = .ok (.ishl, 1) := by decide +kernel
theorem dX2_changed_4 : decode cX2_changed 4 = .ok (.ixor, 1) := by decide +kernel
theorem dX2_changed_5 : decode cX2_changed 5 = .ok (.ireturn, 1) := by decide +kernel
theorem dX2_with_0 : decode cX2_with 0 = .ok (.iload_n 2, 1) := by decide +kernel
theorem dX2_with_1 : decode cX2_with 1 = .ok (.iconst 1, 1) := by decide +kernel
theorem dX2_with_2 : decode cX2_with 2 = .ok (.if_icmp .ne 11, 3) := by decide +kernel
theorem dX2_with_5 : decode cX2_with 5 = .ok (.iload_n 0, 1) := by decide +kernel
theorem dX2_with_6 : decode cX2_with 6 = .ok (.iconst 1, 1) := by decide +kernel
theorem dX2_with_7 : decode cX2_with 7 = .ok (.iload_n 1, 1) := by decide +kernel
theorem dX2_with_8 : decode cX2_with 8 = .ok (.ishl, 1) := by decide +kernel
theorem dX2_with_9 : decode cX2_with 9 = .ok (.ior, 1) := by decide +kernel
theorem dX2_with_10 : decode cX2_with 10 = .ok (.goto 10, 3) := by decide +kernel
theorem dX2_with_13 : decode cX2_with 13 = .ok (.iload_n 0, 1) := by decide +kernel
theorem dX2_with_14 : decode cX2_with 14 = .ok (.iconst 1, 1) := by decide +kernel
theorem dX2_with_15 : decode cX2_with 15 = .ok (.iload_n 1, 1) := by decide +kernel
theorem dX2_with_16 : decode cX2_with 16 = .ok (.ishl, 1) := by decide +kernel
theorem dX2_with_17 : decode cX2_with 17 = .ok (.iconst (-1), 1) := by decide +kernel
theorem dX2_with_18 : decode cX2_with 18 = .ok (.ixor, 1) := by decide +kernel
theorem dX2_with_19 : decode cX2_with 19 = .ok (.iand, 1) := by decide +kernel
theorem dX2_with_20 : decode cX2_with 20 = .ok (.ireturn, 1) := by decide +kernel
theorem dX2_beside_0 : decode cX2_beside 0 = .ok (.iload_n 0, 1) := by decide +kernel
theorem dX2_beside_1 : decode cX2_beside 1 = .ok (.bipush 7, 2) := by decide +kernel
theorem dX2_beside_3 : decode cX2_beside 3 = .ok (.iand, 1) := by decide +kernel
theorem dX2_beside_4 : decode cX2_beside 4 = .ok (.iload_n 0, 1) := by decide +kernel
theorem dX2_beside_5 : decode cX2_beside 5 = .ok (.bipush 56, 2) := by decide +kernel
theorem dX2_beside_7 : decode cX2_beside 7 = .ok (.iand, 1) := by decide +kernel
theorem dX2_beside_8 : decode cX2_beside 8 = .ok (.iconst 1, 1) := by decide +kernel
theorem dX2_beside_9 : decode cX2_beside 9 = .ok (.ishl, 1) := by decide +kernel
theorem dX2_beside_10 : decode cX2_beside 10 = .ok (.ior, 1) := by decide +kernel
theorem dX2_beside_11 : decode cX2_beside 11 = .ok (.iload_n 0, 1) := by decide +kernel
theorem dX2_beside_12 : decode cX2_beside 12 = .ok (.sipush 448, 3) := by decide +kernel
theorem dX2_beside_15 : decode cX2_beside 15 = .ok (.iand, 1) := by decide +kernel
theorem dX2_beside_16 : decode cX2_beside 16 = .ok (.iconst 2, 1) := by decide +kernel
theorem dX2_beside_17 : decode cX2_beside 17 = .ok (.ishl, 1) := by decide +kernel
theorem dX2_beside_18 : decode cX2_beside 18 = .ok (.ior, 1) := by decide +kernel
theorem dX2_beside_19 : decode cX2_beside 19 = .ok (.iload_n 0, 1) := by decide +kernel
theorem dX2_beside_20 : decode cX2_beside 20 = .ok (.sipush 3584, 3) := by decide +kernel
theorem dX2_beside_23 : decode cX2_beside 23 = .ok (.iand, 1) := by decide +kernel
theorem dX2_beside_24 : decode cX2_beside 24 = .ok (.iconst 3, 1) := by decide +kernel
theorem dX2_beside_25 : decode cX2_beside 25 = .ok (.ishl, 1) := by decide +kernel
theorem dX2_beside_26 : decode cX2_beside 26 = .ok (.ior, 1) := by decide +kernel
theorem dX2_beside_27 : decode cX2_beside 27 = .ok (.istore_n 2, 1) := by decide +kernel
theorem dX2_beside_28 : decode cX2_beside 28 = .ok (.iload_n 2, 1) := by decide +kernel
theorem dX2_beside_29 : decode cX2_beside 29 = .ok (.iconst (-1), 1) := by decide +kernel
theorem dX2_beside_30 : decode cX2_beside 30 = .ok (.ixor, 1) := by decide +kernel
theorem dX2_beside_31 : decode cX2_beside 31 = .ok (.sipush 30583, 3) := by decide +kernel
theorem dX2_beside_34 : decode cX2_beside 34 = .ok (.iand, 1) := by decide +kernel
theorem dX2_beside_35 : decode cX2_beside 35 = .ok (.istore_n 3, 1) := by decide +kernel
theorem dX2_beside_36 : decode cX2_beside 36 = .ok (.iload_n 0, 1) := by decide +kernel
theorem dX2_beside_37 : decode cX2_beside 37 = .ok (.bipush 12, 2) := by decide +kernel
theorem dX2_beside_39 : decode cX2_beside 39 = .ok (.ishr, 1) := by decide +kernel
theorem dX2_beside_40 : decode cX2_beside 40 = .ok (.iconst (-1), 1) := by decide +kernel
theorem dX2_beside_41 : decode cX2_beside 41 = .ok (.ixor, 1) := by decide +kernel
theorem dX2_beside_42 : decode cX2_beside 42 = .ok (.sipush 4095, 3) := by decide +kernel
theorem dX2_beside_45 : decode cX2_beside 45 = .ok (.iand, 1) := by decide +kernel
theorem dX2_beside_46 : decode cX2_beside 46 = .ok (.istore 4, 2) := by decide +kernel
theorem dX2_beside_48 : decode cX2_beside 48 = .ok (.iload_n 1, 1) := by decide +kernel
theorem dX2_beside_49 : decode cX2_beside 49 = .ok (.iload_n 3, 1) := by decide +kernel
theorem dX2_beside_50 : decode cX2_beside 50 = .ok (.iand, 1) := by decide +kernel
theorem dX2_beside_51 : decode cX2_beside 51 = .ok (.iconst 1, 1) := by decide +kernel
theorem dX2_beside_52 : decode cX2_beside 52 = .ok (.ishl, 1) := by decide +kernel
theorem dX2_beside_53 : decode cX2_beside 53 = .ok (.iload_n 1, 1) := by decide +kernel
theorem dX2_beside_54 : decode cX2_beside 54 = .ok (.iconst 1, 1) := by decide +kernel
theorem dX2_beside_55 : decode cX2_beside 55 = .ok (.ishr, 1) := by decide +kernel
theorem dX2_beside_56 : decode cX2_beside 56 = .ok (.iload_n 3, 1) := by decide +kernel
theorem dX2_beside_57 : decode cX2_beside 57 = .ok (.iand, 1) := by decide +kernel
theorem dX2_beside_58 : decode cX2_beside 58 = .ok (.ior, 1) := by decide +kernel
theorem dX2_beside_59 : decode cX2_beside 59 = .ok (.iload_n 1, 1) := by decide +kernel
theorem dX2_beside_60 : decode cX2_beside 60 = .ok (.iload 4, 2) := by decide +kernel
theorem dX2_beside_62 : decode cX2_beside 62 = .ok (.iand, 1) := by decide +kernel
theorem dX2_beside_63 : decode cX2_beside 63 = .ok (.iconst 4, 1) := by decide +kernel
theorem dX2_beside_64 : decode cX2_beside 64 = .ok (.ishl, 1) := by decide +kernel
theorem dX2_beside_65 : decode cX2_beside 65 = .ok (.ior, 1) := by decide +kernel
theorem dX2_beside_66 : decode cX2_beside 66 = .ok (.iload_n 1, 1) := by decide +kernel
theorem dX2_beside_67 : decode cX2_beside 67 = .ok (.iconst 4, 1) := by decide +kernel
theorem dX2_beside_68 : decode cX2_beside 68 = .ok (.ishr, 1) := by decide +kernel
theorem dX2_beside_69 : decode cX2_beside 69 = .ok (.iload 4, 2) := by decide +kernel
theorem dX2_beside_71 : decode cX2_beside 71 = .ok (.iand, 1) := by decide +kernel
theorem dX2_beside_72 : decode cX2_beside 72 = .ok (.ior, 1) := by decide +kernel
theorem dX2_beside_73 : decode cX2_beside 73 = .ok (.ireturn, 1) := by decide +kernel
set_option maxRecDepth 20000 in
theorem ggX2_steps_X2_beside : GoodIn wsX2_steps wsX2_beside := goodIn_r _ [4] (by decide +kernel) (by decide +kernel)
set_option maxRecDepth 20000 in
theorem gX2_steps_X2_beside : GoodIn wsX2_steps (va_wsS RX2 9 yX2_beside wsX2_beside) := goodIn_app (goodIn_of _ (by decide +kernel)) ggX2_steps_X2_beside
theorem dX2_steps_0 : decode cX2_steps 0 = .ok (.iconst 1, 1) := by decide +kernel
theorem dX2_steps_1 : decode cX2_steps 1 = .ok (.iload_n 1, 1) := by decide +kernel
theorem dX2_steps_2 : decode cX2_steps 2 = .ok (.ishl, 1) := by decide +kernel
theorem dX2_steps_3 : decode cX2_steps 3 = .ok (.istore_n 3, 1) := by decide +kernel
theorem dX2_steps_4 : decode cX2_steps 4 = .ok (.iconst 0, 1) := by decide +kernel
theorem dX2_steps_5 : decode cX2_steps 5 = .ok (.istore 4, 2) := by decide +kernel
theorem dX2_steps_7 : decode cX2_steps 7 = .ok (.iload 4, 2) := by decide +kernel
theorem dX2_steps_9 : decode cX2_steps 9 = .ok (.bipush 16, 2) := by decide +kernel
theorem dX2_steps_11 : decode cX2_steps 11 = .ok (.if_icmp .ge 28, 3) := by decide +kernel
theorem dX2_steps_14 : decode cX2_steps 14 = .ok (.iload_n 3, 1) := by decide +kernel
theorem dX2_steps_15 : decode cX2_steps 15 = .ok (.iconst 1, 1) := by decide +kernel
theorem dX2_steps_16 : decode cX2_steps 16 = .ok (.iload_n 2, 1) := by decide +kernel
theorem dX2_steps_17 : decode cX2_steps 17 = .ok (.ishl, 1) := by decide +kernel
theorem dX2_steps_18 : decode cX2_steps 18 = .ok (.iand, 1) := by decide +kernel
theorem dX2_steps_19 : decode cX2_steps 19 = .ok (.ifCond .eq 6, 3) := by decide +kernel
theorem dX2_steps_22 : decode cX2_steps 22 = .ok (.iload 4, 2) := by decide +kernel
theorem dX2_steps_24 : decode cX2_steps 24 = .ok (.ireturn, 1) := by decide +kernel
theorem dX2_steps_25 : decode cX2_steps 25 = .ok (.iload_n 3, 1) := by decide +kernel
theorem dX2_steps_26 : decode cX2_steps 26 = .ok (.iload_n 0, 1) := by decide +kernel
theorem dX2_steps_27 : decode cX2_steps 27 = .ok (.iload_n 3, 1) := by decide +kernel
theorem dX2_steps_28 : decode cX2_steps 28 = .ok (.invokestatic 9, 3) := by decide +kernel
theorem dX2_steps_31 : decode cX2_steps 31 = .ok (.ior, 1) := by decide +kernel
theorem dX2_steps_32 : decode cX2_steps 32 = .ok (.istore_n 3, 1) := by decide +kernel
theorem dX2_steps_33 : decode cX2_steps 33 = .ok (.iinc 4 1, 3) := by decide +kernel
theorem dX2_steps_36 : decode cX2_steps 36 = .ok (.goto (-29), 3) := by decide +kernel
theorem dX2_steps_39 : decode cX2_steps 39 = .ok (.bipush (-4), 2) := by decide +kernel
theorem dX2_steps_41 : decode cX2_steps 41 = .ok (.ireturn, 1) := by decide +kernel
set_option maxRecDepth 20000 in
theorem ggX2_toward_X2_beside : GoodIn wsX2_toward wsX2_beside := goodIn_r _ [4] (by decide +kernel) (by decide +kernel)
set_option maxRecDepth 20000 in
theorem gX2_toward_X2_beside : GoodIn wsX2_toward (va_wsS RX2 9 yX2_beside wsX2_beside) := goodIn_app (goodIn_of _ (by decide +kernel)) ggX2_toward_X2_beside
set_option maxRecDepth 20000 in
theorem ggX2_toward_J6_numberOfTrailingZeros_0f7a4 : GoodIn wsX2_toward wsJ6_numberOfTrailingZeros_0f7a4 := goodIn_r _ [8, 9] (by decide +kernel) (by decide +kernel)
set_option maxRecDepth 20000 in
theorem gX2_toward_J6_numberOfTrailingZeros_0f7a4 : GoodIn wsX2_toward (va_wsS RX2 15 yJ6_numberOfTrailingZeros_0f7a4 wsJ6_numberOfTrailingZeros_0f7a4) := goodIn_app (goodIn_of _ (by decide +kernel)) ggX2_toward_J6_numberOfTrailingZeros_0f7a4
theorem dX2_toward_0 : decode cX2_toward 0 = .ok (.iconst 1, 1) := by decide +kernel
theorem dX2_toward_1 : decode cX2_toward 1 = .ok (.iload_n 2, 1) := by decide +kernel
theorem dX2_toward_2 : decode cX2_toward 2 = .ok (.ishl, 1) := by decide +kernel
theorem dX2_toward_3 : decode cX2_toward 3 = .ok (.istore_n 3, 1) := by decide +kernel
theorem dX2_toward_4 : decode cX2_toward 4 = .ok (.iconst 0, 1) := by decide +kernel
theorem dX2_toward_5 : decode cX2_toward 5 = .ok (.istore 4, 2) := by decide +kernel
theorem dX2_toward_7 : decode cX2_toward 7 = .ok (.iload 4, 2) := by decide +kernel
theorem dX2_toward_9 : decode cX2_toward 9 = .ok (.bipush 16, 2) := by decide +kernel
theorem dX2_toward_11 : decode cX2_toward 11 = .ok (.if_icmp .ge 59, 3) := by decide +kernel
theorem dX2_toward_14 : decode cX2_toward 14 = .ok (.iload_n 3, 1) := by decide +kernel
theorem dX2_toward_15 : decode cX2_toward 15 = .ok (.iconst 1, 1) := by decide +kernel
theorem dX2_toward_16 : decode cX2_toward 16 = .ok (.iload_n 1, 1) := by decide +kernel
theorem dX2_toward_17 : decode cX2_toward 17 = .ok (.ishl, 1) := by decide +kernel
theorem dX2_toward_18 : decode cX2_toward 18 = .ok (.iand, 1) := by decide +kernel
theorem dX2_toward_19 : decode cX2_toward 19 = .ok (.ifCond .ne 51, 3) := by decide +kernel
theorem dX2_toward_22 : decode cX2_toward 22 = .ok (.iload_n 3, 1) := by decide +kernel
theorem dX2_toward_23 : decode cX2_toward 23 = .ok (.iload_n 0, 1) := by decide +kernel
theorem dX2_toward_24 : decode cX2_toward 24 = .ok (.iconst 1, 1) := by decide +kernel
theorem dX2_toward_25 : decode cX2_toward 25 = .ok (.iload_n 1, 1) := by decide +kernel
theorem dX2_toward_26 : decode cX2_toward 26 = .ok (.ishl, 1) := by decide +kernel
theorem dX2_toward_27 : decode cX2_toward 27 = .ok (.invokestatic 9, 3) := by decide +kernel
theorem dX2_toward_30 : decode cX2_toward 30 = .ok (.iand, 1) := by decide +kernel
theorem dX2_toward_31 : decode cX2_toward 31 = .ok (.istore 5, 2) := by decide +kernel
theorem dX2_toward_33 : decode cX2_toward 33 = .ok (.iload 5, 2) := by decide +kernel
theorem dX2_toward_35 : decode cX2_toward 35 = .ok (.ifCond .eq 9, 3) := by decide +kernel
theorem dX2_toward_38 : decode cX2_toward 38 = .ok (.iload 5, 2) := by decide +kernel
theorem dX2_toward_40 : decode cX2_toward 40 = .ok (.invokestatic 15, 3) := by decide +kernel
theorem dX2_toward_43 : decode cX2_toward 43 = .ok (.ireturn, 1) := by decide +kernel
theorem dX2_toward_44 : decode cX2_toward 44 = .ok (.iload_n 3, 1) := by decide +kernel
theorem dX2_toward_45 : decode cX2_toward 45 = .ok (.iload_n 0, 1) := by decide +kernel
theorem dX2_toward_46 : decode cX2_toward 46 = .ok (.iload_n 3, 1) := by decide +kernel
theorem dX2_toward_47 : decode cX2_toward 47 = .ok (.invokestatic 9, 3) := by decide +kernel
theorem dX2_toward_50 : decode cX2_toward 50 = .ok (.ior, 1) := by decide +kernel
theorem dX2_toward_51 : decode cX2_toward 51 = .ok (.istore 6, 2) := by decide +kernel
theorem dX2_toward_53 : decode cX2_toward 53 = .ok (.iload 6, 2) := by decide +kernel
theorem dX2_toward_55 : decode cX2_toward 55 = .ok (.iload_n 3, 1) := by decide +kernel
theorem dX2_toward_56 : decode cX2_toward 56 = .ok (.if_icmp .ne 5, 3) := by decide +kernel
theorem dX2_toward_59 : decode cX2_toward 59 = .ok (.iload_n 1, 1) := by decide +kernel
theorem dX2_toward_60 : decode cX2_toward 60 = .ok (.ireturn, 1) := by decide +kernel
theorem dX2_toward_61 : decode cX2_toward 61 = .ok (.iload 6, 2) := by decide +kernel
theorem dX2_toward_63 : decode cX2_toward 63 = .ok (.istore_n 3, 1) := by decide +kernel
theorem dX2_toward_64 : decode cX2_toward 64 = .ok (.iinc 4 1, 3) := by decide +kernel
theorem dX2_toward_67 : decode cX2_toward 67 = .ok (.goto (-60), 3) := by decide +kernel
theorem dX2_toward_70 : decode cX2_toward 70 = .ok (.iload_n 1, 1) := by decide +kernel
theorem dX2_toward_71 : decode cX2_toward 71 = .ok (.ireturn, 1) := by decide +kernel
theorem dX3_init_0 : decode cX3_init 0 = .ok (.aload_n 0, 1) := by decide +kernel
theorem dX3_init_1 : decode cX3_init 1 = .ok (.invokespecial 3, 3) := by decide +kernel
theorem dX3_init_4 : decode cX3_init 4 = .ok (.aload_n 0, 1) := by decide +kernel
theorem dX3_init_5 : decode cX3_init 5 = .ok (.sipush 160, 3) := by decide +kernel
theorem dX3_init_8 : decode cX3_init 8 = .ok (.newarray .byte, 2) := by decide +kernel
theorem dX3_init_10 : decode cX3_init 10 = .ok (.putfield 9, 3) := by decide +kernel
theorem dX3_init_13 : decode cX3_init 13 = .ok (.aload_n 0, 1) := by decide +kernel
theorem dX3_init_14 : decode cX3_init 14 = .ok (.iconst 0, 1) := by decide +kernel
theorem dX3_init_15 : decode cX3_init 15 = .ok (.putfield 15, 3) := by decide +kernel
theorem dX3_init_18 : decode cX3_init 18 = .ok (.aload_n 0, 1) := by decide +kernel
theorem dX3_init_19 : decode cX3_init 19 = .ok (.iconst 0, 1) := by decide +kernel
theorem dX3_init_20 : decode cX3_init 20 = .ok (.putfield 19, 3) := by decide +kernel
theorem dX3_init_23 : decode cX3_init 23 = .ok (.aload_n 0, 1) := by decide +kernel
theorem dX3_init_24 : decode cX3_init 24 = .ok (.iconst 0, 1) := by decide +kernel
theorem dX3_init_25 : decode cX3_init 25 = .ok (.putfield 22, 3) := by decide +kernel
theorem dX3_init_28 : decode cX3_init 28 = .ok (.aload_n 0, 1) := by decide +kernel
theorem dX3_init_29 : decode cX3_init 29 = .ok (.iconst 4, 1) := by decide +kernel
theorem dX3_init_30 : decode cX3_init 30 = .ok (.putfield 25, 3) := by decide +kernel
theorem dX3_init_33 : decode cX3_init 33 = .ok (.aload_n 0, 1) := by decide +kernel
theorem dX3_init_34 : decode cX3_init 34 = .ok (.iconst 0, 1) := by decide +kernel
theorem dX3_init_35 : decode cX3_init 35 = .ok (.putfield 28, 3) := by decide +kernel
theorem dX3_init_38 : decode cX3_init 38 = .ok (.aload_n 0, 1) := by decide +kernel
theorem dX3_init_39 : decode cX3_init 39 = .ok (.iconst 0, 1) := by decide +kernel
theorem dX3_init_40 : decode cX3_init 40 = .ok (.putfield 31, 3) := by decide +kernel
theorem dX3_init_43 : decode cX3_init 43 = .ok (.aload_n 0, 1) := by decide +kernel
theorem dX3_init_44 : decode cX3_init 44 = .ok (.iconst 0, 1) := by decide +kernel
theorem dX3_init_45 : decode cX3_init 45 = .ok (.putfield 34, 3) := by decide +kernel
theorem dX3_init_48 : decode cX3_init 48 = .ok (.return_, 1) := by decide +kernel
theorem dX3_append_0 : decode cX3_append 0 = .ok (.aload_n 0, 1) := by decide +kernel
theorem dX3_append_1 : decode cX3_append 1 = .ok (.getfield 15, 3) := by decide +kernel
theorem dX3_append_4 : decode cX3_append 4 = .ok (.sipush 160, 3) := by decide +kernel
theorem dX3_append_7 : decode cX3_append 7 = .ok (.if_icmp .lt 5, 3) := by decide +kernel
theorem dX3_append_10 : decode cX3_append 10 = .ok (.iconst 0, 1) := by decide +kernel
theorem dX3_append_11 : decode cX3_append 11 = .ok (.ireturn, 1) := by decide +kernel
theorem dX3_append_12 : decode cX3_append 12 = .ok (.aload_n 0, 1) := by decide +kernel
theorem dX3_append_13 : decode cX3_append 13 = .ok (.getfield 9, 3) := by decide +kernel
theorem dX3_append_16 : decode cX3_append 16 = .ok (.aload_n 0, 1) := by decide +kernel
theorem dX3_append_17 : decode cX3_append 17 = .ok (.getfield 15, 3) := by decide +kernel
theorem dX3_append_20 : decode cX3_append 20 = .ok (.iload_n 1, 1) := by decide +kernel
theorem dX3_append_21 : decode cX3_append 21 = .ok (.i2b, 1) := by decide +kernel
theorem dX3_append_22 : decode cX3_append 22 = .ok (.bastore, 1) := by decide +kernel
theorem dX3_append_23 : decode cX3_append 23 = .ok (.aload_n 0, 1) := by decide +kernel
theorem dX3_append_24 : decode cX3_append 24 = .ok (.dup, 1) := by decide +kernel
theorem dX3_append_25 : decode cX3_append 25 = .ok (.getfield 15, 3) := by decide +kernel
theorem dX3_append_28 : decode cX3_append 28 = .ok (.iconst 1, 1) := by decide +kernel
theorem dX3_append_29 : decode cX3_append 29 = .ok (.iadd, 1) := by decide +kernel
theorem dX3_append_30 : decode cX3_append 30 = .ok (.putfield 15, 3) := by decide +kernel
theorem dX3_append_33 : decode cX3_append 33 = .ok (.iconst 1, 1) := by decide +kernel
theorem dX3_append_34 : decode cX3_append 34 = .ok (.ireturn, 1) := by decide +kernel
set_option maxRecDepth 20000 in
theorem ggX3_readLines_X3_takeToken : GoodIn wsX3_readLines wsX3_takeToken := goodIn_r _ [9, 1, 10, 11, 12, 4, 13, 14, 8, 15, 16, 17, 18, 19, 20, 21, 22, 23, 24, 25, 26, 27, 155, 156, 157, 158, 159, 160, 161, 162] (by decide +kernel) (by decide +kernel)
set_option maxRecDepth 20000 in
theorem gX3_readLines_X3_takeToken : GoodIn wsX3_readLines (wsV RX3 38 RX3 yX3_takeToken wsX3_takeToken) := goodIn_app (goodIn_of _ (by decide +kernel)) ggX3_readLines_X3_takeToken
set_option maxRecDepth 20000 in
theorem ggX3_readLines_X3_readLine : GoodIn wsX3_readLines wsX3_readLine := goodIn_r _ [31, 4, 32, 33, 34, 8, 35, 36, 37, 38, 39, 2, 40, 41, 42, 43, 44, 45, 46, 47, 1, 12, 11, 48, 49, 50, 51, 52, 53, 54, 55, 56, 57, 58, 59, 60, 61, 62, 63, 64, 65, 66, 67, 68, 69, 70, 71, 72, 73, 74, 75, 76, 77, 78, 79, 80, 81, 82, 83, 84, 85, 86, 87, 88, 89, 90, 91, 92, 93, 94, 95, 96, 97, 98, 99, 100, 101, 27, 102, 103, 104, 105, 5, 6, 7, 9, 10, 13, 14, 15, 16, 17, 18, 19, 20, 21, 22, 23, 24, 25, 26, 106, 107, 108, 109, 110, 111, 112, 113, 114, 115, 116, 117, 118, 119, 120, 121, 122, 123, 124, 125, 126, 127, 128, 129, 130, 131, 132, 133, 134, 135, 136, 137, 138, 139, 140, 141, 142, 143, 144, 145, 146, 147, 148, 149, 150, 151, 152, 153, 3, 154, 155, 156, 157, 158, 159, 160, 161, 162, 163, 164, 165, 166, 167, 168, 169, 170, 171, 172, 173, 174] (by decide +kernel) (by decide +kernel)
set_option maxRecDepth 20000 in
theorem gX3_readLines_X3_readLine : GoodIn wsX3_readLines (wsV RX3 41 RX3 yX3_readLine wsX3_readLine) := goodIn_app (goodIn_of _ (by decide +kernel)) ggX3_readLines_X3_readLine
theorem dX3_readLines_0 : decode cX3_readLines 0 = .ok (.aload_n 0, 1) := by decide +kernel
theorem dX3_readLines_1 : decode cX3_readLines 1 = .ok (.iconst 0, 1) := by decide +kernel
theorem dX3_readLines_2 : decode cX3_readLines 2 = .ok (.putfield 19, 3) := by decide +kernel
theorem dX3_readLines_5 : decode cX3_readLines 5 = .ok (.aload_n 0, 1) := by decide +kernel
theorem dX3_readLines_6 : decode cX3_readLines 6 = .ok (.iconst 0, 1) := by decide +kernel
theorem dX3_readLines_7 : decode cX3_readLines 7 = .ok (.putfield 31, 3) := by decide +kernel
theorem dX3_readLines_10 : decode cX3_readLines 10 = .ok (.aload_n 0, 1) := by decide +kernel
theorem dX3_readLines_11 : decode cX3_readLines 11 = .ok (.iconst 0, 1) := by decide +kernel
theorem dX3_readLines_12 : decode cX3_readLines 12 = .ok (.putfield 34, 3) := by decide +kernel
theorem dX3_readLines_15 : decode cX3_readLines 15 = .ok (.iconst 0, 1) := by decide +kernel
theorem dX3_readLines_16 : decode cX3_readLines 16 = .ok (.istore_n 2, 1) := by decide +kernel
theorem dX3_readLines_17 : decode cX3_readLines 17 = .ok (.iload_n 2, 1) := by decide +kernel
theorem dX3_readLines_18 : decode cX3_readLines 18 = .ok (.sipush 160, 3) := by decide +kernel
theorem dX3_readLines_21 : decode cX3_readLines 21 = .ok (.if_icmp .gt 31, 3) := by decide +kernel
theorem dX3_readLines_24 : decode cX3_readLines 24 = .ok (.aload_n 0, 1) := by decide +kernel
theorem dX3_readLines_25 : decode cX3_readLines 25 = .ok (.invokevirtual 38, 3) := by decide +kernel
theorem dX3_readLines_28 : decode cX3_readLines 28 = .ok (.aload_n 0, 1) := by decide +kernel
theorem dX3_readLines_29 : decode cX3_readLines 29 = .ok (.getfield 25, 3) := by decide +kernel
theorem dX3_readLines_32 : decode cX3_readLines 32 = .ok (.iconst 4, 1) := by decide +kernel
theorem dX3_readLines_33 : decode cX3_readLines 33 = .ok (.if_icmp .eq 11, 3) := by decide +kernel
theorem dX3_readLines_36 : decode cX3_readLines 36 = .ok (.aload_n 0, 1) := by decide +kernel
theorem dX3_readLines_37 : decode cX3_readLines 37 = .ok (.aload_n 1, 1) := by decide +kernel
theorem dX3_readLines_38 : decode cX3_readLines 38 = .ok (.invokevirtual 41, 3) := by decide +kernel
theorem dX3_readLines_41 : decode cX3_readLines 41 = .ok (.ifCond .ne 5, 3) := by decide +kernel
theorem dX3_readLines_44 : decode cX3_readLines 44 = .ok (.iload_n 2, 1) := by decide +kernel
theorem dX3_readLines_45 : decode cX3_readLines 45 = .ok (.ireturn, 1) := by decide +kernel
theorem dX3_readLines_46 : decode cX3_readLines 46 = .ok (.iinc 2 1, 3) := by decide +kernel
theorem dX3_readLines_49 : decode cX3_readLines 49 = .ok (.goto (-32), 3) := by decide +kernel
theorem dX3_readLines_52 : decode cX3_readLines 52 = .ok (.sipush 160, 3) := by decide +kernel
theorem dX3_readLines_55 : decode cX3_readLines 55 = .ok (.ireturn, 1) := by decide +kernel
set_option maxRecDepth 20000 in
theorem ggX3_readLine_X3_failAtToken : GoodIn wsX3_readLine wsX3_failAtToken := goodIn_r _ [6, 1, 7, 8, 9, 5, 10, 11, 151, 152, 153, 154, 155, 156, 157, 158] (by decide +kernel) (by decide +kernel)
set_option maxRecDepth 20000 in
theorem gX3_readLine_X3_failAtToken : GoodIn wsX3_readLine (wsV RX3 45 RX3 yX3_failAtToken wsX3_failAtToken) := goodIn_app (goodIn_of _ (by decide +kernel)) ggX3_readLine_X3_failAtToken
set_option maxRecDepth 20000 in
theorem ggX3_readLine_X3_kindNamed : GoodIn wsX3_readLine wsX3_kindNamed := goodIn_r _ [15, 16, 17, 18, 5, 19, 20, 21, 22, 23, 24, 25, 26, 27, 28, 29, 30, 31, 32, 33, 34, 35, 36, 37, 38, 39, 40, 41, 42, 43, 44, 45, 46, 47, 48, 49, 50, 51, 52, 53, 54, 55, 56, 57, 58, 59, 60, 61, 62, 63, 64, 65, 66, 67, 68, 69, 70, 71, 151, 152, 153, 154, 155, 156, 157, 158] (by decide +kernel) (by decide +kernel)
set_option maxRecDepth 20000 in
theorem gX3_readLine_X3_kindNamed : GoodIn wsX3_readLine (wsV RX3 49 RX3 yX3_kindNamed wsX3_kindNamed) := goodIn_app (goodIn_of _ (by decide +kernel)) ggX3_readLine_X3_kindNamed
set_option maxRecDepth 20000 in
theorem ggX3_readLine_X3_readGardener : GoodIn wsX3_readLine wsX3_readGardener := goodIn_r _ [75, 76, 77, 7, 8, 9, 5, 10, 11, 78, 79, 80, 81, 82, 83, 84, 85, 20, 86, 22, 21, 1, 87, 88, 89, 90, 91, 92, 93, 94, 95, 96, 97, 98, 99, 100, 101, 102, 103, 104, 2, 3, 4, 6, 105, 106, 107, 108, 109, 110, 111, 112, 113, 114, 115, 116, 117, 159, 160, 161, 162, 163, 164, 165, 166, 167, 168, 169, 170, 151, 152, 153, 154, 155, 156, 157, 158] (by decide +kernel) (by decide +kernel)
set_option maxRecDepth 20000 in
theorem gX3_readLine_X3_readGardener : GoodIn wsX3_readLine (wsV RX3 53 RX3 yX3_readGardener wsX3_readGardener) := goodIn_app (goodIn_of _ (by decide +kernel)) ggX3_readLine_X3_readGardener
set_option maxRecDepth 20000 in
theorem ggX3_readLine_X3_spells : GoodIn wsX3_readLine wsX3_spells := goodIn_r _ [19, 20, 21, 22, 23, 24, 25, 26, 27, 28, 29, 30, 31, 32, 33, 34, 35, 36, 37, 38, 39, 40, 41, 42, 43, 44, 45, 46, 47, 48, 49, 50, 51, 52, 53, 54, 55, 56, 57, 58, 59, 60, 61, 62, 63, 64, 65, 66, 67, 68, 69, 70, 71, 151, 152, 153, 154, 155, 156, 157, 158] (by decide +kernel) (by decide +kernel)
set_option maxRecDepth 20000 in
theorem gX3_readLine_X3_spells : GoodIn wsX3_readLine (wsV RX3 59 RX3 yX3_spells wsX3_spells) := goodIn_app (goodIn_of _ (by decide +kernel)) ggX3_readLine_X3_spells
set_option maxRecDepth 20000 in
theorem ggX3_readLine_X3_readGuest : GoodIn wsX3_readLine wsX3_readGuest := goodIn_r _ [121, 122, 77, 7, 8, 9, 5, 10, 11, 78, 79, 80, 81, 82, 83, 84, 85, 20, 86, 22, 21, 1, 87, 88, 89, 90, 91, 92, 93, 94, 95, 96, 97, 98, 99, 100, 101, 102, 103, 104, 2, 3, 4, 6, 123, 124, 125, 108, 126, 127, 128, 129, 130, 114, 115, 116, 117, 159, 160, 161, 162, 163, 164, 165, 166, 167, 168, 169, 170, 151, 152, 153, 154, 155, 156, 157, 158] (by decide +kernel) (by decide +kernel)
set_option maxRecDepth 20000 in
theorem gX3_readLine_X3_readGuest : GoodIn wsX3_readLine (wsV RX3 63 RX3 yX3_readGuest wsX3_readGuest) := goodIn_app (goodIn_of _ (by decide +kernel)) ggX3_readLine_X3_readGuest
set_option maxRecDepth 20000 in
theorem ggX3_readLine_X3_readHedges : GoodIn wsX3_readLine wsX3_readHedges := goodIn_r _ [134, 1, 77, 135, 82, 83, 84, 5, 85, 20, 86, 22, 21, 87, 88, 89, 90, 91, 92, 93, 94, 95, 96, 97, 98, 99, 100, 101, 102, 103, 104, 2, 3, 4, 6, 7, 8, 9, 10, 11, 136, 137, 138, 108, 139, 140, 141, 142, 143, 144, 151, 152, 153, 154, 155, 156, 157, 158, 159, 160, 161, 162, 163, 164, 165, 166, 167, 168, 169, 170] (by decide +kernel) (by decide +kernel)
set_option maxRecDepth 20000 in
theorem gX3_readLine_X3_readHedges : GoodIn wsX3_readLine (wsV RX3 68 RX3 yX3_readHedges wsX3_readHedges) := goodIn_app (goodIn_of _ (by decide +kernel)) ggX3_readLine_X3_readHedges
set_option maxRecDepth 20000 in
theorem ggX3_readLine_X3_readGate : GoodIn wsX3_readLine wsX3_readGate := goodIn_r _ [148, 149, 77, 150, 7, 8, 9, 5, 10, 11, 78, 79, 80, 81, 82, 83, 84, 85, 20, 86, 22, 21, 1, 87, 88, 89, 90, 91, 92, 93, 94, 95, 96, 97, 98, 99, 100, 101, 102, 103, 104, 2, 3, 4, 6, 114, 115, 116, 117, 151, 152, 153, 154, 155, 156, 157, 158, 159, 160, 161, 162, 163, 164, 165, 166, 167, 168, 169, 170] (by decide +kernel) (by decide +kernel)
set_option maxRecDepth 20000 in
theorem gX3_readLine_X3_readGate : GoodIn wsX3_readLine (wsV RX3 73 RX3 yX3_readGate wsX3_readGate) := goodIn_app (goodIn_of _ (by decide +kernel)) ggX3_readLine_X3_readGate
set_option maxRecDepth 20000 in
theorem ggX3_readLine_X3_fail : GoodIn wsX3_readLine wsX3_fail := goodIn_r _ [10, 11, 151, 152, 153, 154, 155, 156, 157, 158] (by decide +kernel) (by decide +kernel)
set_option maxRecDepth 20000 in
theorem gX3_readLine_X3_fail : GoodIn wsX3_readLine (wsV RX3 76 RX3 yX3_fail wsX3_fail) := goodIn_app (goodIn_of _ (by decide +kernel)) ggX3_readLine_X3_fail
theorem dX3_readLine_0 : decode cX3_readLine 0 = .ok (.aload_n 0, 1) := by decide +kernel
theorem dX3_readLine_1 : decode cX3_readLine 1 = .ok (.getfield 25, 3) := by decide +kernel
theorem dX3_readLine_4 : decode cX3_readLine 4 = .ok (.iconst 1, 1) := by decide +kernel
theorem dX3_readLine_5 : decode cX3_readLine 5 = .ok (.if_icmp .eq 8, 3) := by decide +kernel
theorem dX3_readLine_8 : decode cX3_readLine 8 = .ok (.aload_n 0, 1) := by decide +kernel
theorem dX3_readLine_9 : decode cX3_readLine 9 = .ok (.invokevirtual 45, 3) := by decide +kernel
theorem dX3_readLine_12 : decode cX3_readLine 12 = .ok (.ireturn, 1) := by decide +kernel
theorem dX3_readLine_13 : decode cX3_readLine 13 = .ok (.aload_n 0, 1) := by decide +kernel
theorem dX3_readLine_14 : decode cX3_readLine 14 = .ok (.invokevirtual 49, 3) := by decide +kernel
theorem dX3_readLine_17 : decode cX3_readLine 17 = .ok (.istore_n 2, 1) := by decide +kernel
theorem dX3_readLine_18 : decode cX3_readLine 18 = .ok (.iload_n 2, 1) := by decide +kernel
theorem dX3_readLine_19 : decode cX3_readLine 19 = .ok (.ifCond .lt 10, 3) := by decide +kernel
theorem dX3_readLine_22 : decode cX3_readLine 22 = .ok (.aload_n 0, 1) := by decide +kernel
theorem dX3_readLine_23 : decode cX3_readLine 23 = .ok (.aload_n 1, 1) := by decide +kernel
theorem dX3_readLine_24 : decode cX3_readLine 24 = .ok (.iload_n 2, 1) := by decide +kernel
theorem dX3_readLine_25 : decode cX3_readLine 25 = .ok (.invokevirtual 53, 3) := by decide +kernel
theorem dX3_readLine_28 : decode cX3_readLine 28 = .ok (.ireturn, 1) := by decide +kernel
theorem dX3_readLine_29 : decode cX3_readLine 29 = .ok (.aload_n 0, 1) := by decide +kernel
theorem dX3_readLine_30 : decode cX3_readLine 30 = .ok (.ldc 57, 2) := by decide +kernel
theorem dX3_readLine_32 : decode cX3_readLine 32 = .ok (.invokevirtual 59, 3) := by decide +kernel
theorem dX3_readLine_35 : decode cX3_readLine 35 = .ok (.ifCond .eq 9, 3) := by decide +kernel
theorem dX3_readLine_38 : decode cX3_readLine 38 = .ok (.aload_n 0, 1) := by decide +kernel
theorem dX3_readLine_39 : decode cX3_readLine 39 = .ok (.aload_n 1, 1) := by decide +kernel
theorem dX3_readLine_40 : decode cX3_readLine 40 = .ok (.invokevirtual 63, 3) := by decide +kernel
theorem dX3_readLine_43 : decode cX3_readLine 43 = .ok (.ireturn, 1) := by decide +kernel
theorem dX3_readLine_44 : decode cX3_readLine 44 = .ok (.aload_n 0, 1) := by decide +kernel
theorem dX3_readLine_45 : decode cX3_readLine 45 = .ok (.ldc 66, 2) := by decide +kernel
theorem dX3_readLine_47 : decode cX3_readLine 47 = .ok (.invokevirtual 59, 3) := by decide +kernel
theorem dX3_readLine_50 : decode cX3_readLine 50 = .ok (.ifCond .eq 9, 3) := by decide +kernel
theorem dX3_readLine_53 : decode cX3_readLine 53 = .ok (.aload_n 0, 1) := by decide +kernel
theorem dX3_readLine_54 : decode cX3_readLine 54 = .ok (.aload_n 1, 1) := by decide +kernel
theorem dX3_readLine_55 : decode cX3_readLine 55 = .ok (.invokevirtual 68, 3) := by decide +kernel
theorem dX3_readLine_58 : decode cX3_readLine 58 = .ok (.ireturn, 1) := by decide +kernel
theorem dX3_readLine_59 : decode cX3_readLine 59 = .ok (.aload_n 0, 1) := by decide +kernel
theorem dX3_readLine_60 : decode cX3_readLine 60 = .ok (.ldc 71, 2) := by decide +kernel
theorem dX3_readLine_62 : decode cX3_readLine 62 = .ok (.invokevirtual 59, 3) := by decide +kernel
theorem dX3_readLine_65 : decode cX3_readLine 65 = .ok (.ifCond .eq 11, 3) := by decide +kernel
theorem dX3_readLine_68 : decode cX3_readLine 68 = .ok (.aload_n 0, 1) := by decide +kernel
theorem dX3_readLine_69 : decode cX3_readLine 69 = .ok (.aload_n 1, 1) := by decide +kernel
theorem dX3_readLine_70 : decode cX3_readLine 70 = .ok (.invokevirtual 73, 3) := by decide +kernel
theorem dX3_readLine_73 : decode cX3_readLine 73 = .ok (.goto 8, 3) := by decide +kernel
theorem dX3_readLine_76 : decode cX3_readLine 76 = .ok (.aload_n 0, 1) := by decide +kernel
theorem dX3_readLine_77 : decode cX3_readLine 77 = .ok (.iconst 2, 1) := by decide +kernel
theorem dX3_readLine_78 : decode cX3_readLine 78 = .ok (.invokevirtual 76, 3) := by decide +kernel
theorem dX3_readLine_81 : decode cX3_readLine 81 = .ok (.ireturn, 1) := by decide +kernel
set_option maxRecDepth 20000 in
theorem ggX3_readGardener_X3_fail : GoodIn wsX3_readGardener wsX3_fail := goodIn_r _ [7, 8, 69, 70, 71, 72, 73, 74, 75, 76] (by decide +kernel) (by decide +kernel)
set_option maxRecDepth 20000 in
theorem gX3_readGardener_X3_fail : GoodIn wsX3_readGardener (wsV RX3 76 RX3 yX3_fail wsX3_fail) := goodIn_app (goodIn_of _ (by decide +kernel)) ggX3_readGardener_X3_fail
set_option maxRecDepth 20000 in
theorem ggX3_readGardener_X3_takeNumber : GoodIn wsX3_readGardener wsX3_takeNumber := goodIn_r _ [12, 13, 14, 15, 6, 16, 17, 18, 19, 20, 21, 22, 23, 24, 25, 26, 27, 28, 29, 30, 31, 32, 33, 34, 35, 2, 36, 37, 38, 39, 40, 41, 42, 43, 3, 4, 5, 7, 8, 69, 70, 71, 72, 73, 74, 75, 76] (by decide +kernel) (by decide +kernel)
set_option maxRecDepth 20000 in
theorem gX3_readGardener_X3_takeNumber : GoodIn wsX3_readGardener (wsV RX3 85 RX3 yX3_takeNumber wsX3_takeNumber) := goodIn_app (goodIn_of _ (by decide +kernel)) ggX3_readGardener_X3_takeNumber
set_option maxRecDepth 20000 in
theorem ggX3_readGardener_X1_addGardener : GoodIn wsX3_readGardener wsX1_addGardener := goodIn_r _ [48, 49, 50, 51, 52, 57, 58, 59, 60, 61, 62, 63, 64, 65, 66, 67, 68] (by decide +kernel) (by decide +kernel)
set_option maxRecDepth 20000 in
theorem gX3_readGardener_X1_addGardener : GoodIn wsX3_readGardener (wsV RX3 88 RX1 yX1_addGardener wsX1_addGardener) := goodIn_app (goodIn_of _ (by decide +kernel)) ggX3_readGardener_X1_addGardener
set_option maxRecDepth 20000 in
theorem ggX3_readGardener_X3_takeSign : GoodIn wsX3_readGardener wsX3_takeSign := goodIn_r _ [56, 21, 13, 14, 15, 6, 16, 17, 18, 19, 20, 22, 23, 24, 25, 26, 27, 28, 29, 30, 31, 32, 33, 34, 35, 2, 40, 41, 42, 43, 3, 4, 5, 7, 8, 69, 70, 71, 72, 73, 74, 75, 76] (by decide +kernel) (by decide +kernel)
set_option maxRecDepth 20000 in
theorem gX3_readGardener_X3_takeSign : GoodIn wsX3_readGardener (wsV RX3 92 RX3 yX3_takeSign wsX3_takeSign) := goodIn_app (goodIn_of _ (by decide +kernel)) ggX3_readGardener_X3_takeSign
theorem dX3_readGardener_0 : decode cX3_readGardener 0 = .ok (.aload_n 1, 1) := by decide +kernel
theorem dX3_readGardener_1 : decode cX3_readGardener 1 = .ok (.getfield 80, 3) := by decide +kernel
theorem dX3_readGardener_4 : decode cX3_readGardener 4 = .ok (.iconst 4, 1) := by decide +kernel
theorem dX3_readGardener_5 : decode cX3_readGardener 5 = .ok (.if_icmp .lt 9, 3) := by decide +kernel
theorem dX3_readGardener_8 : decode cX3_readGardener 8 = .ok (.aload_n 0, 1) := by decide +kernel
theorem dX3_readGardener_9 : decode cX3_readGardener 9 = .ok (.iconst 5, 1) := by decide +kernel
theorem dX3_readGardener_10 : decode cX3_readGardener 10 = .ok (.invokevirtual 76, 3) := by decide +kernel
theorem dX3_readGardener_13 : decode cX3_readGardener 13 = .ok (.ireturn, 1) := by decide +kernel
theorem dX3_readGardener_14 : decode cX3_readGardener 14 = .ok (.aload_n 0, 1) := by decide +kernel
theorem dX3_readGardener_15 : decode cX3_readGardener 15 = .ok (.bipush 23, 2) := by decide +kernel
theorem dX3_readGardener_17 : decode cX3_readGardener 17 = .ok (.invokevirtual 85, 3) := by decide +kernel
theorem dX3_readGardener_20 : decode cX3_readGardener 20 = .ok (.ifCond .ne 5, 3) := by decide +kernel
theorem dX3_readGardener_23 : decode cX3_readGardener 23 = .ok (.iconst 0, 1) := by decide +kernel
theorem dX3_readGardener_24 : decode cX3_readGardener 24 = .ok (.ireturn, 1) := by decide +kernel
theorem dX3_readGardener_25 : decode cX3_readGardener 25 = .ok (.aload_n 0, 1) := by decide +kernel
theorem dX3_readGardener_26 : decode cX3_readGardener 26 = .ok (.getfield 28, 3) := by decide +kernel
theorem dX3_readGardener_29 : decode cX3_readGardener 29 = .ok (.istore_n 3, 1) := by decide +kernel
theorem dX3_readGardener_30 : decode cX3_readGardener 30 = .ok (.aload_n 0, 1) := by decide +kernel
theorem dX3_readGardener_31 : decode cX3_readGardener 31 = .ok (.bipush 9, 2) := by decide +kernel
theorem dX3_readGardener_33 : decode cX3_readGardener 33 = .ok (.invokevirtual 85, 3) := by decide +kernel
theorem dX3_readGardener_36 : decode cX3_readGardener 36 = .ok (.ifCond .eq 27, 3) := by decide +kernel
theorem dX3_readGardener_39 : decode cX3_readGardener 39 = .ok (.aload_n 1, 1) := by decide +kernel
theorem dX3_readGardener_40 : decode cX3_readGardener 40 = .ok (.iload_n 2, 1) := by decide +kernel
theorem dX3_readGardener_41 : decode cX3_readGardener 41 = .ok (.iload_n 3, 1) := by decide +kernel
theorem dX3_readGardener_42 : decode cX3_readGardener 42 = .ok (.aload_n 0, 1) := by decide +kernel
theorem dX3_readGardener_43 : decode cX3_readGardener 43 = .ok (.getfield 28, 3) := by decide +kernel
theorem dX3_readGardener_46 : decode cX3_readGardener 46 = .ok (.invokevirtual 88, 3) := by decide +kernel
theorem dX3_readGardener_49 : decode cX3_readGardener 49 = .ok (.ifCond .eq 14, 3) := by decide +kernel
theorem dX3_readGardener_52 : decode cX3_readGardener 52 = .ok (.aload_n 0, 1) := by decide +kernel
theorem dX3_readGardener_53 : decode cX3_readGardener 53 = .ok (.invokevirtual 92, 3) := by decide +kernel
theorem dX3_readGardener_56 : decode cX3_readGardener 56 = .ok (.ifCond .eq 7, 3) := by decide +kernel
theorem dX3_readGardener_59 : decode cX3_readGardener 59 = .ok (.iconst 1, 1) := by decide +kernel
theorem dX3_readGardener_60 : decode cX3_readGardener 60 = .ok (.goto 4, 3) := by decide +kernel
theorem dX3_readGardener_63 : decode cX3_readGardener 63 = .ok (.iconst 0, 1) := by decide +kernel
theorem dX3_readGardener_64 : decode cX3_readGardener 64 = .ok (.ireturn, 1) := by decide +kernel
set_option maxRecDepth 20000 in
theorem ggX3_readGuest_X3_fail : GoodIn wsX3_readGuest wsX3_fail := goodIn_r _ [7, 8, 69, 70, 71, 72, 73, 74, 75, 76] (by decide +kernel) (by decide +kernel)
set_option maxRecDepth 20000 in
theorem gX3_readGuest_X3_fail : GoodIn wsX3_readGuest (wsV RX3 76 RX3 yX3_fail wsX3_fail) := goodIn_app (goodIn_of _ (by decide +kernel)) ggX3_readGuest_X3_fail
set_option maxRecDepth 20000 in
theorem ggX3_readGuest_X3_takeNumber : GoodIn wsX3_readGuest wsX3_takeNumber := goodIn_r _ [12, 13, 14, 15, 6, 16, 17, 18, 19, 20, 21, 22, 23, 24, 25, 26, 27, 28, 29, 30, 31, 32, 33, 34, 35, 2, 36, 37, 38, 39, 40, 41, 42, 43, 3, 4, 5, 7, 8, 69, 70, 71, 72, 73, 74, 75, 76] (by decide +kernel) (by decide +kernel)
set_option maxRecDepth 20000 in
theorem gX3_readGuest_X3_takeNumber : GoodIn wsX3_readGuest (wsV RX3 85 RX3 yX3_takeNumber wsX3_takeNumber) := goodIn_app (goodIn_of _ (by decide +kernel)) ggX3_readGuest_X3_takeNumber
set_option maxRecDepth 20000 in
theorem ggX3_readGuest_X1_addGuest : GoodIn wsX3_readGuest wsX1_addGuest := goodIn_r _ [48, 49, 50, 51, 52, 57, 58, 59, 60, 61, 62, 63, 64, 65, 66, 67, 68] (by decide +kernel) (by decide +kernel)
set_option maxRecDepth 20000 in
theorem gX3_readGuest_X1_addGuest : GoodIn wsX3_readGuest (wsV RX3 98 RX1 yX1_addGuest wsX1_addGuest) := goodIn_app (goodIn_of _ (by decide +kernel)) ggX3_readGuest_X1_addGuest
set_option maxRecDepth 20000 in
theorem ggX3_readGuest_X3_takeSign : GoodIn wsX3_readGuest wsX3_takeSign := goodIn_r _ [56, 21, 13, 14, 15, 6, 16, 17, 18, 19, 20, 22, 23, 24, 25, 26, 27, 28, 29, 30, 31, 32, 33, 34, 35, 2, 40, 41, 42, 43, 3, 4, 5, 7, 8, 69, 70, 71, 72, 73, 74, 75, 76] (by decide +kernel) (by decide +kernel)
set_option maxRecDepth 20000 in
theorem gX3_readGuest_X3_takeSign : GoodIn wsX3_readGuest (wsV RX3 92 RX3 yX3_takeSign wsX3_takeSign) := goodIn_app (goodIn_of _ (by decide +kernel)) ggX3_readGuest_X3_takeSign
theorem dX3_readGuest_0 : decode cX3_readGuest 0 = .ok (.aload_n 1, 1) := by decide +kernel
theorem dX3_readGuest_1 : decode cX3_readGuest 1 = .ok (.getfield 95, 3) := by decide +kernel
theorem dX3_readGuest_4 : decode cX3_readGuest 4 = .ok (.iconst 4, 1) := by decide +kernel
theorem dX3_readGuest_5 : decode cX3_readGuest 5 = .ok (.if_icmp .lt 9, 3) := by decide +kernel
theorem dX3_readGuest_8 : decode cX3_readGuest 8 = .ok (.aload_n 0, 1) := by decide +kernel
theorem dX3_readGuest_9 : decode cX3_readGuest 9 = .ok (.iconst 5, 1) := by decide +kernel
theorem dX3_readGuest_10 : decode cX3_readGuest 10 = .ok (.invokevirtual 76, 3) := by decide +kernel
theorem dX3_readGuest_13 : decode cX3_readGuest 13 = .ok (.ireturn, 1) := by decide +kernel
theorem dX3_readGuest_14 : decode cX3_readGuest 14 = .ok (.aload_n 0, 1) := by decide +kernel
theorem dX3_readGuest_15 : decode cX3_readGuest 15 = .ok (.bipush 15, 2) := by decide +kernel
theorem dX3_readGuest_17 : decode cX3_readGuest 17 = .ok (.invokevirtual 85, 3) := by decide +kernel
theorem dX3_readGuest_20 : decode cX3_readGuest 20 = .ok (.ifCond .ne 5, 3) := by decide +kernel
theorem dX3_readGuest_23 : decode cX3_readGuest 23 = .ok (.iconst 0, 1) := by decide +kernel
theorem dX3_readGuest_24 : decode cX3_readGuest 24 = .ok (.ireturn, 1) := by decide +kernel
theorem dX3_readGuest_25 : decode cX3_readGuest 25 = .ok (.aload_n 0, 1) := by decide +kernel
theorem dX3_readGuest_26 : decode cX3_readGuest 26 = .ok (.getfield 28, 3) := by decide +kernel
theorem dX3_readGuest_29 : decode cX3_readGuest 29 = .ok (.istore_n 2, 1) := by decide +kernel
theorem dX3_readGuest_30 : decode cX3_readGuest 30 = .ok (.aload_n 0, 1) := by decide +kernel
theorem dX3_readGuest_31 : decode cX3_readGuest 31 = .ok (.bipush 60, 2) := by decide +kernel
theorem dX3_readGuest_33 : decode cX3_readGuest 33 = .ok (.invokevirtual 85, 3) := by decide +kernel
theorem dX3_readGuest_36 : decode cX3_readGuest 36 = .ok (.ifCond .eq 26, 3) := by decide +kernel
theorem dX3_readGuest_39 : decode cX3_readGuest 39 = .ok (.aload_n 1, 1) := by decide +kernel
theorem dX3_readGuest_40 : decode cX3_readGuest 40 = .ok (.iload_n 2, 1) := by decide +kernel
theorem dX3_readGuest_41 : decode cX3_readGuest 41 = .ok (.aload_n 0, 1) := by decide +kernel
theorem dX3_readGuest_42 : decode cX3_readGuest 42 = .ok (.getfield 28, 3) := by decide +kernel
theorem dX3_readGuest_45 : decode cX3_readGuest 45 = .ok (.invokevirtual 98, 3) := by decide +kernel
theorem dX3_readGuest_48 : decode cX3_readGuest 48 = .ok (.ifCond .eq 14, 3) := by decide +kernel
theorem dX3_readGuest_51 : decode cX3_readGuest 51 = .ok (.aload_n 0, 1) := by decide +kernel
theorem dX3_readGuest_52 : decode cX3_readGuest 52 = .ok (.invokevirtual 92, 3) := by decide +kernel
theorem dX3_readGuest_55 : decode cX3_readGuest 55 = .ok (.ifCond .eq 7, 3) := by decide +kernel
theorem dX3_readGuest_58 : decode cX3_readGuest 58 = .ok (.iconst 1, 1) := by decide +kernel
theorem dX3_readGuest_59 : decode cX3_readGuest 59 = .ok (.goto 4, 3) := by decide +kernel
theorem dX3_readGuest_62 : decode cX3_readGuest 62 = .ok (.iconst 0, 1) := by decide +kernel
theorem dX3_readGuest_63 : decode cX3_readGuest 63 = .ok (.ireturn, 1) := by decide +kernel
set_option maxRecDepth 20000 in
theorem ggX3_readHedges_X3_takeToken : GoodIn wsX3_readHedges wsX3_takeToken := goodIn_r _ [8, 9, 10, 11, 12, 1, 13, 14, 7, 15, 16, 17, 18, 19, 20, 21, 22, 23, 24, 25, 26, 2, 50, 51, 52, 53, 54, 55, 56, 57] (by decide +kernel) (by decide +kernel)
set_option maxRecDepth 20000 in
theorem gX3_readHedges_X3_takeToken : GoodIn wsX3_readHedges (wsV RX3 38 RX3 yX3_takeToken wsX3_takeToken) := goodIn_app (goodIn_of _ (by decide +kernel)) ggX3_readHedges_X3_takeToken
set_option maxRecDepth 20000 in
theorem ggX3_readHedges_X3_isNumberTo : GoodIn wsX3_readHedges wsX3_isNumberTo := goodIn_r _ [30, 1, 2, 31, 32, 33, 7, 34, 35, 36, 37, 38, 39, 50, 51, 52, 53, 54, 55, 56, 57] (by decide +kernel) (by decide +kernel)
set_option maxRecDepth 20000 in
theorem gX3_readHedges_X3_isNumberTo : GoodIn wsX3_readHedges (wsV RX3 102 RX3 yX3_isNumberTo wsX3_isNumberTo) := goodIn_app (goodIn_of _ (by decide +kernel)) ggX3_readHedges_X3_isNumberTo
set_option maxRecDepth 20000 in
theorem ggX3_readHedges_X1_standing : GoodIn wsX3_readHedges wsX1_standing := goodIn_r _ [44, 45, 58, 59, 60, 61, 62, 63, 64, 65, 66, 67, 68, 69] (by decide +kernel) (by decide +kernel)
set_option maxRecDepth 20000 in
theorem gX3_readHedges_X1_standing : GoodIn wsX3_readHedges (wsV RX3 105 RX1 yX1_standing wsX1_standing) := goodIn_app (goodIn_of _ (by decide +kernel)) ggX3_readHedges_X1_standing
set_option maxRecDepth 20000 in
theorem ggX3_readHedges_X3_fail : GoodIn wsX3_readHedges wsX3_fail := goodIn_r _ [38, 39, 50, 51, 52, 53, 54, 55, 56, 57] (by decide +kernel) (by decide +kernel)
set_option maxRecDepth 20000 in
theorem gX3_readHedges_X3_fail : GoodIn wsX3_readHedges (wsV RX3 76 RX3 yX3_fail wsX3_fail) := goodIn_app (goodIn_of _ (by decide +kernel)) ggX3_readHedges_X3_fail
set_option maxRecDepth 20000 in
theorem ggX3_readHedges_X2_with : GoodIn wsX3_readHedges wsX2_with := goodIn_r _ [49] (by decide +kernel) (by decide +kernel)
set_option maxRecDepth 20000 in
theorem gX3_readHedges_X2_with : GoodIn wsX3_readHedges (va_wsS RX3 112 yX2_with wsX2_with) := goodIn_app (goodIn_of _ (by decide +kernel)) ggX3_readHedges_X2_with
theorem dX3_readHedges_0 : decode cX3_readHedges 0 = .ok (.iconst 0, 1) := by decide +kernel
theorem dX3_readHedges_1 : decode cX3_readHedges 1 = .ok (.istore_n 2, 1) := by decide +kernel
theorem dX3_readHedges_2 : decode cX3_readHedges 2 = .ok (.iload_n 2, 1) := by decide +kernel
theorem dX3_readHedges_3 : decode cX3_readHedges 3 = .ok (.sipush 160, 3) := by decide +kernel
theorem dX3_readHedges_6 : decode cX3_readHedges 6 = .ok (.if_icmp .gt 68, 3) := by decide +kernel
theorem dX3_readHedges_9 : decode cX3_readHedges 9 = .ok (.aload_n 0, 1) := by decide +kernel
theorem dX3_readHedges_10 : decode cX3_readHedges 10 = .ok (.invokevirtual 38, 3) := by decide +kernel
theorem dX3_readHedges_13 : decode cX3_readHedges 13 = .ok (.aload_n 0, 1) := by decide +kernel
theorem dX3_readHedges_14 : decode cX3_readHedges 14 = .ok (.getfield 25, 3) := by decide +kernel
theorem dX3_readHedges_17 : decode cX3_readHedges 17 = .ok (.iconst 3, 1) := by decide +kernel
theorem dX3_readHedges_18 : decode cX3_readHedges 18 = .ok (.if_icmp .ne 5, 3) := by decide +kernel
theorem dX3_readHedges_21 : decode cX3_readHedges 21 = .ok (.iconst 1, 1) := by decide +kernel
theorem dX3_readHedges_22 : decode cX3_readHedges 22 = .ok (.ireturn, 1) := by decide +kernel
theorem dX3_readHedges_23 : decode cX3_readHedges 23 = .ok (.aload_n 0, 1) := by decide +kernel
theorem dX3_readHedges_24 : decode cX3_readHedges 24 = .ok (.bipush 23, 2) := by decide +kernel
theorem dX3_readHedges_26 : decode cX3_readHedges 26 = .ok (.invokevirtual 102, 3) := by decide +kernel
theorem dX3_readHedges_29 : decode cX3_readHedges 29 = .ok (.ifCond .ne 5, 3) := by decide +kernel
theorem dX3_readHedges_32 : decode cX3_readHedges 32 = .ok (.iconst 0, 1) := by decide +kernel
theorem dX3_readHedges_33 : decode cX3_readHedges 33 = .ok (.ireturn, 1) := by decide +kernel
theorem dX3_readHedges_34 : decode cX3_readHedges 34 = .ok (.aload_n 1, 1) := by decide +kernel
theorem dX3_readHedges_35 : decode cX3_readHedges 35 = .ok (.aload_n 0, 1) := by decide +kernel
theorem dX3_readHedges_36 : decode cX3_readHedges 36 = .ok (.getfield 28, 3) := by decide +kernel
theorem dX3_readHedges_39 : decode cX3_readHedges 39 = .ok (.invokevirtual 105, 3) := by decide +kernel
theorem dX3_readHedges_42 : decode cX3_readHedges 42 = .ok (.iconst 1, 1) := by decide +kernel
theorem dX3_readHedges_43 : decode cX3_readHedges 43 = .ok (.if_icmp .ne 9, 3) := by decide +kernel
theorem dX3_readHedges_46 : decode cX3_readHedges 46 = .ok (.aload_n 0, 1) := by decide +kernel
theorem dX3_readHedges_47 : decode cX3_readHedges 47 = .ok (.iconst 4, 1) := by decide +kernel
theorem dX3_readHedges_48 : decode cX3_readHedges 48 = .ok (.invokevirtual 76, 3) := by decide +kernel
theorem dX3_readHedges_51 : decode cX3_readHedges 51 = .ok (.ireturn, 1) := by decide +kernel
theorem dX3_readHedges_52 : decode cX3_readHedges 52 = .ok (.aload_n 1, 1) := by decide +kernel
theorem dX3_readHedges_53 : decode cX3_readHedges 53 = .ok (.aload_n 1, 1) := by decide +kernel
theorem dX3_readHedges_54 : decode cX3_readHedges 54 = .ok (.getfield 109, 3) := by decide +kernel
theorem dX3_readHedges_57 : decode cX3_readHedges 57 = .ok (.aload_n 0, 1) := by decide +kernel
theorem dX3_readHedges_58 : decode cX3_readHedges 58 = .ok (.getfield 28, 3) := by decide +kernel
theorem dX3_readHedges_61 : decode cX3_readHedges 61 = .ok (.iconst 1, 1) := by decide +kernel
theorem dX3_readHedges_62 : decode cX3_readHedges 62 = .ok (.invokestatic 112, 3) := by decide +kernel
theorem dX3_readHedges_65 : decode cX3_readHedges 65 = .ok (.putfield 109, 3) := by decide +kernel
theorem dX3_readHedges_68 : decode cX3_readHedges 68 = .ok (.iinc 2 1, 3) := by decide +kernel
theorem dX3_readHedges_71 : decode cX3_readHedges 71 = .ok (.goto (-69), 3) := by decide +kernel
theorem dX3_readHedges_74 : decode cX3_readHedges 74 = .ok (.aload_n 0, 1) := by decide +kernel
theorem dX3_readHedges_75 : decode cX3_readHedges 75 = .ok (.iconst 2, 1) := by decide +kernel
theorem dX3_readHedges_76 : decode cX3_readHedges 76 = .ok (.invokevirtual 76, 3) := by decide +kernel
theorem dX3_readHedges_79 : decode cX3_readHedges 79 = .ok (.ireturn, 1) := by decide +kernel
set_option maxRecDepth 20000 in
theorem ggX3_readGate_X3_fail : GoodIn wsX3_readGate wsX3_fail := goodIn_r _ [8, 9, 49, 50, 51, 52, 53, 54, 55, 56] (by decide +kernel) (by decide +kernel)
set_option maxRecDepth 20000 in
theorem gX3_readGate_X3_fail : GoodIn wsX3_readGate (wsV RX3 76 RX3 yX3_fail wsX3_fail) := goodIn_app (goodIn_of _ (by decide +kernel)) ggX3_readGate_X3_fail
set_option maxRecDepth 20000 in
theorem ggX3_readGate_X3_takeNumber : GoodIn wsX3_readGate wsX3_takeNumber := goodIn_r _ [13, 14, 15, 16, 7, 17, 18, 19, 20, 21, 22, 23, 24, 25, 26, 27, 28, 29, 30, 31, 32, 33, 34, 35, 36, 2, 37, 38, 39, 40, 41, 42, 43, 44, 4, 5, 6, 8, 9, 49, 50, 51, 52, 53, 54, 55, 56] (by decide +kernel) (by decide +kernel)
set_option maxRecDepth 20000 in
theorem gX3_readGate_X3_takeNumber : GoodIn wsX3_readGate (wsV RX3 85 RX3 yX3_takeNumber wsX3_takeNumber) := goodIn_app (goodIn_of _ (by decide +kernel)) ggX3_readGate_X3_takeNumber
set_option maxRecDepth 20000 in
theorem ggX3_readGate_X3_takeSign : GoodIn wsX3_readGate wsX3_takeSign := goodIn_r _ [48, 22, 14, 15, 16, 7, 17, 18, 19, 20, 21, 23, 24, 25, 26, 27, 28, 29, 30, 31, 32, 33, 34, 35, 36, 2, 41, 42, 43, 44, 4, 5, 6, 8, 9, 49, 50, 51, 52, 53, 54, 55, 56] (by decide +kernel) (by decide +kernel)
set_option maxRecDepth 20000 in
theorem gX3_readGate_X3_takeSign : GoodIn wsX3_readGate (wsV RX3 92 RX3 yX3_takeSign wsX3_takeSign) := goodIn_app (goodIn_of _ (by decide +kernel)) ggX3_readGate_X3_takeSign
theorem dX3_readGate_0 : decode cX3_readGate 0 = .ok (.aload_n 0, 1) := by decide +kernel
theorem dX3_readGate_1 : decode cX3_readGate 1 = .ok (.getfield 34, 3) := by decide +kernel
theorem dX3_readGate_4 : decode cX3_readGate 4 = .ok (.ifCond .eq 9, 3) := by decide +kernel
theorem dX3_readGate_7 : decode cX3_readGate 7 = .ok (.aload_n 0, 1) := by decide +kernel
theorem dX3_readGate_8 : decode cX3_readGate 8 = .ok (.iconst 4, 1) := by decide +kernel
theorem dX3_readGate_9 : decode cX3_readGate 9 = .ok (.invokevirtual 76, 3) := by decide +kernel
theorem dX3_readGate_12 : decode cX3_readGate 12 = .ok (.ireturn, 1) := by decide +kernel
theorem dX3_readGate_13 : decode cX3_readGate 13 = .ok (.aload_n 0, 1) := by decide +kernel
theorem dX3_readGate_14 : decode cX3_readGate 14 = .ok (.bipush 15, 2) := by decide +kernel
theorem dX3_readGate_16 : decode cX3_readGate 16 = .ok (.invokevirtual 85, 3) := by decide +kernel
theorem dX3_readGate_19 : decode cX3_readGate 19 = .ok (.ifCond .ne 5, 3) := by decide +kernel
theorem dX3_readGate_22 : decode cX3_readGate 22 = .ok (.iconst 0, 1) := by decide +kernel
theorem dX3_readGate_23 : decode cX3_readGate 23 = .ok (.ireturn, 1) := by decide +kernel
theorem dX3_readGate_24 : decode cX3_readGate 24 = .ok (.aload_n 0, 1) := by decide +kernel
theorem dX3_readGate_25 : decode cX3_readGate 25 = .ok (.iconst 1, 1) := by decide +kernel
theorem dX3_readGate_26 : decode cX3_readGate 26 = .ok (.putfield 34, 3) := by decide +kernel
theorem dX3_readGate_29 : decode cX3_readGate 29 = .ok (.aload_n 1, 1) := by decide +kernel
theorem dX3_readGate_30 : decode cX3_readGate 30 = .ok (.aload_n 0, 1) := by decide +kernel
theorem dX3_readGate_31 : decode cX3_readGate 31 = .ok (.getfield 28, 3) := by decide +kernel
theorem dX3_readGate_34 : decode cX3_readGate 34 = .ok (.putfield 118, 3) := by decide +kernel
theorem dX3_readGate_37 : decode cX3_readGate 37 = .ok (.aload_n 0, 1) := by decide +kernel
theorem dX3_readGate_38 : decode cX3_readGate 38 = .ok (.invokevirtual 92, 3) := by decide +kernel
theorem dX3_readGate_41 : decode cX3_readGate 41 = .ok (.ireturn, 1) := by decide +kernel
set_option maxRecDepth 20000 in
theorem ggX3_takeNumber_X3_takeToken : GoodIn wsX3_takeNumber wsX3_takeToken := goodIn_r _ [5, 6, 7, 8, 9, 10, 11, 12, 4, 13, 14, 15, 16, 17, 18, 19, 20, 21, 22, 23, 24, 25, 39, 40, 41, 42, 43, 44, 45, 46] (by decide +kernel) (by decide +kernel)
set_option maxRecDepth 20000 in
theorem gX3_takeNumber_X3_takeToken : GoodIn wsX3_takeNumber (wsV RX3 38 RX3 yX3_takeToken wsX3_takeToken) := goodIn_app (goodIn_of _ (by decide +kernel)) ggX3_takeNumber_X3_takeToken
set_option maxRecDepth 20000 in
theorem ggX3_takeNumber_X3_isNumberTo : GoodIn wsX3_takeNumber wsX3_isNumberTo := goodIn_r _ [29, 10, 25, 30, 31, 32, 4, 33, 34, 35, 36, 37, 38, 39, 40, 41, 42, 43, 44, 45, 46] (by decide +kernel) (by decide +kernel)
set_option maxRecDepth 20000 in
theorem gX3_takeNumber_X3_isNumberTo : GoodIn wsX3_takeNumber (wsV RX3 102 RX3 yX3_isNumberTo wsX3_isNumberTo) := goodIn_app (goodIn_of _ (by decide +kernel)) ggX3_takeNumber_X3_isNumberTo
theorem dX3_takeNumber_0 : decode cX3_takeNumber 0 = .ok (.aload_n 0, 1) := by decide +kernel
theorem dX3_takeNumber_1 : decode cX3_takeNumber 1 = .ok (.invokevirtual 38, 3) := by decide +kernel
theorem dX3_takeNumber_4 : decode cX3_takeNumber 4 = .ok (.aload_n 0, 1) := by decide +kernel
theorem dX3_takeNumber_5 : decode cX3_takeNumber 5 = .ok (.iload_n 1, 1) := by decide +kernel
theorem dX3_takeNumber_6 : decode cX3_takeNumber 6 = .ok (.invokevirtual 102, 3) := by decide +kernel
theorem dX3_takeNumber_9 : decode cX3_takeNumber 9 = .ok (.ireturn, 1) := by decide +kernel
set_option maxRecDepth 20000 in
theorem ggX3_isNumberTo_X3_failAtToken : GoodIn wsX3_isNumberTo wsX3_failAtToken := goodIn_r _ [7, 1, 8, 9, 10, 6, 11, 12, 13, 14, 15, 16, 17, 18, 19, 20] (by decide +kernel) (by decide +kernel)
set_option maxRecDepth 20000 in
theorem gX3_isNumberTo_X3_failAtToken : GoodIn wsX3_isNumberTo (wsV RX3 45 RX3 yX3_failAtToken wsX3_failAtToken) := goodIn_app (goodIn_of _ (by decide +kernel)) ggX3_isNumberTo_X3_failAtToken
set_option maxRecDepth 20000 in
theorem ggX3_isNumberTo_X3_fail : GoodIn wsX3_isNumberTo wsX3_fail := goodIn_r _ [11, 12, 13, 14, 15, 16, 17, 18, 19, 20] (by decide +kernel) (by decide +kernel)
set_option maxRecDepth 20000 in
theorem gX3_isNumberTo_X3_fail : GoodIn wsX3_isNumberTo (wsV RX3 76 RX3 yX3_fail wsX3_fail) := goodIn_app (goodIn_of _ (by decide +kernel)) ggX3_isNumberTo_X3_fail
theorem dX3_isNumberTo_0 : decode cX3_isNumberTo 0 = .ok (.aload_n 0, 1) := by decide +kernel
theorem dX3_isNumberTo_1 : decode cX3_isNumberTo 1 = .ok (.getfield 25, 3) := by decide +kernel
theorem dX3_isNumberTo_4 : decode cX3_isNumberTo 4 = .ok (.iconst 2, 1) := by decide +kernel
theorem dX3_isNumberTo_5 : decode cX3_isNumberTo 5 = .ok (.if_icmp .eq 8, 3) := by decide +kernel
theorem dX3_isNumberTo_8 : decode cX3_isNumberTo 8 = .ok (.aload_n 0, 1) := by decide +kernel
theorem dX3_isNumberTo_9 : decode cX3_isNumberTo 9 = .ok (.invokevirtual 45, 3) := by decide +kernel
theorem dX3_isNumberTo_12 : decode cX3_isNumberTo 12 = .ok (.ireturn, 1) := by decide +kernel
theorem dX3_isNumberTo_13 : decode cX3_isNumberTo 13 = .ok (.aload_n 0, 1) := by decide +kernel
theorem dX3_isNumberTo_14 : decode cX3_isNumberTo 14 = .ok (.getfield 28, 3) := by decide +kernel
theorem dX3_isNumberTo_17 : decode cX3_isNumberTo 17 = .ok (.iload_n 1, 1) := by decide +kernel
theorem dX3_isNumberTo_18 : decode cX3_isNumberTo 18 = .ok (.if_icmp .le 11, 3) := by decide +kernel
theorem dX3_isNumberTo_21 : decode cX3_isNumberTo 21 = .ok (.aload_n 0, 1) := by decide +kernel
theorem dX3_isNumberTo_22 : decode cX3_isNumberTo 22 = .ok (.iconst 3, 1) := by decide +kernel
theorem dX3_isNumberTo_23 : decode cX3_isNumberTo 23 = .ok (.invokevirtual 76, 3) := by decide +kernel
theorem dX3_isNumberTo_26 : decode cX3_isNumberTo 26 = .ok (.ifCond .eq 7, 3) := by decide +kernel
theorem dX3_isNumberTo_29 : decode cX3_isNumberTo 29 = .ok (.iconst 1, 1) := by decide +kernel
theorem dX3_isNumberTo_30 : decode cX3_isNumberTo 30 = .ok (.goto 4, 3) := by decide +kernel
theorem dX3_isNumberTo_33 : decode cX3_isNumberTo 33 = .ok (.iconst 0, 1) := by decide +kernel
theorem dX3_isNumberTo_34 : decode cX3_isNumberTo 34 = .ok (.ireturn, 1) := by decide +kernel
set_option maxRecDepth 20000 in
theorem ggX3_takeSign_X3_takeToken : GoodIn wsX3_takeSign wsX3_takeToken := goodIn_r _ [6, 7, 8, 9, 10, 1, 11, 12, 5, 13, 14, 15, 16, 17, 18, 19, 20, 21, 22, 23, 24, 25, 35, 36, 37, 38, 39, 40, 41, 42] (by decide +kernel) (by decide +kernel)
set_option maxRecDepth 20000 in
theorem gX3_takeSign_X3_takeToken : GoodIn wsX3_takeSign (wsV RX3 38 RX3 yX3_takeToken wsX3_takeToken) := goodIn_app (goodIn_of _ (by decide +kernel)) ggX3_takeSign_X3_takeToken
set_option maxRecDepth 20000 in
theorem ggX3_takeSign_X3_failAtToken : GoodIn wsX3_takeSign wsX3_failAtToken := goodIn_r _ [29, 1, 30, 31, 32, 5, 33, 34, 35, 36, 37, 38, 39, 40, 41, 42] (by decide +kernel) (by decide +kernel)
set_option maxRecDepth 20000 in
theorem gX3_takeSign_X3_failAtToken : GoodIn wsX3_takeSign (wsV RX3 45 RX3 yX3_failAtToken wsX3_failAtToken) := goodIn_app (goodIn_of _ (by decide +kernel)) ggX3_takeSign_X3_failAtToken
theorem dX3_takeSign_0 : decode cX3_takeSign 0 = .ok (.aload_n 0, 1) := by decide +kernel
theorem dX3_takeSign_1 : decode cX3_takeSign 1 = .ok (.invokevirtual 38, 3) := by decide +kernel
theorem dX3_takeSign_4 : decode cX3_takeSign 4 = .ok (.aload_n 0, 1) := by decide +kernel
theorem dX3_takeSign_5 : decode cX3_takeSign 5 = .ok (.getfield 25, 3) := by decide +kernel
theorem dX3_takeSign_8 : decode cX3_takeSign 8 = .ok (.iconst 3, 1) := by decide +kernel
theorem dX3_takeSign_9 : decode cX3_takeSign 9 = .ok (.if_icmp .eq 10, 3) := by decide +kernel
theorem dX3_takeSign_12 : decode cX3_takeSign 12 = .ok (.aload_n 0, 1) := by decide +kernel
theorem dX3_takeSign_13 : decode cX3_takeSign 13 = .ok (.invokevirtual 45, 3) := by decide +kernel
theorem dX3_takeSign_16 : decode cX3_takeSign 16 = .ok (.ifCond .eq 7, 3) := by decide +kernel
theorem dX3_takeSign_19 : decode cX3_takeSign 19 = .ok (.iconst 1, 1) := by decide +kernel
theorem dX3_takeSign_20 : decode cX3_takeSign 20 = .ok (.goto 4, 3) := by decide +kernel
theorem dX3_takeSign_23 : decode cX3_takeSign 23 = .ok (.iconst 0, 1) := by decide +kernel
theorem dX3_takeSign_24 : decode cX3_takeSign 24 = .ok (.ireturn, 1) := by decide +kernel
set_option maxRecDepth 20000 in
theorem ggX3_failAtToken_X3_fail : GoodIn wsX3_failAtToken wsX3_fail := goodIn_r _ [6, 7, 8, 9, 10, 11, 12, 13, 14, 15] (by decide +kernel) (by decide +kernel)
set_option maxRecDepth 20000 in
theorem gX3_failAtToken_X3_fail : GoodIn wsX3_failAtToken (wsV RX3 76 RX3 yX3_fail wsX3_fail) := goodIn_app (goodIn_of _ (by decide +kernel)) ggX3_failAtToken_X3_fail
theorem dX3_failAtToken_0 : decode cX3_failAtToken 0 = .ok (.aload_n 0, 1) := by decide +kernel
theorem dX3_failAtToken_1 : decode cX3_failAtToken 1 = .ok (.aload_n 0, 1) := by decide +kernel
theorem dX3_failAtToken_2 : decode cX3_failAtToken 2 = .ok (.getfield 25, 3) := by decide +kernel
theorem dX3_failAtToken_5 : decode cX3_failAtToken 5 = .ok (.ifCond .ne 7, 3) := by decide +kernel
theorem dX3_failAtToken_8 : decode cX3_failAtToken 8 = .ok (.iconst 1, 1) := by decide +kernel
theorem dX3_failAtToken_9 : decode cX3_failAtToken 9 = .ok (.goto 4, 3) := by decide +kernel
theorem dX3_failAtToken_12 : decode cX3_failAtToken 12 = .ok (.iconst 2, 1) := by decide +kernel
theorem dX3_failAtToken_13 : decode cX3_failAtToken 13 = .ok (.invokevirtual 76, 3) := by decide +kernel
theorem dX3_failAtToken_16 : decode cX3_failAtToken 16 = .ok (.ireturn, 1) := by decide +kernel
theorem dX3_fail_0 : decode cX3_fail 0 = .ok (.aload_n 0, 1) := by decide +kernel
theorem dX3_fail_1 : decode cX3_fail 1 = .ok (.iload_n 1, 1) := by decide +kernel
theorem dX3_fail_2 : decode cX3_fail 2 = .ok (.putfield 31, 3) := by decide +kernel
theorem dX3_fail_5 : decode cX3_fail 5 = .ok (.iconst 0, 1) := by decide +kernel
theorem dX3_fail_6 : decode cX3_fail 6 = .ok (.ireturn, 1) := by decide +kernel
set_option maxRecDepth 20000 in
theorem ggX3_takeToken_X3_isLetter : GoodIn wsX3_takeToken wsX3_isLetter := goodIn_r _ [9] (by decide +kernel) (by decide +kernel)
set_option maxRecDepth 20000 in
theorem gX3_takeToken_X3_isLetter : GoodIn wsX3_takeToken (va_wsS RX3 120 yX3_isLetter wsX3_isLetter) := goodIn_app (goodIn_of _ (by decide +kernel)) ggX3_takeToken_X3_isLetter
set_option maxRecDepth 20000 in
theorem ggX3_takeToken_X3_takeName : GoodIn wsX3_takeToken wsX3_takeName := goodIn_r _ [13, 5, 1, 2, 3, 6, 7, 8, 9, 22, 23, 24, 25, 26, 27, 28, 29] (by decide +kernel) (by decide +kernel)
set_option maxRecDepth 20000 in
theorem gX3_takeToken_X3_takeName : GoodIn wsX3_takeToken (wsV RX3 123 RX3 yX3_takeName wsX3_takeName) := goodIn_app (goodIn_of _ (by decide +kernel)) ggX3_takeToken_X3_takeName
set_option maxRecDepth 20000 in
theorem ggX3_takeToken_X3_isFigure : GoodIn wsX3_takeToken wsX3_isFigure := goodIn_r _ [16] (by decide +kernel) (by decide +kernel)
set_option maxRecDepth 20000 in
theorem gX3_takeToken_X3_isFigure : GoodIn wsX3_takeToken (va_wsS RX3 126 yX3_isFigure wsX3_isFigure) := goodIn_app (goodIn_of _ (by decide +kernel)) ggX3_takeToken_X3_isFigure
set_option maxRecDepth 20000 in
theorem ggX3_takeToken_X3_takeFigures : GoodIn wsX3_takeToken wsX3_takeFigures := goodIn_r _ [20, 21, 1, 2, 3, 4, 5, 14, 15, 8, 16, 22, 23, 24, 25, 26, 27, 28, 29] (by decide +kernel) (by decide +kernel)
set_option maxRecDepth 20000 in
theorem gX3_takeToken_X3_takeFigures : GoodIn wsX3_takeToken (wsV RX3 129 RX3 yX3_takeFigures wsX3_takeFigures) := goodIn_app (goodIn_of _ (by decide +kernel)) ggX3_takeToken_X3_takeFigures
theorem dX3_takeToken_0 : decode cX3_takeToken 0 = .ok (.aload_n 0, 1) := by decide +kernel
theorem dX3_takeToken_1 : decode cX3_takeToken 1 = .ok (.getfield 19, 3) := by decide +kernel
theorem dX3_takeToken_4 : decode cX3_takeToken 4 = .ok (.aload_n 0, 1) := by decide +kernel
theorem dX3_takeToken_5 : decode cX3_takeToken 5 = .ok (.getfield 15, 3) := by decide +kernel
theorem dX3_takeToken_8 : decode cX3_takeToken 8 = .ok (.if_icmp .ge 30, 3) := by decide +kernel
theorem dX3_takeToken_11 : decode cX3_takeToken 11 = .ok (.aload_n 0, 1) := by decide +kernel
theorem dX3_takeToken_12 : decode cX3_takeToken 12 = .ok (.getfield 9, 3) := by decide +kernel
theorem dX3_takeToken_15 : decode cX3_takeToken 15 = .ok (.aload_n 0, 1) := by decide +kernel
theorem dX3_takeToken_16 : decode cX3_takeToken 16 = .ok (.getfield 19, 3) := by decide +kernel
theorem dX3_takeToken_19 : decode cX3_takeToken 19 = .ok (.baload, 1) := by decide +kernel
theorem dX3_takeToken_20 : decode cX3_takeToken 20 = .ok (.bipush 32, 2) := by decide +kernel
theorem dX3_takeToken_22 : decode cX3_takeToken 22 = .ok (.if_icmp .ne 16, 3) := by decide +kernel
theorem dX3_takeToken_25 : decode cX3_takeToken 25 = .ok (.aload_n 0, 1) := by decide +kernel
theorem dX3_takeToken_26 : decode cX3_takeToken 26 = .ok (.dup, 1) := by decide +kernel
theorem dX3_takeToken_27 : decode cX3_takeToken 27 = .ok (.getfield 19, 3) := by decide +kernel
theorem dX3_takeToken_30 : decode cX3_takeToken 30 = .ok (.iconst 1, 1) := by decide +kernel
theorem dX3_takeToken_31 : decode cX3_takeToken 31 = .ok (.iadd, 1) := by decide +kernel
theorem dX3_takeToken_32 : decode cX3_takeToken 32 = .ok (.putfield 19, 3) := by decide +kernel
theorem dX3_takeToken_35 : decode cX3_takeToken 35 = .ok (.goto (-35), 3) := by decide +kernel
theorem dX3_takeToken_38 : decode cX3_takeToken 38 = .ok (.aload_n 0, 1) := by decide +kernel
theorem dX3_takeToken_39 : decode cX3_takeToken 39 = .ok (.aload_n 0, 1) := by decide +kernel
theorem dX3_takeToken_40 : decode cX3_takeToken 40 = .ok (.getfield 19, 3) := by decide +kernel
theorem dX3_takeToken_43 : decode cX3_takeToken 43 = .ok (.putfield 22, 3) := by decide +kernel
theorem dX3_takeToken_46 : decode cX3_takeToken 46 = .ok (.aload_n 0, 1) := by decide +kernel
theorem dX3_takeToken_47 : decode cX3_takeToken 47 = .ok (.getfield 19, 3) := by decide +kernel
theorem dX3_takeToken_50 : decode cX3_takeToken 50 = .ok (.aload_n 0, 1) := by decide +kernel
theorem dX3_takeToken_51 : decode cX3_takeToken 51 = .ok (.getfield 15, 3) := by decide +kernel
theorem dX3_takeToken_54 : decode cX3_takeToken 54 = .ok (.if_icmp .lt 11, 3) := by decide +kernel
theorem dX3_takeToken_57 : decode cX3_takeToken 57 = .ok (.aload_n 0, 1) := by decide +kernel
theorem dX3_takeToken_58 : decode cX3_takeToken 58 = .ok (.iconst 4, 1) := by decide +kernel
theorem dX3_takeToken_59 : decode cX3_takeToken 59 = .ok (.putfield 25, 3) := by decide +kernel
theorem dX3_takeToken_62 : decode cX3_takeToken 62 = .ok (.goto 80, 3) := by decide +kernel
theorem dX3_takeToken_65 : decode cX3_takeToken 65 = .ok (.aload_n 0, 1) := by decide +kernel
theorem dX3_takeToken_66 : decode cX3_takeToken 66 = .ok (.getfield 9, 3) := by decide +kernel
theorem dX3_takeToken_69 : decode cX3_takeToken 69 = .ok (.aload_n 0, 1) := by decide +kernel
theorem dX3_takeToken_70 : decode cX3_takeToken 70 = .ok (.getfield 19, 3) := by decide +kernel
theorem dX3_takeToken_73 : decode cX3_takeToken 73 = .ok (.baload, 1) := by decide +kernel
theorem dX3_takeToken_74 : decode cX3_takeToken 74 = .ok (.invokestatic 120, 3) := by decide +kernel
theorem dX3_takeToken_77 : decode cX3_takeToken 77 = .ok (.ifCond .eq 10, 3) := by decide +kernel
theorem dX3_takeToken_80 : decode cX3_takeToken 80 = .ok (.aload_n 0, 1) := by decide +kernel
theorem dX3_takeToken_81 : decode cX3_takeToken 81 = .ok (.invokevirtual 123, 3) := by decide +kernel
theorem dX3_takeToken_84 : decode cX3_takeToken 84 = .ok (.goto 58, 3) := by decide +kernel
theorem dX3_takeToken_87 : decode cX3_takeToken 87 = .ok (.aload_n 0, 1) := by decide +kernel
theorem dX3_takeToken_88 : decode cX3_takeToken 88 = .ok (.getfield 9, 3) := by decide +kernel
theorem dX3_takeToken_91 : decode cX3_takeToken 91 = .ok (.aload_n 0, 1) := by decide +kernel
theorem dX3_takeToken_92 : decode cX3_takeToken 92 = .ok (.getfield 19, 3) := by decide +kernel
theorem dX3_takeToken_95 : decode cX3_takeToken 95 = .ok (.baload, 1) := by decide +kernel
theorem dX3_takeToken_96 : decode cX3_takeToken 96 = .ok (.invokestatic 126, 3) := by decide +kernel
theorem dX3_takeToken_99 : decode cX3_takeToken 99 = .ok (.ifCond .eq 10, 3) := by decide +kernel
theorem dX3_takeToken_102 : decode cX3_takeToken 102 = .ok (.aload_n 0, 1) := by decide +kernel
theorem dX3_takeToken_103 : decode cX3_takeToken 103 = .ok (.invokevirtual 129, 3) := by decide +kernel
theorem dX3_takeToken_106 : decode cX3_takeToken 106 = .ok (.goto 36, 3) := by decide +kernel
theorem dX3_takeToken_109 : decode cX3_takeToken 109 = .ok (.aload_n 0, 1) := by decide +kernel
theorem dX3_takeToken_110 : decode cX3_takeToken 110 = .ok (.aload_n 0, 1) := by decide +kernel
theorem dX3_takeToken_111 : decode cX3_takeToken 111 = .ok (.getfield 9, 3) := by decide +kernel
theorem dX3_takeToken_114 : decode cX3_takeToken 114 = .ok (.aload_n 0, 1) := by decide +kernel
theorem dX3_takeToken_115 : decode cX3_takeToken 115 = .ok (.getfield 19, 3) := by decide +kernel
theorem dX3_takeToken_118 : decode cX3_takeToken 118 = .ok (.baload, 1) := by decide +kernel
theorem dX3_takeToken_119 : decode cX3_takeToken 119 = .ok (.bipush 59, 2) := by decide +kernel
theorem dX3_takeToken_121 : decode cX3_takeToken 121 = .ok (.if_icmp .ne 7, 3) := by decide +kernel
theorem dX3_takeToken_124 : decode cX3_takeToken 124 = .ok (.iconst 3, 1) := by decide +kernel
theorem dX3_takeToken_125 : decode cX3_takeToken 125 = .ok (.goto 4, 3) := by decide +kernel
theorem dX3_takeToken_128 : decode cX3_takeToken 128 = .ok (.iconst 0, 1) := by decide +kernel
theorem dX3_takeToken_129 : decode cX3_takeToken 129 = .ok (.putfield 25, 3) := by decide +kernel
theorem dX3_takeToken_132 : decode cX3_takeToken 132 = .ok (.aload_n 0, 1) := by decide +kernel
theorem dX3_takeToken_133 : decode cX3_takeToken 133 = .ok (.dup, 1) := by decide +kernel
theorem dX3_takeToken_134 : decode cX3_takeToken 134 = .ok (.getfield 19, 3) := by decide +kernel
theorem dX3_takeToken_137 : decode cX3_takeToken 137 = .ok (.iconst 1, 1) := by decide +kernel
theorem dX3_takeToken_138 : decode cX3_takeToken 138 = .ok (.iadd, 1) := by decide +kernel
theorem dX3_takeToken_139 : decode cX3_takeToken 139 = .ok (.putfield 19, 3) := by decide +kernel
theorem dX3_takeToken_142 : decode cX3_takeToken 142 = .ok (.return_, 1) := by decide +kernel
set_option maxRecDepth 20000 in
theorem ggX3_takeName_X3_isLetter : GoodIn wsX3_takeName wsX3_isLetter := goodIn_r _ [8] (by decide +kernel) (by decide +kernel)
set_option maxRecDepth 20000 in
theorem gX3_takeName_X3_isLetter : GoodIn wsX3_takeName (va_wsS RX3 120 yX3_isLetter wsX3_isLetter) := goodIn_app (goodIn_of _ (by decide +kernel)) ggX3_takeName_X3_isLetter
theorem dX3_takeName_0 : decode cX3_takeName 0 = .ok (.aload_n 0, 1) := by decide +kernel
theorem dX3_takeName_1 : decode cX3_takeName 1 = .ok (.iconst 1, 1) := by decide +kernel
theorem dX3_takeName_2 : decode cX3_takeName 2 = .ok (.putfield 25, 3) := by decide +kernel
theorem dX3_takeName_5 : decode cX3_takeName 5 = .ok (.aload_n 0, 1) := by decide +kernel
theorem dX3_takeName_6 : decode cX3_takeName 6 = .ok (.getfield 19, 3) := by decide +kernel
theorem dX3_takeName_9 : decode cX3_takeName 9 = .ok (.aload_n 0, 1) := by decide +kernel
theorem dX3_takeName_10 : decode cX3_takeName 10 = .ok (.getfield 15, 3) := by decide +kernel
theorem dX3_takeName_13 : decode cX3_takeName 13 = .ok (.if_icmp .ge 31, 3) := by decide +kernel
theorem dX3_takeName_16 : decode cX3_takeName 16 = .ok (.aload_n 0, 1) := by decide +kernel
theorem dX3_takeName_17 : decode cX3_takeName 17 = .ok (.getfield 9, 3) := by decide +kernel
theorem dX3_takeName_20 : decode cX3_takeName 20 = .ok (.aload_n 0, 1) := by decide +kernel
theorem dX3_takeName_21 : decode cX3_takeName 21 = .ok (.getfield 19, 3) := by decide +kernel
theorem dX3_takeName_24 : decode cX3_takeName 24 = .ok (.baload, 1) := by decide +kernel
theorem dX3_takeName_25 : decode cX3_takeName 25 = .ok (.invokestatic 120, 3) := by decide +kernel
theorem dX3_takeName_28 : decode cX3_takeName 28 = .ok (.ifCond .eq 16, 3) := by decide +kernel
theorem dX3_takeName_31 : decode cX3_takeName 31 = .ok (.aload_n 0, 1) := by decide +kernel
theorem dX3_takeName_32 : decode cX3_takeName 32 = .ok (.dup, 1) := by decide +kernel
theorem dX3_takeName_33 : decode cX3_takeName 33 = .ok (.getfield 19, 3) := by decide +kernel
theorem dX3_takeName_36 : decode cX3_takeName 36 = .ok (.iconst 1, 1) := by decide +kernel
theorem dX3_takeName_37 : decode cX3_takeName 37 = .ok (.iadd, 1) := by decide +kernel
theorem dX3_takeName_38 : decode cX3_takeName 38 = .ok (.putfield 19, 3) := by decide +kernel
theorem dX3_takeName_41 : decode cX3_takeName 41 = .ok (.goto (-36), 3) := by decide +kernel
theorem dX3_takeName_44 : decode cX3_takeName 44 = .ok (.return_, 1) := by decide +kernel
set_option maxRecDepth 20000 in
theorem ggX3_takeFigures_X3_isFigure : GoodIn wsX3_takeFigures wsX3_isFigure := goodIn_r _ [10] (by decide +kernel) (by decide +kernel)
set_option maxRecDepth 20000 in
theorem gX3_takeFigures_X3_isFigure : GoodIn wsX3_takeFigures (va_wsS RX3 126 yX3_isFigure wsX3_isFigure) := goodIn_app (goodIn_of _ (by decide +kernel)) ggX3_takeFigures_X3_isFigure
theorem dX3_takeFigures_0 : decode cX3_takeFigures 0 = .ok (.aload_n 0, 1) := by decide +kernel
theorem dX3_takeFigures_1 : decode cX3_takeFigures 1 = .ok (.iconst 0, 1) := by decide +kernel
theorem dX3_takeFigures_2 : decode cX3_takeFigures 2 = .ok (.putfield 28, 3) := by decide +kernel
theorem dX3_takeFigures_5 : decode cX3_takeFigures 5 = .ok (.aload_n 0, 1) := by decide +kernel
theorem dX3_takeFigures_6 : decode cX3_takeFigures 6 = .ok (.getfield 19, 3) := by decide +kernel
theorem dX3_takeFigures_9 : decode cX3_takeFigures 9 = .ok (.aload_n 0, 1) := by decide +kernel
theorem dX3_takeFigures_10 : decode cX3_takeFigures 10 = .ok (.getfield 15, 3) := by decide +kernel
theorem dX3_takeFigures_13 : decode cX3_takeFigures 13 = .ok (.if_icmp .ge 55, 3) := by decide +kernel
theorem dX3_takeFigures_16 : decode cX3_takeFigures 16 = .ok (.aload_n 0, 1) := by decide +kernel
theorem dX3_takeFigures_17 : decode cX3_takeFigures 17 = .ok (.getfield 9, 3) := by decide +kernel
theorem dX3_takeFigures_20 : decode cX3_takeFigures 20 = .ok (.aload_n 0, 1) := by decide +kernel
theorem dX3_takeFigures_21 : decode cX3_takeFigures 21 = .ok (.getfield 19, 3) := by decide +kernel
theorem dX3_takeFigures_24 : decode cX3_takeFigures 24 = .ok (.baload, 1) := by decide +kernel
theorem dX3_takeFigures_25 : decode cX3_takeFigures 25 = .ok (.invokestatic 126, 3) := by decide +kernel
theorem dX3_takeFigures_28 : decode cX3_takeFigures 28 = .ok (.ifCond .eq 40, 3) := by decide +kernel
theorem dX3_takeFigures_31 : decode cX3_takeFigures 31 = .ok (.aload_n 0, 1) := by decide +kernel
theorem dX3_takeFigures_32 : decode cX3_takeFigures 32 = .ok (.aload_n 0, 1) := by decide +kernel
theorem dX3_takeFigures_33 : decode cX3_takeFigures 33 = .ok (.getfield 28, 3) := by decide +kernel
theorem dX3_takeFigures_36 : decode cX3_takeFigures 36 = .ok (.bipush 10, 2) := by decide +kernel
theorem dX3_takeFigures_38 : decode cX3_takeFigures 38 = .ok (.imul, 1) := by decide +kernel
theorem dX3_takeFigures_39 : decode cX3_takeFigures 39 = .ok (.aload_n 0, 1) := by decide +kernel
theorem dX3_takeFigures_40 : decode cX3_takeFigures 40 = .ok (.getfield 9, 3) := by decide +kernel
theorem dX3_takeFigures_43 : decode cX3_takeFigures 43 = .ok (.aload_n 0, 1) := by decide +kernel
theorem dX3_takeFigures_44 : decode cX3_takeFigures 44 = .ok (.getfield 19, 3) := by decide +kernel
theorem dX3_takeFigures_47 : decode cX3_takeFigures 47 = .ok (.baload, 1) := by decide +kernel
theorem dX3_takeFigures_48 : decode cX3_takeFigures 48 = .ok (.iadd, 1) := by decide +kernel
theorem dX3_takeFigures_49 : decode cX3_takeFigures 49 = .ok (.bipush 48, 2) := by decide +kernel
theorem dX3_takeFigures_51 : decode cX3_takeFigures 51 = .ok (.isub, 1) := by decide +kernel
theorem dX3_takeFigures_52 : decode cX3_takeFigures 52 = .ok (.putfield 28, 3) := by decide +kernel
theorem dX3_takeFigures_55 : decode cX3_takeFigures 55 = .ok (.aload_n 0, 1) := by decide +kernel
theorem dX3_takeFigures_56 : decode cX3_takeFigures 56 = .ok (.dup, 1) := by decide +kernel
theorem dX3_takeFigures_57 : decode cX3_takeFigures 57 = .ok (.getfield 19, 3) := by decide +kernel
theorem dX3_takeFigures_60 : decode cX3_takeFigures 60 = .ok (.iconst 1, 1) := by decide +kernel
theorem dX3_takeFigures_61 : decode cX3_takeFigures 61 = .ok (.iadd, 1) := by decide +kernel
theorem dX3_takeFigures_62 : decode cX3_takeFigures 62 = .ok (.putfield 19, 3) := by decide +kernel
theorem dX3_takeFigures_65 : decode cX3_takeFigures 65 = .ok (.goto (-60), 3) := by decide +kernel
theorem dX3_takeFigures_68 : decode cX3_takeFigures 68 = .ok (.aload_n 0, 1) := by decide +kernel
theorem dX3_takeFigures_69 : decode cX3_takeFigures 69 = .ok (.aload_n 0, 1) := by decide +kernel
theorem dX3_takeFigures_70 : decode cX3_takeFigures 70 = .ok (.getfield 19, 3) := by decide +kernel
theorem dX3_takeFigures_73 : decode cX3_takeFigures 73 = .ok (.aload_n 0, 1) := by decide +kernel
theorem dX3_takeFigures_74 : decode cX3_takeFigures 74 = .ok (.getfield 22, 3) := by decide +kernel
theorem dX3_takeFigures_77 : decode cX3_takeFigures 77 = .ok (.isub, 1) := by decide +kernel
theorem dX3_takeFigures_78 : decode cX3_takeFigures 78 = .ok (.iconst 2, 1) := by decide +kernel
theorem dX3_takeFigures_79 : decode cX3_takeFigures 79 = .ok (.if_icmp .le 7, 3) := by decide +kernel
theorem dX3_takeFigures_82 : decode cX3_takeFigures 82 = .ok (.iconst 0, 1) := by decide +kernel
theorem dX3_takeFigures_83 : decode cX3_takeFigures 83 = .ok (.goto 4, 3) := by decide +kernel
theorem dX3_takeFigures_86 : decode cX3_takeFigures 86 = .ok (.iconst 2, 1) := by decide +kernel
theorem dX3_takeFigures_87 : decode cX3_takeFigures 87 = .ok (.putfield 25, 3) := by decide +kernel
theorem dX3_takeFigures_90 : decode cX3_takeFigures 90 = .ok (.return_, 1) := by decide +kernel
set_option maxRecDepth 20000 in
theorem ggX3_kindNamed_X3_spells : GoodIn wsX3_kindNamed wsX3_spells := goodIn_r _ [5, 6, 7, 8, 9, 10, 11, 12, 13, 14, 15, 16, 17, 18, 19, 20, 21, 22, 23, 24, 25, 26, 27, 28, 29, 30, 31, 32, 33, 34, 35, 36, 37, 38, 39, 40, 41, 42, 43, 44, 45, 46, 47, 48, 49, 50, 51, 52, 53, 54, 55, 56, 57, 58, 59, 60, 61, 62, 63, 64, 65] (by decide +kernel) (by decide +kernel)
set_option maxRecDepth 20000 in
theorem gX3_kindNamed_X3_spells : GoodIn wsX3_kindNamed (wsV RX3 59 RX3 yX3_spells wsX3_spells) := goodIn_app (goodIn_of _ (by decide +kernel)) ggX3_kindNamed_X3_spells
theorem dX3_kindNamed_0 : decode cX3_kindNamed 0 = .ok (.aload_n 0, 1) := by decide +kernel
theorem dX3_kindNamed_1 : decode cX3_kindNamed 1 = .ok (.ldc 132, 2) := by decide +kernel
theorem dX3_kindNamed_3 : decode cX3_kindNamed 3 = .ok (.invokevirtual 59, 3) := by decide +kernel
theorem dX3_kindNamed_6 : decode cX3_kindNamed 6 = .ok (.ifCond .eq 5, 3) := by decide +kernel
theorem dX3_kindNamed_9 : decode cX3_kindNamed 9 = .ok (.iconst 0, 1) := by decide +kernel
theorem dX3_kindNamed_10 : decode cX3_kindNamed 10 = .ok (.ireturn, 1) := by decide +kernel
theorem dX3_kindNamed_11 : decode cX3_kindNamed 11 = .ok (.aload_n 0, 1) := by decide +kernel
theorem dX3_kindNamed_12 : decode cX3_kindNamed 12 = .ok (.ldc 134, 2) := by decide +kernel
theorem dX3_kindNamed_14 : decode cX3_kindNamed 14 = .ok (.invokevirtual 59, 3) := by decide +kernel
theorem dX3_kindNamed_17 : decode cX3_kindNamed 17 = .ok (.ifCond .eq 5, 3) := by decide +kernel
theorem dX3_kindNamed_20 : decode cX3_kindNamed 20 = .ok (.iconst 1, 1) := by decide +kernel
theorem dX3_kindNamed_21 : decode cX3_kindNamed 21 = .ok (.ireturn, 1) := by decide +kernel
theorem dX3_kindNamed_22 : decode cX3_kindNamed 22 = .ok (.aload_n 0, 1) := by decide +kernel
theorem dX3_kindNamed_23 : decode cX3_kindNamed 23 = .ok (.ldc 136, 2) := by decide +kernel
theorem dX3_kindNamed_25 : decode cX3_kindNamed 25 = .ok (.invokevirtual 59, 3) := by decide +kernel
theorem dX3_kindNamed_28 : decode cX3_kindNamed 28 = .ok (.ifCond .eq 5, 3) := by decide +kernel
theorem dX3_kindNamed_31 : decode cX3_kindNamed 31 = .ok (.iconst 2, 1) := by decide +kernel
theorem dX3_kindNamed_32 : decode cX3_kindNamed 32 = .ok (.ireturn, 1) := by decide +kernel
theorem dX3_kindNamed_33 : decode cX3_kindNamed 33 = .ok (.aload_n 0, 1) := by decide +kernel
theorem dX3_kindNamed_34 : decode cX3_kindNamed 34 = .ok (.ldc 138, 2) := by decide +kernel
theorem dX3_kindNamed_36 : decode cX3_kindNamed 36 = .ok (.invokevirtual 59, 3) := by decide +kernel
theorem dX3_kindNamed_39 : decode cX3_kindNamed 39 = .ok (.ifCond .eq 7, 3) := by decide +kernel
theorem dX3_kindNamed_42 : decode cX3_kindNamed 42 = .ok (.iconst 3, 1) := by decide +kernel
theorem dX3_kindNamed_43 : decode cX3_kindNamed 43 = .ok (.goto 5, 3) := by decide +kernel
theorem dX3_kindNamed_46 : decode cX3_kindNamed 46 = .ok (.bipush (-4), 2) := by decide +kernel
theorem dX3_kindNamed_48 : decode cX3_kindNamed 48 = .ok (.ireturn, 1) := by decide +kernel
set_option maxRecDepth 20000 in
theorem ggX3_spells_J0_length_8abf5 : GoodIn wsX3_spells wsJ0_length_8abf5 := goodIn_r _ [8, 9, 10, 11, 12, 7, 13, 14, 15] (by decide +kernel) (by decide +kernel)
set_option maxRecDepth 20000 in
theorem gX3_spells_J0_length_8abf5 : GoodIn wsX3_spells (wsV RX3 140 RJ0 yJ0_length_8abf5 wsJ0_length_8abf5) := goodIn_app (goodIn_of _ (by decide +kernel)) ggX3_spells_J0_length_8abf5
set_option maxRecDepth 20000 in
theorem ggX3_spells_J0_charAt_5068e : GoodIn wsX3_spells wsJ0_charAt_5068e := goodIn_r _ [19, 9, 20, 21, 22, 7, 23, 14, 15, 24, 25, 26, 27, 28, 29, 30, 31, 32, 33, 34, 35, 36, 37, 38, 39, 40, 41, 42, 43, 44, 45, 46, 47, 48, 49, 50, 51, 52] (by decide +kernel) (by decide +kernel)
set_option maxRecDepth 20000 in
theorem gX3_spells_J0_charAt_5068e : GoodIn wsX3_spells (wsV RX3 144 RJ0 yJ0_charAt_5068e wsJ0_charAt_5068e) := goodIn_app (goodIn_of _ (by decide +kernel)) ggX3_spells_J0_charAt_5068e
theorem dX3_spells_0 : decode cX3_spells 0 = .ok (.aload_n 0, 1) := by decide +kernel
theorem dX3_spells_1 : decode cX3_spells 1 = .ok (.getfield 19, 3) := by decide +kernel
theorem dX3_spells_4 : decode cX3_spells 4 = .ok (.aload_n 0, 1) := by decide +kernel
theorem dX3_spells_5 : decode cX3_spells 5 = .ok (.getfield 22, 3) := by decide +kernel
theorem dX3_spells_8 : decode cX3_spells 8 = .ok (.isub, 1) := by decide +kernel
theorem dX3_spells_9 : decode cX3_spells 9 = .ok (.aload_n 1, 1) := by decide +kernel
theorem dX3_spells_10 : decode cX3_spells 10 = .ok (.invokevirtual 140, 3) := by decide +kernel
theorem dX3_spells_13 : decode cX3_spells 13 = .ok (.if_icmp .eq 5, 3) := by decide +kernel
theorem dX3_spells_16 : decode cX3_spells 16 = .ok (.iconst 0, 1) := by decide +kernel
theorem dX3_spells_17 : decode cX3_spells 17 = .ok (.ireturn, 1) := by decide +kernel
theorem dX3_spells_18 : decode cX3_spells 18 = .ok (.iconst 0, 1) := by decide +kernel
theorem dX3_spells_19 : decode cX3_spells 19 = .ok (.istore_n 2, 1) := by decide +kernel
theorem dX3_spells_20 : decode cX3_spells 20 = .ok (.iload_n 2, 1) := by decide +kernel
theorem dX3_spells_21 : decode cX3_spells 21 = .ok (.aload_n 1, 1) := by decide +kernel
theorem dX3_spells_22 : decode cX3_spells 22 = .ok (.invokevirtual 140, 3) := by decide +kernel
theorem dX3_spells_25 : decode cX3_spells 25 = .ok (.if_icmp .ge 30, 3) := by decide +kernel
theorem dX3_spells_28 : decode cX3_spells 28 = .ok (.aload_n 0, 1) := by decide +kernel
theorem dX3_spells_29 : decode cX3_spells 29 = .ok (.getfield 9, 3) := by decide +kernel
theorem dX3_spells_32 : decode cX3_spells 32 = .ok (.aload_n 0, 1) := by decide +kernel
theorem dX3_spells_33 : decode cX3_spells 33 = .ok (.getfield 22, 3) := by decide +kernel
theorem dX3_spells_36 : decode cX3_spells 36 = .ok (.iload_n 2, 1) := by decide +kernel
theorem dX3_spells_37 : decode cX3_spells 37 = .ok (.iadd, 1) := by decide +kernel
theorem dX3_spells_38 : decode cX3_spells 38 = .ok (.baload, 1) := by decide +kernel
theorem dX3_spells_39 : decode cX3_spells 39 = .ok (.aload_n 1, 1) := by decide +kernel
theorem dX3_spells_40 : decode cX3_spells 40 = .ok (.iload_n 2, 1) := by decide +kernel
theorem dX3_spells_41 : decode cX3_spells 41 = .ok (.invokevirtual 144, 3) := by decide +kernel
theorem dX3_spells_44 : decode cX3_spells 44 = .ok (.if_icmp .eq 5, 3) := by decide +kernel
theorem dX3_spells_47 : decode cX3_spells 47 = .ok (.iconst 0, 1) := by decide +kernel
theorem dX3_spells_48 : decode cX3_spells 48 = .ok (.ireturn, 1) := by decide +kernel
theorem dX3_spells_49 : decode cX3_spells 49 = .ok (.iinc 2 1, 3) := by decide +kernel
theorem dX3_spells_52 : decode cX3_spells 52 = .ok (.goto (-32), 3) := by decide +kernel
theorem dX3_spells_55 : decode cX3_spells 55 = .ok (.iconst 1, 1) := by decide +kernel
theorem dX3_spells_56 : decode cX3_spells 56 = .ok (.ireturn, 1) := by decide +kernel
theorem dX3_isLetter_0 : decode cX3_isLetter 0 = .ok (.iload_n 0, 1) := by decide +kernel
theorem dX3_isLetter_1 : decode cX3_isLetter 1 = .ok (.bipush 97, 2) := by decide +kernel
theorem dX3_isLetter_3 : decode cX3_isLetter 3 = .ok (.if_icmp .lt 13, 3) := by decide +kernel
theorem dX3_isLetter_6 : decode cX3_isLetter 6 = .ok (.iload_n 0, 1) := by decide +kernel
theorem dX3_isLetter_7 : decode cX3_isLetter 7 = .ok (.bipush 122, 2) := by decide +kernel
theorem dX3_isLetter_9 : decode cX3_isLetter 9 = .ok (.if_icmp .gt 7, 3) := by decide +kernel
theorem dX3_isLetter_12 : decode cX3_isLetter 12 = .ok (.iconst 1, 1) := by decide +kernel
theorem dX3_isLetter_13 : decode cX3_isLetter 13 = .ok (.goto 4, 3) := by decide +kernel
theorem dX3_isLetter_16 : decode cX3_isLetter 16 = .ok (.iconst 0, 1) := by decide +kernel
theorem dX3_isLetter_17 : decode cX3_isLetter 17 = .ok (.ireturn, 1) := by decide +kernel
theorem dX3_isFigure_0 : decode cX3_isFigure 0 = .ok (.iload_n 0, 1) := by decide +kernel
theorem dX3_isFigure_1 : decode cX3_isFigure 1 = .ok (.bipush 48, 2) := by decide +kernel
theorem dX3_isFigure_3 : decode cX3_isFigure 3 = .ok (.if_icmp .lt 13, 3) := by decide +kernel
theorem dX3_isFigure_6 : decode cX3_isFigure 6 = .ok (.iload_n 0, 1) := by decide +kernel
theorem dX3_isFigure_7 : decode cX3_isFigure 7 = .ok (.bipush 57, 2) := by decide +kernel
theorem dX3_isFigure_9 : decode cX3_isFigure 9 = .ok (.if_icmp .gt 7, 3) := by decide +kernel
theorem dX3_isFigure_12 : decode cX3_isFigure 12 = .ok (.iconst 1, 1) := by decide +kernel
theorem dX3_isFigure_13 : decode cX3_isFigure 13 = .ok (.goto 4, 3) := by decide +kernel
theorem dX3_isFigure_16 : decode cX3_isFigure 16 = .ok (.iconst 0, 1) := by decide +kernel
theorem dX3_isFigure_17 : decode cX3_isFigure 17 = .ok (.ireturn, 1) := by decide +kernel
theorem dX4_init_0 : decode cX4_init 0 = .ok (.aload_n 0, 1) := by decide +kernel
theorem dX4_init_1 : decode cX4_init 1 = .ok (.invokespecial 3, 3) := by decide +kernel
theorem dX4_init_4 : decode cX4_init 4 = .ok (.aload_n 0, 1) := by decide +kernel
theorem dX4_init_5 : decode cX4_init 5 = .ok (.iconst 0, 1) := by decide +kernel
theorem dX4_init_6 : decode cX4_init 6 = .ok (.putfield 9, 3) := by decide +kernel
theorem dX4_init_9 : decode cX4_init 9 = .ok (.aload_n 0, 1) := by decide +kernel
theorem dX4_init_10 : decode cX4_init 10 = .ok (.bipush 6, 2) := by decide +kernel
theorem dX4_init_12 : decode cX4_init 12 = .ok (.newarray .int, 2) := by decide +kernel
theorem dX4_init_14 : decode cX4_init 14 = .ok (.putfield 15, 3) := by decide +kernel
theorem dX4_init_17 : decode cX4_init 17 = .ok (.aload_n 0, 1) := by decide +kernel
theorem dX4_init_18 : decode cX4_init 18 = .ok (.bipush 6, 2) := by decide +kernel
theorem dX4_init_20 : decode cX4_init 20 = .ok (.newarray .int, 2) := by decide +kernel
theorem dX4_init_22 : decode cX4_init 22 = .ok (.putfield 19, 3) := by decide +kernel
theorem dX4_init_25 : decode cX4_init 25 = .ok (.aload_n 0, 1) := by decide +kernel
theorem dX4_init_26 : decode cX4_init 26 = .ok (.bipush 6, 2) := by decide +kernel
theorem dX4_init_28 : decode cX4_init 28 = .ok (.newarray .int, 2) := by decide +kernel
theorem dX4_init_30 : decode cX4_init 30 = .ok (.putfield 22, 3) := by decide +kernel
theorem dX4_init_33 : decode cX4_init 33 = .ok (.aload_n 0, 1) := by decide +kernel
theorem dX4_init_34 : decode cX4_init 34 = .ok (.bipush 21, 2) := by decide +kernel
theorem dX4_init_36 : decode cX4_init 36 = .ok (.newarray .int, 2) := by decide +kernel
theorem dX4_init_38 : decode cX4_init 38 = .ok (.putfield 25, 3) := by decide +kernel
theorem dX4_init_41 : decode cX4_init 41 = .ok (.aload_n 0, 1) := by decide +kernel
theorem dX4_init_42 : decode cX4_init 42 = .ok (.sipush 504, 3) := by decide +kernel
theorem dX4_init_45 : decode cX4_init 45 = .ok (.newarray .int, 2) := by decide +kernel
theorem dX4_init_47 : decode cX4_init 47 = .ok (.putfield 28, 3) := by decide +kernel
theorem dX4_init_50 : decode cX4_init 50 = .ok (.return_, 1) := by decide +kernel
theorem dX4_note_0 : decode cX4_note 0 = .ok (.aload_n 0, 1) := by decide +kernel
theorem dX4_note_1 : decode cX4_note 1 = .ok (.getfield 9, 3) := by decide +kernel
theorem dX4_note_4 : decode cX4_note 4 = .ok (.bipush 6, 2) := by decide +kernel
theorem dX4_note_6 : decode cX4_note 6 = .ok (.if_icmp .lt 5, 3) := by decide +kernel
theorem dX4_note_9 : decode cX4_note 9 = .ok (.iconst 0, 1) := by decide +kernel
theorem dX4_note_10 : decode cX4_note 10 = .ok (.ireturn, 1) := by decide +kernel
theorem dX4_note_11 : decode cX4_note 11 = .ok (.aload_n 0, 1) := by decide +kernel
theorem dX4_note_12 : decode cX4_note 12 = .ok (.getfield 15, 3) := by decide +kernel
theorem dX4_note_15 : decode cX4_note 15 = .ok (.aload_n 0, 1) := by decide +kernel
theorem dX4_note_16 : decode cX4_note 16 = .ok (.getfield 9, 3) := by decide +kernel
theorem dX4_note_19 : decode cX4_note 19 = .ok (.iload_n 1, 1) := by decide +kernel
theorem dX4_note_20 : decode cX4_note 20 = .ok (.iastore, 1) := by decide +kernel
theorem dX4_note_21 : decode cX4_note 21 = .ok (.aload_n 0, 1) := by decide +kernel
theorem dX4_note_22 : decode cX4_note 22 = .ok (.getfield 19, 3) := by decide +kernel
theorem dX4_note_25 : decode cX4_note 25 = .ok (.aload_n 0, 1) := by decide +kernel
theorem dX4_note_26 : decode cX4_note 26 = .ok (.getfield 9, 3) := by decide +kernel
theorem dX4_note_29 : decode cX4_note 29 = .ok (.iload_n 2, 1) := by decide +kernel
theorem dX4_note_30 : decode cX4_note 30 = .ok (.iastore, 1) := by decide +kernel
theorem dX4_note_31 : decode cX4_note 31 = .ok (.aload_n 0, 1) := by decide +kernel
theorem dX4_note_32 : decode cX4_note 32 = .ok (.getfield 22, 3) := by decide +kernel
theorem dX4_note_35 : decode cX4_note 35 = .ok (.aload_n 0, 1) := by decide +kernel
theorem dX4_note_36 : decode cX4_note 36 = .ok (.getfield 9, 3) := by decide +kernel
theorem dX4_note_39 : decode cX4_note 39 = .ok (.iload_n 3, 1) := by decide +kernel
theorem dX4_note_40 : decode cX4_note 40 = .ok (.iastore, 1) := by decide +kernel
theorem dX4_note_41 : decode cX4_note 41 = .ok (.aload_n 0, 1) := by decide +kernel
theorem dX4_note_42 : decode cX4_note 42 = .ok (.dup, 1) := by decide +kernel
theorem dX4_note_43 : decode cX4_note 43 = .ok (.getfield 9, 3) := by decide +kernel
theorem dX4_note_46 : decode cX4_note 46 = .ok (.iconst 1, 1) := by decide +kernel
theorem dX4_note_47 : decode cX4_note 47 = .ok (.iadd, 1) := by decide +kernel
theorem dX4_note_48 : decode cX4_note 48 = .ok (.putfield 9, 3) := by decide +kernel
theorem dX4_note_51 : decode cX4_note 51 = .ok (.iconst 1, 1) := by decide +kernel
theorem dX4_note_52 : decode cX4_note 52 = .ok (.ireturn, 1) := by decide +kernel
set_option maxRecDepth 20000 in
theorem ggX4_fits_X1_passDayOfGardeners : GoodIn wsX4_fits wsX1_passDayOfGardeners := goodIn_r _ [11, 12, 13, 14, 15, 10, 16, 17, 18, 19, 20, 21, 22, 23, 24, 25, 26, 27, 28, 29, 30, 31, 32, 33, 34, 35, 36, 37, 38, 39, 40, 41, 42, 49, 50, 51, 52, 53, 54, 55, 56, 57, 58, 59, 60] (by decide +kernel) (by decide +kernel)
set_option maxRecDepth 20000 in
theorem gX4_fits_X1_passDayOfGardeners : GoodIn wsX4_fits (wsV RX4 36 RX1 yX1_passDayOfGardeners wsX1_passDayOfGardeners) := goodIn_app (goodIn_of _ (by decide +kernel)) ggX4_fits_X1_passDayOfGardeners
theorem dX4_fits_0 : decode cX4_fits 0 = .ok (.iconst 0, 1) := by decide +kernel
theorem dX4_fits_1 : decode cX4_fits 1 = .ok (.istore_n 2, 1) := by decide +kernel
theorem dX4_fits_2 : decode cX4_fits 2 = .ok (.iload_n 2, 1) := by decide +kernel
theorem dX4_fits_3 : decode cX4_fits 3 = .ok (.bipush 20, 2) := by decide +kernel
theorem dX4_fits_5 : decode cX4_fits 5 = .ok (.if_icmp .gt 23, 3) := by decide +kernel
theorem dX4_fits_8 : decode cX4_fits 8 = .ok (.aload_n 0, 1) := by decide +kernel
theorem dX4_fits_9 : decode cX4_fits 9 = .ok (.getfield 25, 3) := by decide +kernel
theorem dX4_fits_12 : decode cX4_fits 12 = .ok (.iload_n 2, 1) := by decide +kernel
theorem dX4_fits_13 : decode cX4_fits 13 = .ok (.aload_n 1, 1) := by decide +kernel
theorem dX4_fits_14 : decode cX4_fits 14 = .ok (.getfield 31, 3) := by decide +kernel
theorem dX4_fits_17 : decode cX4_fits 17 = .ok (.iastore, 1) := by decide +kernel
theorem dX4_fits_18 : decode cX4_fits 18 = .ok (.aload_n 1, 1) := by decide +kernel
theorem dX4_fits_19 : decode cX4_fits 19 = .ok (.invokevirtual 36, 3) := by decide +kernel
theorem dX4_fits_22 : decode cX4_fits 22 = .ok (.iinc 2 1, 3) := by decide +kernel
theorem dX4_fits_25 : decode cX4_fits 25 = .ok (.goto (-23), 3) := by decide +kernel
theorem dX4_fits_28 : decode cX4_fits 28 = .ok (.iconst 0, 1) := by decide +kernel
theorem dX4_fits_29 : decode cX4_fits 29 = .ok (.istore_n 2, 1) := by decide +kernel
theorem dX4_fits_30 : decode cX4_fits 30 = .ok (.iload_n 2, 1) := by decide +kernel
theorem dX4_fits_31 : decode cX4_fits 31 = .ok (.aload_n 0, 1) := by decide +kernel
theorem dX4_fits_32 : decode cX4_fits 32 = .ok (.getfield 9, 3) := by decide +kernel
theorem dX4_fits_35 : decode cX4_fits 35 = .ok (.if_icmp .ge 40, 3) := by decide +kernel
theorem dX4_fits_38 : decode cX4_fits 38 = .ok (.aload_n 0, 1) := by decide +kernel
theorem dX4_fits_39 : decode cX4_fits 39 = .ok (.getfield 25, 3) := by decide +kernel
theorem dX4_fits_42 : decode cX4_fits 42 = .ok (.aload_n 0, 1) := by decide +kernel
theorem dX4_fits_43 : decode cX4_fits 43 = .ok (.getfield 15, 3) := by decide +kernel
theorem dX4_fits_46 : decode cX4_fits 46 = .ok (.iload_n 2, 1) := by decide +kernel
theorem dX4_fits_47 : decode cX4_fits 47 = .ok (.iaload, 1) := by decide +kernel
theorem dX4_fits_48 : decode cX4_fits 48 = .ok (.iaload, 1) := by decide +kernel
theorem dX4_fits_49 : decode cX4_fits 49 = .ok (.aload_n 0, 1) := by decide +kernel
theorem dX4_fits_50 : decode cX4_fits 50 = .ok (.getfield 19, 3) := by decide +kernel
theorem dX4_fits_53 : decode cX4_fits 53 = .ok (.iload_n 2, 1) := by decide +kernel
theorem dX4_fits_54 : decode cX4_fits 54 = .ok (.iaload, 1) := by decide +kernel
theorem dX4_fits_55 : decode cX4_fits 55 = .ok (.ishr, 1) := by decide +kernel
theorem dX4_fits_56 : decode cX4_fits 56 = .ok (.iconst 1, 1) := by decide +kernel
theorem dX4_fits_57 : decode cX4_fits 57 = .ok (.iand, 1) := by decide +kernel
theorem dX4_fits_58 : decode cX4_fits 58 = .ok (.aload_n 0, 1) := by decide +kernel
theorem dX4_fits_59 : decode cX4_fits 59 = .ok (.getfield 22, 3) := by decide +kernel
theorem dX4_fits_62 : decode cX4_fits 62 = .ok (.iload_n 2, 1) := by decide +kernel
theorem dX4_fits_63 : decode cX4_fits 63 = .ok (.iaload, 1) := by decide +kernel
theorem dX4_fits_64 : decode cX4_fits 64 = .ok (.if_icmp .eq 5, 3) := by decide +kernel
theorem dX4_fits_67 : decode cX4_fits 67 = .ok (.iconst 0, 1) := by decide +kernel
theorem dX4_fits_68 : decode cX4_fits 68 = .ok (.ireturn, 1) := by decide +kernel
theorem dX4_fits_69 : decode cX4_fits 69 = .ok (.iinc 2 1, 3) := by decide +kernel
theorem dX4_fits_72 : decode cX4_fits 72 = .ok (.goto (-42), 3) := by decide +kernel
theorem dX4_fits_75 : decode cX4_fits 75 = .ok (.iconst 1, 1) := by decide +kernel
theorem dX4_fits_76 : decode cX4_fits 76 = .ok (.ireturn, 1) := by decide +kernel
set_option maxRecDepth 20000 in
theorem ggX4_clearVotes_J7_fill_53178 : GoodIn wsX4_clearVotes wsJ7_fill_53178 := goodIn_r _ [5] (by decide +kernel) (by decide +kernel)
set_option maxRecDepth 20000 in
theorem gX4_clearVotes_J7_fill_53178 : GoodIn wsX4_clearVotes (va_wsS RX4 39 yJ7_fill_53178 wsJ7_fill_53178) := goodIn_app (goodIn_of _ (by decide +kernel)) ggX4_clearVotes_J7_fill_53178
theorem dX4_clearVotes_0 : decode cX4_clearVotes 0 = .ok (.aload_n 0, 1) := by decide +kernel
theorem dX4_clearVotes_1 : decode cX4_clearVotes 1 = .ok (.getfield 28, 3) := by decide +kernel
theorem dX4_clearVotes_4 : decode cX4_clearVotes 4 = .ok (.iconst 0, 1) := by decide +kernel
theorem dX4_clearVotes_5 : decode cX4_clearVotes 5 = .ok (.invokestatic 39, 3) := by decide +kernel
theorem dX4_clearVotes_8 : decode cX4_clearVotes 8 = .ok (.return_, 1) := by decide +kernel
theorem dX4_vote_0 : decode cX4_vote 0 = .ok (.iconst 0, 1) := by decide +kernel
theorem dX4_vote_1 : decode cX4_vote 1 = .ok (.istore_n 1, 1) := by decide +kernel
theorem dX4_vote_2 : decode cX4_vote 2 = .ok (.iload_n 1, 1) := by decide +kernel
theorem dX4_vote_3 : decode cX4_vote 3 = .ok (.bipush 20, 2) := by decide +kernel
theorem dX4_vote_5 : decode cX4_vote 5 = .ok (.if_icmp .gt 47, 3) := by decide +kernel
theorem dX4_vote_8 : decode cX4_vote 8 = .ok (.iconst 0, 1) := by decide +kernel
theorem dX4_vote_9 : decode cX4_vote 9 = .ok (.istore_n 2, 1) := by decide +kernel
theorem dX4_vote_10 : decode cX4_vote 10 = .ok (.iload_n 2, 1) := by decide +kernel
theorem dX4_vote_11 : decode cX4_vote 11 = .ok (.bipush 24, 2) := by decide +kernel
theorem dX4_vote_13 : decode cX4_vote 13 = .ok (.if_icmp .ge 33, 3) := by decide +kernel
theorem dX4_vote_16 : decode cX4_vote 16 = .ok (.aload_n 0, 1) := by decide +kernel
theorem dX4_vote_17 : decode cX4_vote 17 = .ok (.getfield 28, 3) := by decide +kernel
theorem dX4_vote_20 : decode cX4_vote 20 = .ok (.iload_n 1, 1) := by decide +kernel
theorem dX4_vote_21 : decode cX4_vote 21 = .ok (.bipush 24, 2) := by decide +kernel
theorem dX4_vote_23 : decode cX4_vote 23 = .ok (.imul, 1) := by decide +kernel
theorem dX4_vote_24 : decode cX4_vote 24 = .ok (.iload_n 2, 1) := by decide +kernel
theorem dX4_vote_25 : decode cX4_vote 25 = .ok (.iadd, 1) := by decide +kernel
theorem dX4_vote_26 : decode cX4_vote 26 = .ok (.dup2, 1) := by decide +kernel
theorem dX4_vote_27 : decode cX4_vote 27 = .ok (.iaload, 1) := by decide +kernel
theorem dX4_vote_28 : decode cX4_vote 28 = .ok (.aload_n 0, 1) := by decide +kernel
theorem dX4_vote_29 : decode cX4_vote 29 = .ok (.getfield 25, 3) := by decide +kernel
theorem dX4_vote_32 : decode cX4_vote 32 = .ok (.iload_n 1, 1) := by decide +kernel
theorem dX4_vote_33 : decode cX4_vote 33 = .ok (.iaload, 1) := by decide +kernel
theorem dX4_vote_34 : decode cX4_vote 34 = .ok (.iload_n 2, 1) := by decide +kernel
theorem dX4_vote_35 : decode cX4_vote 35 = .ok (.ishr, 1) := by decide +kernel
theorem dX4_vote_36 : decode cX4_vote 36 = .ok (.iconst 1, 1) := by decide +kernel
theorem dX4_vote_37 : decode cX4_vote 37 = .ok (.iand, 1) := by decide +kernel
theorem dX4_vote_38 : decode cX4_vote 38 = .ok (.iadd, 1) := by decide +kernel
theorem dX4_vote_39 : decode cX4_vote 39 = .ok (.iastore, 1) := by decide +kernel
theorem dX4_vote_40 : decode cX4_vote 40 = .ok (.iinc 2 1, 3) := by decide +kernel
theorem dX4_vote_43 : decode cX4_vote 43 = .ok (.goto (-33), 3) := by decide +kernel
theorem dX4_vote_46 : decode cX4_vote 46 = .ok (.iinc 1 1, 3) := by decide +kernel
theorem dX4_vote_49 : decode cX4_vote 49 = .ok (.goto (-47), 3) := by decide +kernel
theorem dX4_vote_52 : decode cX4_vote 52 = .ok (.return_, 1) := by decide +kernel
theorem dX5_init_0 : decode cX5_init 0 = .ok (.aload_n 0, 1) := by decide +kernel
theorem dX5_init_1 : decode cX5_init 1 = .ok (.invokespecial 3, 3) := by decide +kernel
theorem dX5_init_4 : decode cX5_init 4 = .ok (.aload_n 0, 1) := by decide +kernel
theorem dX5_init_5 : decode cX5_init 5 = .ok (.iconst 0, 1) := by decide +kernel
theorem dX5_init_6 : decode cX5_init 6 = .ok (.putfield 9, 3) := by decide +kernel
theorem dX5_init_9 : decode cX5_init 9 = .ok (.aload_n 0, 1) := by decide +kernel
theorem dX5_init_10 : decode cX5_init 10 = .ok (.iconst 0, 1) := by decide +kernel
theorem dX5_init_11 : decode cX5_init 11 = .ok (.putfield 15, 3) := by decide +kernel
theorem dX5_init_14 : decode cX5_init 14 = .ok (.aload_n 0, 1) := by decide +kernel
theorem dX5_init_15 : decode cX5_init 15 = .ok (.iconst 0, 1) := by decide +kernel
theorem dX5_init_16 : decode cX5_init 16 = .ok (.putfield 19, 3) := by decide +kernel
theorem dX5_init_19 : decode cX5_init 19 = .ok (.aload_n 0, 1) := by decide +kernel
theorem dX5_init_20 : decode cX5_init 20 = .ok (.bipush 40, 2) := by decide +kernel
theorem dX5_init_22 : decode cX5_init 22 = .ok (.newarray .int, 2) := by decide +kernel
theorem dX5_init_24 : decode cX5_init 24 = .ok (.putfield 22, 3) := by decide +kernel
theorem dX5_init_27 : decode cX5_init 27 = .ok (.return_, 1) := by decide +kernel
set_option maxRecDepth 20000 in
theorem ggX5_renew_J7_fill_53178 : GoodIn wsX5_renew wsJ7_fill_53178 := goodIn_r _ [8] (by decide +kernel) (by decide +kernel)
set_option maxRecDepth 20000 in
theorem gX5_renew_J7_fill_53178 : GoodIn wsX5_renew (va_wsS RX5 26 yJ7_fill_53178 wsJ7_fill_53178) := goodIn_app (goodIn_of _ (by decide +kernel)) ggX5_renew_J7_fill_53178
theorem dX5_renew_0 : decode cX5_renew 0 = .ok (.aload_n 0, 1) := by decide +kernel
theorem dX5_renew_1 : decode cX5_renew 1 = .ok (.iconst 1, 1) := by decide +kernel
theorem dX5_renew_2 : decode cX5_renew 2 = .ok (.putfield 9, 3) := by decide +kernel
theorem dX5_renew_5 : decode cX5_renew 5 = .ok (.aload_n 0, 1) := by decide +kernel
theorem dX5_renew_6 : decode cX5_renew 6 = .ok (.iload_n 1, 1) := by decide +kernel
theorem dX5_renew_7 : decode cX5_renew 7 = .ok (.putfield 15, 3) := by decide +kernel
theorem dX5_renew_10 : decode cX5_renew 10 = .ok (.aload_n 0, 1) := by decide +kernel
theorem dX5_renew_11 : decode cX5_renew 11 = .ok (.iload_n 2, 1) := by decide +kernel
theorem dX5_renew_12 : decode cX5_renew 12 = .ok (.putfield 19, 3) := by decide +kernel
theorem dX5_renew_15 : decode cX5_renew 15 = .ok (.aload_n 0, 1) := by decide +kernel
theorem dX5_renew_16 : decode cX5_renew 16 = .ok (.getfield 22, 3) := by decide +kernel
theorem dX5_renew_19 : decode cX5_renew 19 = .ok (.iconst 0, 1) := by decide +kernel
theorem dX5_renew_20 : decode cX5_renew 20 = .ok (.invokestatic 26, 3) := by decide +kernel
theorem dX5_renew_23 : decode cX5_renew 23 = .ok (.return_, 1) := by decide +kernel
theorem dX5_faultAt_0 : decode cX5_faultAt 0 = .ok (.aload_n 0, 1) := by decide +kernel
theorem dX5_faultAt_1 : decode cX5_faultAt 1 = .ok (.getfield 9, 3) := by decide +kernel
theorem dX5_faultAt_4 : decode cX5_faultAt 4 = .ok (.ifCond .ne 5, 3) := by decide +kernel
theorem dX5_faultAt_7 : decode cX5_faultAt 7 = .ok (.iconst 1, 1) := by decide +kernel
theorem dX5_faultAt_8 : decode cX5_faultAt 8 = .ok (.ireturn, 1) := by decide +kernel
theorem dX5_faultAt_9 : decode cX5_faultAt 9 = .ok (.iload_n 1, 1) := by decide +kernel
theorem dX5_faultAt_10 : decode cX5_faultAt 10 = .ok (.aload_n 0, 1) := by decide +kernel
theorem dX5_faultAt_11 : decode cX5_faultAt 11 = .ok (.getfield 15, 3) := by decide +kernel
theorem dX5_faultAt_14 : decode cX5_faultAt 14 = .ok (.if_icmp .eq 5, 3) := by decide +kernel
theorem dX5_faultAt_17 : decode cX5_faultAt 17 = .ok (.iconst 3, 1) := by decide +kernel
theorem dX5_faultAt_18 : decode cX5_faultAt 18 = .ok (.ireturn, 1) := by decide +kernel
theorem dX5_faultAt_19 : decode cX5_faultAt 19 = .ok (.iload_n 2, 1) := by decide +kernel
theorem dX5_faultAt_20 : decode cX5_faultAt 20 = .ok (.ifCond .lt 11, 3) := by decide +kernel
theorem dX5_faultAt_23 : decode cX5_faultAt 23 = .ok (.iload_n 2, 1) := by decide +kernel
theorem dX5_faultAt_24 : decode cX5_faultAt 24 = .ok (.aload_n 0, 1) := by decide +kernel
theorem dX5_faultAt_25 : decode cX5_faultAt 25 = .ok (.getfield 19, 3) := by decide +kernel
theorem dX5_faultAt_28 : decode cX5_faultAt 28 = .ok (.if_icmp .lt 7, 3) := by decide +kernel
theorem dX5_faultAt_31 : decode cX5_faultAt 31 = .ok (.iconst 2, 1) := by decide +kernel
theorem dX5_faultAt_32 : decode cX5_faultAt 32 = .ok (.goto 4, 3) := by decide +kernel
theorem dX5_faultAt_35 : decode cX5_faultAt 35 = .ok (.iconst 0, 1) := by decide +kernel
theorem dX5_faultAt_36 : decode cX5_faultAt 36 = .ok (.ireturn, 1) := by decide +kernel
set_option maxRecDepth 20000 in
theorem ggX5_faultOfPair_X5_faultAt : GoodIn wsX5_faultOfPair wsX5_faultAt := goodIn_r _ [5, 6, 7, 8, 9, 10, 11, 12] (by decide +kernel) (by decide +kernel)
set_option maxRecDepth 20000 in
theorem gX5_faultOfPair_X5_faultAt : GoodIn wsX5_faultOfPair (wsV RX5 32 RX5 yX5_faultAt wsX5_faultAt) := goodIn_app (goodIn_of _ (by decide +kernel)) ggX5_faultOfPair_X5_faultAt
theorem dX5_faultOfPair_0 : decode cX5_faultOfPair 0 = .ok (.aload_n 0, 1) := by decide +kernel
theorem dX5_faultOfPair_1 : decode cX5_faultOfPair 1 = .ok (.iload_n 1, 1) := by decide +kernel
theorem dX5_faultOfPair_2 : decode cX5_faultOfPair 2 = .ok (.iload_n 2, 1) := by decide +kernel
theorem dX5_faultOfPair_3 : decode cX5_faultOfPair 3 = .ok (.invokevirtual 32, 3) := by decide +kernel
theorem dX5_faultOfPair_6 : decode cX5_faultOfPair 6 = .ok (.istore_n 3, 1) := by decide +kernel
theorem dX5_faultOfPair_7 : decode cX5_faultOfPair 7 = .ok (.iload_n 3, 1) := by decide +kernel
theorem dX5_faultOfPair_8 : decode cX5_faultOfPair 8 = .ok (.ifCond .eq 7, 3) := by decide +kernel
theorem dX5_faultOfPair_11 : decode cX5_faultOfPair 11 = .ok (.iload_n 3, 1) := by decide +kernel
theorem dX5_faultOfPair_12 : decode cX5_faultOfPair 12 = .ok (.goto 11, 3) := by decide +kernel
theorem dX5_faultOfPair_15 : decode cX5_faultOfPair 15 = .ok (.aload_n 0, 1) := by decide +kernel
theorem dX5_faultOfPair_16 : decode cX5_faultOfPair 16 = .ok (.iload_n 1, 1) := by decide +kernel
theorem dX5_faultOfPair_17 : decode cX5_faultOfPair 17 = .ok (.iload_n 2, 1) := by decide +kernel
theorem dX5_faultOfPair_18 : decode cX5_faultOfPair 18 = .ok (.iconst 1, 1) := by decide +kernel
theorem dX5_faultOfPair_19 : decode cX5_faultOfPair 19 = .ok (.iadd, 1) := by decide +kernel
theorem dX5_faultOfPair_20 : decode cX5_faultOfPair 20 = .ok (.invokevirtual 32, 3) := by decide +kernel
theorem dX5_faultOfPair_23 : decode cX5_faultOfPair 23 = .ok (.ireturn, 1) := by decide +kernel
theorem dX5_put_0 : decode cX5_put 0 = .ok (.aload_n 0, 1) := by decide +kernel
theorem dX5_put_1 : decode cX5_put 1 = .ok (.getfield 22, 3) := by decide +kernel
theorem dX5_put_4 : decode cX5_put 4 = .ok (.iload_n 1, 1) := by decide +kernel
theorem dX5_put_5 : decode cX5_put 5 = .ok (.aload_n 0, 1) := by decide +kernel
theorem dX5_put_6 : decode cX5_put 6 = .ok (.getfield 15, 3) := by decide +kernel
theorem dX5_put_9 : decode cX5_put 9 = .ok (.ifCond .ne 8, 3) := by decide +kernel
theorem dX5_put_12 : decode cX5_put 12 = .ok (.iload_n 2, 1) := by decide +kernel
theorem dX5_put_13 : decode cX5_put 13 = .ok (.i2b, 1) := by decide +kernel
theorem dX5_put_14 : decode cX5_put 14 = .ok (.goto 17, 3) := by decide +kernel
theorem dX5_put_17 : decode cX5_put 17 = .ok (.aload_n 0, 1) := by decide +kernel
theorem dX5_put_18 : decode cX5_put 18 = .ok (.getfield 15, 3) := by decide +kernel
theorem dX5_put_21 : decode cX5_put 21 = .ok (.iconst 1, 1) := by decide +kernel
theorem dX5_put_22 : decode cX5_put 22 = .ok (.if_icmp .ne 8, 3) := by decide +kernel
theorem dX5_put_25 : decode cX5_put 25 = .ok (.iload_n 2, 1) := by decide +kernel
theorem dX5_put_26 : decode cX5_put 26 = .ok (.i2s, 1) := by decide +kernel
theorem dX5_put_27 : decode cX5_put 27 = .ok (.goto 4, 3) := by decide +kernel
theorem dX5_put_30 : decode cX5_put 30 = .ok (.iload_n 2, 1) := by decide +kernel
theorem dX5_put_31 : decode cX5_put 31 = .ok (.iastore, 1) := by decide +kernel
theorem dX5_put_32 : decode cX5_put 32 = .ok (.return_, 1) := by decide +kernel
set_option maxRecDepth 20000 in
theorem ggX6_init_X3_init : GoodIn wsX6_init wsX3_init := goodIn_r _ [33, 34, 2, 3, 35, 36, 37, 38, 39, 40, 41, 42, 43, 81, 82, 83, 84, 85, 86, 87, 88] (by decide +kernel) (by decide +kernel)
set_option maxRecDepth 20000 in
theorem gX6_init_X3_init_n9 : GoodIn wsX6_init (wsX3_init) := ggX6_init_X3_init
set_option maxRecDepth 20000 in
theorem ggX6_init_X1_init : GoodIn wsX6_init wsX1_init := goodIn_r _ [45, 46, 2, 3, 47, 48, 49, 50, 51, 52, 53, 54, 55, 56, 57, 58, 59, 101, 102, 103, 104, 105, 106, 107, 108, 109, 110, 111, 112] (by decide +kernel) (by decide +kernel)
set_option maxRecDepth 20000 in
theorem gX6_init_X1_init_n18 : GoodIn wsX6_init (wsX1_init) := ggX6_init_X1_init
set_option maxRecDepth 20000 in
theorem ggX6_init_X4_init : GoodIn wsX6_init wsX4_init := goodIn_r _ [61, 62, 2, 3, 63, 52, 64, 65, 66, 67, 68, 113, 114, 115, 116, 117, 118] (by decide +kernel) (by decide +kernel)
set_option maxRecDepth 20000 in
theorem gX6_init_X4_init_n48 : GoodIn wsX6_init (wsX4_init) := ggX6_init_X4_init
set_option maxRecDepth 20000 in
theorem ggX6_init_X0_init : GoodIn wsX6_init wsX0_init := goodIn_r _ [70, 71, 2, 3, 72, 73, 119, 120] (by decide +kernel) (by decide +kernel)
set_option maxRecDepth 20000 in
theorem gX6_init_X0_init_n55 : GoodIn wsX6_init (wsX0_init) := ggX6_init_X0_init
set_option maxRecDepth 20000 in
theorem ggX6_init_X5_init : GoodIn wsX6_init wsX5_init := goodIn_r _ [75, 76, 2, 3, 77, 78, 79, 52, 80, 121, 122, 123, 124] (by decide +kernel) (by decide +kernel)
set_option maxRecDepth 20000 in
theorem gX6_init_X5_init_n67 : GoodIn wsX6_init (wsX5_init) := ggX6_init_X5_init
theorem dX6_init_0 : decode cX6_init 0 = .ok (.aload_n 0, 1) := by decide +kernel
theorem dX6_init_1 : decode cX6_init 1 = .ok (.invokespecial 1, 3) := by decide +kernel
theorem dX6_init_4 : decode cX6_init 4 = .ok (.aload_n 0, 1) := by decide +kernel
theorem dX6_init_5 : decode cX6_init 5 = .ok (.new 7, 3) := by decide +kernel
theorem dX6_init_8 : decode cX6_init 8 = .ok (.dup, 1) := by decide +kernel
theorem dX6_init_9 : decode cX6_init 9 = .ok (.invokespecial 9, 3) := by decide +kernel
theorem dX6_init_12 : decode cX6_init 12 = .ok (.putfield 10, 3) := by decide +kernel
theorem dX6_init_15 : decode cX6_init 15 = .ok (.aload_n 0, 1) := by decide +kernel
theorem dX6_init_16 : decode cX6_init 16 = .ok (.new 16, 3) := by decide +kernel
theorem dX6_init_19 : decode cX6_init 19 = .ok (.dup, 1) := by decide +kernel
theorem dX6_init_20 : decode cX6_init 20 = .ok (.invokespecial 18, 3) := by decide +kernel
theorem dX6_init_23 : decode cX6_init 23 = .ok (.putfield 19, 3) := by decide +kernel
theorem dX6_init_26 : decode cX6_init 26 = .ok (.aload_n 0, 1) := by decide +kernel
theorem dX6_init_27 : decode cX6_init 27 = .ok (.new 16, 3) := by decide +kernel
theorem dX6_init_30 : decode cX6_init 30 = .ok (.dup, 1) := by decide +kernel
theorem dX6_init_31 : decode cX6_init 31 = .ok (.invokespecial 18, 3) := by decide +kernel
theorem dX6_init_34 : decode cX6_init 34 = .ok (.putfield 23, 3) := by decide +kernel
theorem dX6_init_37 : decode cX6_init 37 = .ok (.aload_n 0, 1) := by decide +kernel
theorem dX6_init_38 : decode cX6_init 38 = .ok (.new 16, 3) := by decide +kernel
theorem dX6_init_41 : decode cX6_init 41 = .ok (.dup, 1) := by decide +kernel
theorem dX6_init_42 : decode cX6_init 42 = .ok (.invokespecial 18, 3) := by decide +kernel
theorem dX6_init_45 : decode cX6_init 45 = .ok (.putfield 26, 3) := by decide +kernel
theorem dX6_init_48 : decode cX6_init 48 = .ok (.aload_n 0, 1) := by decide +kernel
theorem dX6_init_49 : decode cX6_init 49 = .ok (.bipush 9, 2) := by decide +kernel
theorem dX6_init_51 : decode cX6_init 51 = .ok (.anewarray 16, 3) := by decide +kernel
theorem dX6_init_54 : decode cX6_init 54 = .ok (.putfield 29, 3) := by decide +kernel
theorem dX6_init_57 : decode cX6_init 57 = .ok (.aload_n 0, 1) := by decide +kernel
theorem dX6_init_58 : decode cX6_init 58 = .ok (.iconst 2, 1) := by decide +kernel
theorem dX6_init_59 : decode cX6_init 59 = .ok (.anewarray 16, 3) := by decide +kernel
theorem dX6_init_62 : decode cX6_init 62 = .ok (.putfield 33, 3) := by decide +kernel
theorem dX6_init_65 : decode cX6_init 65 = .ok (.aload_n 0, 1) := by decide +kernel
theorem dX6_init_66 : decode cX6_init 66 = .ok (.iconst 2, 1) := by decide +kernel
theorem dX6_init_67 : decode cX6_init 67 = .ok (.newarray .boolean, 2) := by decide +kernel
theorem dX6_init_69 : decode cX6_init 69 = .ok (.putfield 36, 3) := by decide +kernel
theorem dX6_init_72 : decode cX6_init 72 = .ok (.aload_n 0, 1) := by decide +kernel
theorem dX6_init_73 : decode cX6_init 73 = .ok (.iconst 4, 1) := by decide +kernel
theorem dX6_init_74 : decode cX6_init 74 = .ok (.anewarray 40, 3) := by decide +kernel
theorem dX6_init_77 : decode cX6_init 77 = .ok (.putfield 42, 3) := by decide +kernel
theorem dX6_init_80 : decode cX6_init 80 = .ok (.aload_n 0, 1) := by decide +kernel
theorem dX6_init_81 : decode cX6_init 81 = .ok (.new 46, 3) := by decide +kernel
theorem dX6_init_84 : decode cX6_init 84 = .ok (.dup, 1) := by decide +kernel
theorem dX6_init_85 : decode cX6_init 85 = .ok (.invokespecial 48, 3) := by decide +kernel
theorem dX6_init_88 : decode cX6_init 88 = .ok (.putfield 49, 3) := by decide +kernel
theorem dX6_init_91 : decode cX6_init 91 = .ok (.aload_n 0, 1) := by decide +kernel
theorem dX6_init_92 : decode cX6_init 92 = .ok (.new 53, 3) := by decide +kernel
theorem dX6_init_95 : decode cX6_init 95 = .ok (.dup, 1) := by decide +kernel
theorem dX6_init_96 : decode cX6_init 96 = .ok (.invokespecial 55, 3) := by decide +kernel
theorem dX6_init_99 : decode cX6_init 99 = .ok (.putfield 56, 3) := by decide +kernel
theorem dX6_init_102 : decode cX6_init 102 = .ok (.aload_n 0, 1) := by decide +kernel
theorem dX6_init_103 : decode cX6_init 103 = .ok (.iconst 0, 1) := by decide +kernel
theorem dX6_init_104 : decode cX6_init 104 = .ok (.putfield 60, 3) := by decide +kernel
theorem dX6_init_107 : decode cX6_init 107 = .ok (.aload_n 0, 1) := by decide +kernel
theorem dX6_init_108 : decode cX6_init 108 = .ok (.iconst 0, 1) := by decide +kernel
theorem dX6_init_109 : decode cX6_init 109 = .ok (.putfield 64, 3) := by decide +kernel
theorem dX6_init_112 : decode cX6_init 112 = .ok (.iconst 0, 1) := by decide +kernel
theorem dX6_init_113 : decode cX6_init 113 = .ok (.istore_n 1, 1) := by decide +kernel
theorem dX6_init_114 : decode cX6_init 114 = .ok (.iload_n 1, 1) := by decide +kernel
theorem dX6_init_115 : decode cX6_init 115 = .ok (.aload_n 0, 1) := by decide +kernel
theorem dX6_init_116 : decode cX6_init 116 = .ok (.getfield 29, 3) := by decide +kernel
theorem dX6_init_119 : decode cX6_init 119 = .ok (.arraylength, 1) := by decide +kernel
theorem dX6_init_120 : decode cX6_init 120 = .ok (.if_icmp .ge 22, 3) := by decide +kernel
theorem dX6_init_123 : decode cX6_init 123 = .ok (.aload_n 0, 1) := by decide +kernel
theorem dX6_init_124 : decode cX6_init 124 = .ok (.getfield 29, 3) := by decide +kernel
theorem dX6_init_127 : decode cX6_init 127 = .ok (.iload_n 1, 1) := by decide +kernel
theorem dX6_init_128 : decode cX6_init 128 = .ok (.new 16, 3) := by decide +kernel
theorem dX6_init_131 : decode cX6_init 131 = .ok (.dup, 1) := by decide +kernel
theorem dX6_init_132 : decode cX6_init 132 = .ok (.invokespecial 18, 3) := by decide +kernel
theorem dX6_init_135 : decode cX6_init 135 = .ok (.aastore, 1) := by decide +kernel
theorem dX6_init_136 : decode cX6_init 136 = .ok (.iinc 1 1, 3) := by decide +kernel
theorem dX6_init_139 : decode cX6_init 139 = .ok (.goto (-25), 3) := by decide +kernel
theorem dX6_init_142 : decode cX6_init 142 = .ok (.iconst 0, 1) := by decide +kernel
theorem dX6_init_143 : decode cX6_init 143 = .ok (.istore_n 1, 1) := by decide +kernel
theorem dX6_init_144 : decode cX6_init 144 = .ok (.iload_n 1, 1) := by decide +kernel
theorem dX6_init_145 : decode cX6_init 145 = .ok (.iconst 2, 1) := by decide +kernel
theorem dX6_init_146 : decode cX6_init 146 = .ok (.if_icmp .ge 22, 3) := by decide +kernel
theorem dX6_init_149 : decode cX6_init 149 = .ok (.aload_n 0, 1) := by decide +kernel
theorem dX6_init_150 : decode cX6_init 150 = .ok (.getfield 33, 3) := by decide +kernel
theorem dX6_init_153 : decode cX6_init 153 = .ok (.iload_n 1, 1) := by decide +kernel
theorem dX6_init_154 : decode cX6_init 154 = .ok (.new 16, 3) := by decide +kernel
theorem dX6_init_157 : decode cX6_init 157 = .ok (.dup, 1) := by decide +kernel
theorem dX6_init_158 : decode cX6_init 158 = .ok (.invokespecial 18, 3) := by decide +kernel
theorem dX6_init_161 : decode cX6_init 161 = .ok (.aastore, 1) := by decide +kernel
theorem dX6_init_162 : decode cX6_init 162 = .ok (.iinc 1 1, 3) := by decide +kernel
theorem dX6_init_165 : decode cX6_init 165 = .ok (.goto (-21), 3) := by decide +kernel
theorem dX6_init_168 : decode cX6_init 168 = .ok (.iconst 0, 1) := by decide +kernel
theorem dX6_init_169 : decode cX6_init 169 = .ok (.istore_n 1, 1) := by decide +kernel
theorem dX6_init_170 : decode cX6_init 170 = .ok (.iload_n 1, 1) := by decide +kernel
theorem dX6_init_171 : decode cX6_init 171 = .ok (.iconst 4, 1) := by decide +kernel
theorem dX6_init_172 : decode cX6_init 172 = .ok (.if_icmp .ge 22, 3) := by decide +kernel
theorem dX6_init_175 : decode cX6_init 175 = .ok (.aload_n 0, 1) := by decide +kernel
theorem dX6_init_176 : decode cX6_init 176 = .ok (.getfield 42, 3) := by decide +kernel
theorem dX6_init_179 : decode cX6_init 179 = .ok (.iload_n 1, 1) := by decide +kernel
theorem dX6_init_180 : decode cX6_init 180 = .ok (.new 40, 3) := by decide +kernel
theorem dX6_init_183 : decode cX6_init 183 = .ok (.dup, 1) := by decide +kernel
theorem dX6_init_184 : decode cX6_init 184 = .ok (.invokespecial 67, 3) := by decide +kernel
theorem dX6_init_187 : decode cX6_init 187 = .ok (.aastore, 1) := by decide +kernel
theorem dX6_init_188 : decode cX6_init 188 = .ok (.iinc 1 1, 3) := by decide +kernel
theorem dX6_init_191 : decode cX6_init 191 = .ok (.goto (-21), 3) := by decide +kernel
theorem dX6_init_194 : decode cX6_init 194 = .ok (.return_, 1) := by decide +kernel
set_option maxRecDepth 20000 in
theorem ggX6_feed_X3_append : GoodIn wsX6_feed wsX3_append := goodIn_r _ [7, 8, 9, 22, 23, 24, 25, 26, 27, 28, 29] (by decide +kernel) (by decide +kernel)
set_option maxRecDepth 20000 in
theorem gX6_feed_X3_append : GoodIn wsX6_feed (wsV RX6 68 RX3 yX3_append wsX3_append) := goodIn_app (goodIn_of _ (by decide +kernel)) ggX6_feed_X3_append
theorem dX6_feed_0 : decode cX6_feed 0 = .ok (.iload_n 1, 1) := by decide +kernel
theorem dX6_feed_1 : decode cX6_feed 1 = .ok (.ifCond .lt 9, 3) := by decide +kernel
theorem dX6_feed_4 : decode cX6_feed 4 = .ok (.iload_n 1, 1) := by decide +kernel
theorem dX6_feed_5 : decode cX6_feed 5 = .ok (.bipush 127, 2) := by decide +kernel
theorem dX6_feed_7 : decode cX6_feed 7 = .ok (.if_icmp .le 5, 3) := by decide +kernel
theorem dX6_feed_10 : decode cX6_feed 10 = .ok (.iconst (-1), 1) := by decide +kernel
theorem dX6_feed_11 : decode cX6_feed 11 = .ok (.ireturn, 1) := by decide +kernel
theorem dX6_feed_12 : decode cX6_feed 12 = .ok (.aload_n 0, 1) := by decide +kernel
theorem dX6_feed_13 : decode cX6_feed 13 = .ok (.getfield 10, 3) := by decide +kernel
theorem dX6_feed_16 : decode cX6_feed 16 = .ok (.iload_n 1, 1) := by decide +kernel
theorem dX6_feed_17 : decode cX6_feed 17 = .ok (.invokevirtual 68, 3) := by decide +kernel
theorem dX6_feed_20 : decode cX6_feed 20 = .ok (.ifCond .eq 13, 3) := by decide +kernel
theorem dX6_feed_23 : decode cX6_feed 23 = .ok (.aload_n 0, 1) := by decide +kernel
theorem dX6_feed_24 : decode cX6_feed 24 = .ok (.getfield 10, 3) := by decide +kernel
theorem dX6_feed_27 : decode cX6_feed 27 = .ok (.getfield 72, 3) := by decide +kernel
theorem dX6_feed_30 : decode cX6_feed 30 = .ok (.goto 5, 3) := by decide +kernel
theorem dX6_feed_33 : decode cX6_feed 33 = .ok (.bipush (-3), 2) := by decide +kernel
theorem dX6_feed_35 : decode cX6_feed 35 = .ok (.ireturn, 1) := by decide +kernel
theorem dX6_end_0 : decode cX6_end 0 = .ok (.iload_n 1, 1) := by decide +kernel
theorem dX6_end_1 : decode cX6_end 1 = .ok (.ifCond .lt 14, 3) := by decide +kernel
theorem dX6_end_4 : decode cX6_end 4 = .ok (.iload_n 1, 1) := by decide +kernel
theorem dX6_end_5 : decode cX6_end 5 = .ok (.aload_n 0, 1) := by decide +kernel
theorem dX6_end_6 : decode cX6_end 6 = .ok (.getfield 10, 3) := by decide +kernel
theorem dX6_end_9 : decode cX6_end 9 = .ok (.getfield 72, 3) := by decide +kernel
theorem dX6_end_12 : decode cX6_end 12 = .ok (.if_icmp .le 5, 3) := by decide +kernel
theorem dX6_end_15 : decode cX6_end 15 = .ok (.iconst (-1), 1) := by decide +kernel
theorem dX6_end_16 : decode cX6_end 16 = .ok (.ireturn, 1) := by decide +kernel
theorem dX6_end_17 : decode cX6_end 17 = .ok (.aload_n 0, 1) := by decide +kernel
theorem dX6_end_18 : decode cX6_end 18 = .ok (.getfield 10, 3) := by decide +kernel
theorem dX6_end_21 : decode cX6_end 21 = .ok (.getfield 72, 3) := by decide +kernel
theorem dX6_end_24 : decode cX6_end 24 = .ok (.istore_n 2, 1) := by decide +kernel
theorem dX6_end_25 : decode cX6_end 25 = .ok (.aload_n 0, 1) := by decide +kernel
theorem dX6_end_26 : decode cX6_end 26 = .ok (.getfield 10, 3) := by decide +kernel
theorem dX6_end_29 : decode cX6_end 29 = .ok (.iload_n 1, 1) := by decide +kernel
theorem dX6_end_30 : decode cX6_end 30 = .ok (.putfield 72, 3) := by decide +kernel
theorem dX6_end_33 : decode cX6_end 33 = .ok (.iload_n 2, 1) := by decide +kernel
theorem dX6_end_34 : decode cX6_end 34 = .ok (.ireturn, 1) := by decide +kernel
set_option maxRecDepth 20000 in
theorem ggX6_text_X1_restart : GoodIn wsX6_text wsX1_restart := goodIn_r _ [15, 16, 17, 18, 19, 20, 21, 206, 207, 208, 209, 210, 211, 212, 213, 214, 215, 216, 217] (by decide +kernel) (by decide +kernel)
set_option maxRecDepth 20000 in
theorem gX6_text_X1_restart : GoodIn wsX6_text (wsV RX6 75 RX1 yX1_restart wsX1_restart) := goodIn_app (goodIn_of _ (by decide +kernel)) ggX6_text_X1_restart
set_option maxRecDepth 20000 in
theorem ggX6_text_X3_readLines : GoodIn wsX6_text wsX3_readLines := goodIn_r _ [26, 27, 28, 29, 30, 31, 32, 33, 25, 34, 35, 36, 37, 38, 39, 40, 41, 42, 43, 44, 45, 46, 47, 48, 49, 50, 51, 52, 53, 54, 55, 56, 57, 58, 59, 60, 61, 62, 63, 64, 65, 66, 67, 68, 69, 70, 71, 72, 73, 74, 75, 76, 77, 78, 79, 80, 81, 82, 83, 84, 85, 86, 87, 88, 89, 90, 91, 92, 93, 94, 95, 96, 97, 98, 99, 100, 101, 102, 103, 104, 105, 106, 107, 108, 109, 110, 111, 112, 113, 114, 115, 116, 117, 118, 119, 120, 121, 122, 123, 124, 125, 126, 127, 128, 129, 130, 131, 132, 133, 134, 135, 136, 137, 14, 138, 20, 139, 140, 141, 142, 143, 144, 145, 146, 147, 148, 149, 150, 151, 152, 153, 154, 21, 155, 156, 157, 158, 159, 160, 161, 162, 163, 164, 165, 166, 16, 167, 168, 169, 170, 171, 172, 173, 174, 175, 192, 193, 194, 195, 196, 197, 198, 199, 206, 207, 208, 209, 210, 211, 212, 213, 214, 215, 216, 217] (by decide +kernel) (by decide +kernel)
set_option maxRecDepth 20000 in
theorem gX6_text_X3_readLines : GoodIn wsX6_text (wsV RX6 78 RX3 yX3_readLines wsX3_readLines) := goodIn_app (goodIn_of _ (by decide +kernel)) ggX6_text_X3_readLines
set_option maxRecDepth 20000 in
theorem ggX6_text_X1_become : GoodIn wsX6_text wsX1_become := goodIn_r _ [179, 16, 17, 18, 19, 20, 21, 139, 140, 141, 155, 156, 157, 206, 207, 208, 209, 210, 211, 212, 213, 214, 215, 216, 217] (by decide +kernel) (by decide +kernel)
set_option maxRecDepth 20000 in
theorem gX6_text_X1_become : GoodIn wsX6_text (wsV RX6 86 RX1 yX1_become wsX1_become) := goodIn_app (goodIn_of _ (by decide +kernel)) ggX6_text_X1_become
theorem dX6_text_0 : decode cX6_text 0 = .ok (.aload_n 0, 1) := by decide +kernel
theorem dX6_text_1 : decode cX6_text 1 = .ok (.getfield 26, 3) := by decide +kernel
theorem dX6_text_4 : decode cX6_text 4 = .ok (.invokevirtual 75, 3) := by decide +kernel
theorem dX6_text_7 : decode cX6_text 7 = .ok (.aload_n 0, 1) := by decide +kernel
theorem dX6_text_8 : decode cX6_text 8 = .ok (.getfield 10, 3) := by decide +kernel
theorem dX6_text_11 : decode cX6_text 11 = .ok (.aload_n 0, 1) := by decide +kernel
theorem dX6_text_12 : decode cX6_text 12 = .ok (.getfield 26, 3) := by decide +kernel
theorem dX6_text_15 : decode cX6_text 15 = .ok (.invokevirtual 78, 3) := by decide +kernel
theorem dX6_text_18 : decode cX6_text 18 = .ok (.istore_n 1, 1) := by decide +kernel
theorem dX6_text_19 : decode cX6_text 19 = .ok (.aload_n 0, 1) := by decide +kernel
theorem dX6_text_20 : decode cX6_text 20 = .ok (.getfield 10, 3) := by decide +kernel
theorem dX6_text_23 : decode cX6_text 23 = .ok (.iconst 0, 1) := by decide +kernel
theorem dX6_text_24 : decode cX6_text 24 = .ok (.putfield 72, 3) := by decide +kernel
theorem dX6_text_27 : decode cX6_text 27 = .ok (.aload_n 0, 1) := by decide +kernel
theorem dX6_text_28 : decode cX6_text 28 = .ok (.aload_n 0, 1) := by decide +kernel
theorem dX6_text_29 : decode cX6_text 29 = .ok (.getfield 10, 3) := by decide +kernel
theorem dX6_text_32 : decode cX6_text 32 = .ok (.getfield 82, 3) := by decide +kernel
theorem dX6_text_35 : decode cX6_text 35 = .ok (.putfield 60, 3) := by decide +kernel
theorem dX6_text_38 : decode cX6_text 38 = .ok (.aload_n 0, 1) := by decide +kernel
theorem dX6_text_39 : decode cX6_text 39 = .ok (.getfield 60, 3) := by decide +kernel
theorem dX6_text_42 : decode cX6_text 42 = .ok (.ifCond .eq 14, 3) := by decide +kernel
theorem dX6_text_45 : decode cX6_text 45 = .ok (.bipush (-10), 2) := by decide +kernel
theorem dX6_text_47 : decode cX6_text 47 = .ok (.aload_n 0, 1) := by decide +kernel
theorem dX6_text_48 : decode cX6_text 48 = .ok (.getfield 10, 3) := by decide +kernel
theorem dX6_text_51 : decode cX6_text 51 = .ok (.getfield 83, 3) := by decide +kernel
theorem dX6_text_54 : decode cX6_text 54 = .ok (.isub, 1) := by decide +kernel
theorem dX6_text_55 : decode cX6_text 55 = .ok (.ireturn, 1) := by decide +kernel
theorem dX6_text_56 : decode cX6_text 56 = .ok (.aload_n 0, 1) := by decide +kernel
theorem dX6_text_57 : decode cX6_text 57 = .ok (.getfield 19, 3) := by decide +kernel
theorem dX6_text_60 : decode cX6_text 60 = .ok (.aload_n 0, 1) := by decide +kernel
theorem dX6_text_61 : decode cX6_text 61 = .ok (.getfield 26, 3) := by decide +kernel
theorem dX6_text_64 : decode cX6_text 64 = .ok (.invokevirtual 86, 3) := by decide +kernel
theorem dX6_text_67 : decode cX6_text 67 = .ok (.aload_n 0, 1) := by decide +kernel
theorem dX6_text_68 : decode cX6_text 68 = .ok (.getfield 49, 3) := by decide +kernel
theorem dX6_text_71 : decode cX6_text 71 = .ok (.iconst 0, 1) := by decide +kernel
theorem dX6_text_72 : decode cX6_text 72 = .ok (.putfield 90, 3) := by decide +kernel
theorem dX6_text_75 : decode cX6_text 75 = .ok (.aload_n 0, 1) := by decide +kernel
theorem dX6_text_76 : decode cX6_text 76 = .ok (.getfield 36, 3) := by decide +kernel
theorem dX6_text_79 : decode cX6_text 79 = .ok (.iconst 0, 1) := by decide +kernel
theorem dX6_text_80 : decode cX6_text 80 = .ok (.iconst 0, 1) := by decide +kernel
theorem dX6_text_81 : decode cX6_text 81 = .ok (.bastore, 1) := by decide +kernel
theorem dX6_text_82 : decode cX6_text 82 = .ok (.aload_n 0, 1) := by decide +kernel
theorem dX6_text_83 : decode cX6_text 83 = .ok (.getfield 36, 3) := by decide +kernel
theorem dX6_text_86 : decode cX6_text 86 = .ok (.iconst 1, 1) := by decide +kernel
theorem dX6_text_87 : decode cX6_text 87 = .ok (.iconst 0, 1) := by decide +kernel
theorem dX6_text_88 : decode cX6_text 88 = .ok (.bastore, 1) := by decide +kernel
theorem dX6_text_89 : decode cX6_text 89 = .ok (.iload_n 1, 1) := by decide +kernel
theorem dX6_text_90 : decode cX6_text 90 = .ok (.ireturn, 1) := by decide +kernel
theorem dX6_fault_0 : decode cX6_fault 0 = .ok (.aload_n 0, 1) := by decide +kernel
theorem dX6_fault_1 : decode cX6_fault 1 = .ok (.getfield 60, 3) := by decide +kernel
theorem dX6_fault_4 : decode cX6_fault 4 = .ok (.ireturn, 1) := by decide +kernel
set_option maxRecDepth 20000 in
theorem ggX6_rule_J6_bitCount_0f7a4 : GoodIn wsX6_rule wsJ6_bitCount_0f7a4 := goodIn_r _ [11, 12, 13, 14] (by decide +kernel) (by decide +kernel)
set_option maxRecDepth 20000 in
theorem gX6_rule_J6_bitCount_0f7a4 : GoodIn wsX6_rule (va_wsS RX6 108 yJ6_bitCount_0f7a4 wsJ6_bitCount_0f7a4) := goodIn_app (goodIn_of _ (by decide +kernel)) ggX6_rule_J6_bitCount_0f7a4
set_option maxRecDepth 20000 in
theorem ggX6_rule_X1_whoIs : GoodIn wsX6_rule wsX1_whoIs := goodIn_r _ [19, 20, 21, 34, 35, 36, 37, 38, 39, 40, 41, 42, 43, 44, 45] (by decide +kernel) (by decide +kernel)
set_option maxRecDepth 20000 in
theorem gX6_rule_X1_whoIs : GoodIn wsX6_rule (wsV RX6 114 RX1 yX1_whoIs wsX1_whoIs) := goodIn_app (goodIn_of _ (by decide +kernel)) ggX6_rule_X1_whoIs
theorem dX6_rule_0 : decode cX6_rule 0 = .ok (.iload_n 1, 1) := by decide +kernel
theorem dX6_rule_1 : decode cX6_rule 1 = .ok (.tableswitch 116 0 7 #[47, 55, 63, 71, 79, 90, 99, 108], 47) := by decide +kernel
theorem dX6_rule_48 : decode cX6_rule 48 = .ok (.aload_n 0, 1) := by decide +kernel
theorem dX6_rule_49 : decode cX6_rule 49 = .ok (.getfield 19, 3) := by decide +kernel
theorem dX6_rule_52 : decode cX6_rule 52 = .ok (.getfield 93, 3) := by decide +kernel
theorem dX6_rule_55 : decode cX6_rule 55 = .ok (.ireturn, 1) := by decide +kernel
theorem dX6_rule_56 : decode cX6_rule 56 = .ok (.aload_n 0, 1) := by decide +kernel
theorem dX6_rule_57 : decode cX6_rule 57 = .ok (.getfield 19, 3) := by decide +kernel
theorem dX6_rule_60 : decode cX6_rule 60 = .ok (.getfield 96, 3) := by decide +kernel
theorem dX6_rule_63 : decode cX6_rule 63 = .ok (.ireturn, 1) := by decide +kernel
theorem dX6_rule_64 : decode cX6_rule 64 = .ok (.aload_n 0, 1) := by decide +kernel
theorem dX6_rule_65 : decode cX6_rule 65 = .ok (.getfield 19, 3) := by decide +kernel
theorem dX6_rule_68 : decode cX6_rule 68 = .ok (.getfield 99, 3) := by decide +kernel
theorem dX6_rule_71 : decode cX6_rule 71 = .ok (.ireturn, 1) := by decide +kernel
theorem dX6_rule_72 : decode cX6_rule 72 = .ok (.aload_n 0, 1) := by decide +kernel
theorem dX6_rule_73 : decode cX6_rule 73 = .ok (.getfield 19, 3) := by decide +kernel
theorem dX6_rule_76 : decode cX6_rule 76 = .ok (.getfield 102, 3) := by decide +kernel
theorem dX6_rule_79 : decode cX6_rule 79 = .ok (.ireturn, 1) := by decide +kernel
theorem dX6_rule_80 : decode cX6_rule 80 = .ok (.aload_n 0, 1) := by decide +kernel
theorem dX6_rule_81 : decode cX6_rule 81 = .ok (.getfield 19, 3) := by decide +kernel
theorem dX6_rule_84 : decode cX6_rule 84 = .ok (.getfield 105, 3) := by decide +kernel
theorem dX6_rule_87 : decode cX6_rule 87 = .ok (.invokestatic 108, 3) := by decide +kernel
theorem dX6_rule_90 : decode cX6_rule 90 = .ok (.ireturn, 1) := by decide +kernel
theorem dX6_rule_91 : decode cX6_rule 91 = .ok (.aload_n 0, 1) := by decide +kernel
theorem dX6_rule_92 : decode cX6_rule 92 = .ok (.getfield 19, 3) := by decide +kernel
theorem dX6_rule_95 : decode cX6_rule 95 = .ok (.iconst 1, 1) := by decide +kernel
theorem dX6_rule_96 : decode cX6_rule 96 = .ok (.invokevirtual 114, 3) := by decide +kernel
theorem dX6_rule_99 : decode cX6_rule 99 = .ok (.ireturn, 1) := by decide +kernel
theorem dX6_rule_100 : decode cX6_rule 100 = .ok (.aload_n 0, 1) := by decide +kernel
theorem dX6_rule_101 : decode cX6_rule 101 = .ok (.getfield 19, 3) := by decide +kernel
theorem dX6_rule_104 : decode cX6_rule 104 = .ok (.iconst 2, 1) := by decide +kernel
theorem dX6_rule_105 : decode cX6_rule 105 = .ok (.invokevirtual 114, 3) := by decide +kernel
theorem dX6_rule_108 : decode cX6_rule 108 = .ok (.ireturn, 1) := by decide +kernel
theorem dX6_rule_109 : decode cX6_rule 109 = .ok (.aload_n 0, 1) := by decide +kernel
theorem dX6_rule_110 : decode cX6_rule 110 = .ok (.getfield 19, 3) := by decide +kernel
theorem dX6_rule_113 : decode cX6_rule 113 = .ok (.getfield 117, 3) := by decide +kernel
theorem dX6_rule_116 : decode cX6_rule 116 = .ok (.ireturn, 1) := by decide +kernel
theorem dX6_rule_117 : decode cX6_rule 117 = .ok (.iconst (-1), 1) := by decide +kernel
theorem dX6_rule_118 : decode cX6_rule 118 = .ok (.ireturn, 1) := by decide +kernel
set_option maxRecDepth 20000 in
theorem ggX6_hedge_X6_isHedge : GoodIn wsX6_hedge wsX6_isHedge := goodIn_r _ [5] (by decide +kernel) (by decide +kernel)
set_option maxRecDepth 20000 in
theorem gX6_hedge_X6_isHedge : GoodIn wsX6_hedge (va_wsS RX6 120 yX6_isHedge wsX6_isHedge) := goodIn_app (goodIn_of _ (by decide +kernel)) ggX6_hedge_X6_isHedge
set_option maxRecDepth 20000 in
theorem ggX6_hedge_X1_standing : GoodIn wsX6_hedge wsX1_standing := goodIn_r _ [10, 11, 24, 25, 26, 27, 28, 29, 30, 31, 32, 33, 34, 35] (by decide +kernel) (by decide +kernel)
set_option maxRecDepth 20000 in
theorem gX6_hedge_X1_standing : GoodIn wsX6_hedge (wsV RX6 123 RX1 yX1_standing wsX1_standing) := goodIn_app (goodIn_of _ (by decide +kernel)) ggX6_hedge_X1_standing
theorem dX6_hedge_0 : decode cX6_hedge 0 = .ok (.iload_n 1, 1) := by decide +kernel
theorem dX6_hedge_1 : decode cX6_hedge 1 = .ok (.invokestatic 120, 3) := by decide +kernel
theorem dX6_hedge_4 : decode cX6_hedge 4 = .ok (.ifCond .eq 14, 3) := by decide +kernel
theorem dX6_hedge_7 : decode cX6_hedge 7 = .ok (.aload_n 0, 1) := by decide +kernel
theorem dX6_hedge_8 : decode cX6_hedge 8 = .ok (.getfield 19, 3) := by decide +kernel
theorem dX6_hedge_11 : decode cX6_hedge 11 = .ok (.iload_n 1, 1) := by decide +kernel
theorem dX6_hedge_12 : decode cX6_hedge 12 = .ok (.invokevirtual 123, 3) := by decide +kernel
theorem dX6_hedge_15 : decode cX6_hedge 15 = .ok (.goto 4, 3) := by decide +kernel
theorem dX6_hedge_18 : decode cX6_hedge 18 = .ok (.iconst (-1), 1) := by decide +kernel
theorem dX6_hedge_19 : decode cX6_hedge 19 = .ok (.ireturn, 1) := by decide +kernel
set_option maxRecDepth 20000 in
theorem ggX6_gardener_X6_isGardener : GoodIn wsX6_gardener wsX6_isGardener := goodIn_r _ [6, 1, 7, 21, 22, 23, 24, 25, 26, 27, 28, 29, 30, 31, 32, 33, 34, 35, 36, 37, 38, 39, 40, 41, 42, 43, 44] (by decide +kernel) (by decide +kernel)
set_option maxRecDepth 20000 in
theorem gX6_gardener_X6_isGardener : GoodIn wsX6_gardener (wsV RX6 126 RX6 yX6_isGardener wsX6_isGardener) := goodIn_app (goodIn_of _ (by decide +kernel)) ggX6_gardener_X6_isGardener
set_option maxRecDepth 20000 in
theorem ggX6_gardener_X1_goal : GoodIn wsX6_gardener wsX1_goal := goodIn_r _ [12, 13, 14, 15, 33, 34, 35, 36, 37, 38, 39, 40, 41, 42, 43, 44] (by decide +kernel) (by decide +kernel)
set_option maxRecDepth 20000 in
theorem gX6_gardener_X1_goal : GoodIn wsX6_gardener (wsV RX6 129 RX1 yX1_goal wsX1_goal) := goodIn_app (goodIn_of _ (by decide +kernel)) ggX6_gardener_X1_goal
set_option maxRecDepth 20000 in
theorem ggX6_gardener_X1_trait : GoodIn wsX6_gardener wsX1_trait := goodIn_r _ [19, 13, 15, 20, 33, 34, 35, 36, 37, 38, 39, 40, 41, 42, 43, 44] (by decide +kernel) (by decide +kernel)
set_option maxRecDepth 20000 in
theorem gX6_gardener_X1_trait : GoodIn wsX6_gardener (wsV RX6 132 RX1 yX1_trait wsX1_trait) := goodIn_app (goodIn_of _ (by decide +kernel)) ggX6_gardener_X1_trait
theorem dX6_gardener_0 : decode cX6_gardener 0 = .ok (.aload_n 0, 1) := by decide +kernel
theorem dX6_gardener_1 : decode cX6_gardener 1 = .ok (.iload_n 1, 1) := by decide +kernel
theorem dX6_gardener_2 : decode cX6_gardener 2 = .ok (.invokevirtual 126, 3) := by decide +kernel
theorem dX6_gardener_5 : decode cX6_gardener 5 = .ok (.ifCond .eq 12, 3) := by decide +kernel
theorem dX6_gardener_8 : decode cX6_gardener 8 = .ok (.iload_n 2, 1) := by decide +kernel
theorem dX6_gardener_9 : decode cX6_gardener 9 = .ok (.ifCond .lt 8, 3) := by decide +kernel
theorem dX6_gardener_12 : decode cX6_gardener 12 = .ok (.iload_n 2, 1) := by decide +kernel
theorem dX6_gardener_13 : decode cX6_gardener 13 = .ok (.iconst 3, 1) := by decide +kernel
theorem dX6_gardener_14 : decode cX6_gardener 14 = .ok (.if_icmp .le 5, 3) := by decide +kernel
theorem dX6_gardener_17 : decode cX6_gardener 17 = .ok (.iconst (-1), 1) := by decide +kernel
theorem dX6_gardener_18 : decode cX6_gardener 18 = .ok (.ireturn, 1) := by decide +kernel
theorem dX6_gardener_19 : decode cX6_gardener 19 = .ok (.iload_n 2, 1) := by decide +kernel
theorem dX6_gardener_20 : decode cX6_gardener 20 = .ok (.iconst 3, 1) := by decide +kernel
theorem dX6_gardener_21 : decode cX6_gardener 21 = .ok (.if_icmp .ne 14, 3) := by decide +kernel
theorem dX6_gardener_24 : decode cX6_gardener 24 = .ok (.aload_n 0, 1) := by decide +kernel
theorem dX6_gardener_25 : decode cX6_gardener 25 = .ok (.getfield 19, 3) := by decide +kernel
theorem dX6_gardener_28 : decode cX6_gardener 28 = .ok (.iload_n 1, 1) := by decide +kernel
theorem dX6_gardener_29 : decode cX6_gardener 29 = .ok (.invokevirtual 129, 3) := by decide +kernel
theorem dX6_gardener_32 : decode cX6_gardener 32 = .ok (.goto 13, 3) := by decide +kernel
theorem dX6_gardener_35 : decode cX6_gardener 35 = .ok (.aload_n 0, 1) := by decide +kernel
theorem dX6_gardener_36 : decode cX6_gardener 36 = .ok (.getfield 19, 3) := by decide +kernel
theorem dX6_gardener_39 : decode cX6_gardener 39 = .ok (.iload_n 2, 1) := by decide +kernel
theorem dX6_gardener_40 : decode cX6_gardener 40 = .ok (.invokevirtual 132, 3) := by decide +kernel
theorem dX6_gardener_43 : decode cX6_gardener 43 = .ok (.iload_n 1, 1) := by decide +kernel
theorem dX6_gardener_44 : decode cX6_gardener 44 = .ok (.iaload, 1) := by decide +kernel
theorem dX6_gardener_45 : decode cX6_gardener 45 = .ok (.ireturn, 1) := by decide +kernel
set_option maxRecDepth 20000 in
theorem ggX6_guest_X6_isGuest : GoodIn wsX6_guest wsX6_isGuest := goodIn_r _ [6, 1, 7, 16, 17, 18, 19, 20, 21, 22, 23, 24, 25, 26, 27, 28, 29, 30, 31, 32, 33, 34, 35, 36, 37, 38, 39] (by decide +kernel) (by decide +kernel)
set_option maxRecDepth 20000 in
theorem gX6_guest_X6_isGuest : GoodIn wsX6_guest (wsV RX6 136 RX6 yX6_isGuest wsX6_isGuest) := goodIn_app (goodIn_of _ (by decide +kernel)) ggX6_guest_X6_isGuest
set_option maxRecDepth 20000 in
theorem ggX6_guest_X1_lot : GoodIn wsX6_guest wsX1_lot := goodIn_r _ [12, 13, 14, 15, 28, 29, 30, 31, 32, 33, 34, 35, 36, 37, 38, 39] (by decide +kernel) (by decide +kernel)
set_option maxRecDepth 20000 in
theorem gX6_guest_X1_lot : GoodIn wsX6_guest (wsV RX6 139 RX1 yX1_lot wsX1_lot) := goodIn_app (goodIn_of _ (by decide +kernel)) ggX6_guest_X1_lot
theorem dX6_guest_0 : decode cX6_guest 0 = .ok (.aload_n 0, 1) := by decide +kernel
theorem dX6_guest_1 : decode cX6_guest 1 = .ok (.iload_n 1, 1) := by decide +kernel
theorem dX6_guest_2 : decode cX6_guest 2 = .ok (.invokevirtual 136, 3) := by decide +kernel
theorem dX6_guest_5 : decode cX6_guest 5 = .ok (.ifCond .eq 25, 3) := by decide +kernel
theorem dX6_guest_8 : decode cX6_guest 8 = .ok (.iload_n 2, 1) := by decide +kernel
theorem dX6_guest_9 : decode cX6_guest 9 = .ok (.ifCond .lt 21, 3) := by decide +kernel
theorem dX6_guest_12 : decode cX6_guest 12 = .ok (.iload_n 2, 1) := by decide +kernel
theorem dX6_guest_13 : decode cX6_guest 13 = .ok (.iconst 2, 1) := by decide +kernel
theorem dX6_guest_14 : decode cX6_guest 14 = .ok (.if_icmp .gt 16, 3) := by decide +kernel
theorem dX6_guest_17 : decode cX6_guest 17 = .ok (.aload_n 0, 1) := by decide +kernel
theorem dX6_guest_18 : decode cX6_guest 18 = .ok (.getfield 19, 3) := by decide +kernel
theorem dX6_guest_21 : decode cX6_guest 21 = .ok (.iload_n 2, 1) := by decide +kernel
theorem dX6_guest_22 : decode cX6_guest 22 = .ok (.invokevirtual 139, 3) := by decide +kernel
theorem dX6_guest_25 : decode cX6_guest 25 = .ok (.iload_n 1, 1) := by decide +kernel
theorem dX6_guest_26 : decode cX6_guest 26 = .ok (.iaload, 1) := by decide +kernel
theorem dX6_guest_27 : decode cX6_guest 27 = .ok (.goto 4, 3) := by decide +kernel
theorem dX6_guest_30 : decode cX6_guest 30 = .ok (.iconst (-1), 1) := by decide +kernel
theorem dX6_guest_31 : decode cX6_guest 31 = .ok (.ireturn, 1) := by decide +kernel
set_option maxRecDepth 20000 in
theorem ggX6_way_X6_isPlot : GoodIn wsX6_way wsX6_isPlot := goodIn_r _ [6] (by decide +kernel) (by decide +kernel)
set_option maxRecDepth 20000 in
theorem gX6_way_X6_isPlot : GoodIn wsX6_way (va_wsS RX6 142 yX6_isPlot wsX6_isPlot) := goodIn_app (goodIn_of _ (by decide +kernel)) ggX6_way_X6_isPlot
set_option maxRecDepth 20000 in
theorem ggX6_way_X2_steps : GoodIn wsX6_way wsX2_steps := goodIn_r _ [10, 11, 12, 9, 13] (by decide +kernel) (by decide +kernel)
set_option maxRecDepth 20000 in
theorem gX6_way_X2_steps : GoodIn wsX6_way (va_wsS RX6 145 yX2_steps wsX2_steps) := goodIn_app (goodIn_of _ (by decide +kernel)) ggX6_way_X2_steps
theorem dX6_way_0 : decode cX6_way 0 = .ok (.iload_n 1, 1) := by decide +kernel
theorem dX6_way_1 : decode cX6_way 1 = .ok (.invokestatic 142, 3) := by decide +kernel
theorem dX6_way_4 : decode cX6_way 4 = .ok (.ifCond .eq 25, 3) := by decide +kernel
theorem dX6_way_7 : decode cX6_way 7 = .ok (.iload_n 2, 1) := by decide +kernel
theorem dX6_way_8 : decode cX6_way 8 = .ok (.invokestatic 142, 3) := by decide +kernel
theorem dX6_way_11 : decode cX6_way 11 = .ok (.ifCond .eq 18, 3) := by decide +kernel
theorem dX6_way_14 : decode cX6_way 14 = .ok (.aload_n 0, 1) := by decide +kernel
theorem dX6_way_15 : decode cX6_way 15 = .ok (.getfield 19, 3) := by decide +kernel
theorem dX6_way_18 : decode cX6_way 18 = .ok (.getfield 105, 3) := by decide +kernel
theorem dX6_way_21 : decode cX6_way 21 = .ok (.iload_n 1, 1) := by decide +kernel
theorem dX6_way_22 : decode cX6_way 22 = .ok (.iload_n 2, 1) := by decide +kernel
theorem dX6_way_23 : decode cX6_way 23 = .ok (.invokestatic 145, 3) := by decide +kernel
theorem dX6_way_26 : decode cX6_way 26 = .ok (.goto 4, 3) := by decide +kernel
theorem dX6_way_29 : decode cX6_way 29 = .ok (.iconst (-1), 1) := by decide +kernel
theorem dX6_way_30 : decode cX6_way 30 = .ok (.ireturn, 1) := by decide +kernel
set_option maxRecDepth 20000 in
theorem ggX6_turn_X6_isPlot : GoodIn wsX6_turn wsX6_isPlot := goodIn_r _ [7] (by decide +kernel) (by decide +kernel)
set_option maxRecDepth 20000 in
theorem gX6_turn_X6_isPlot : GoodIn wsX6_turn (va_wsS RX6 142 yX6_isPlot wsX6_isPlot) := goodIn_app (goodIn_of _ (by decide +kernel)) ggX6_turn_X6_isPlot
set_option maxRecDepth 20000 in
theorem ggX6_turn_X2_toward : GoodIn wsX6_turn wsX2_toward := goodIn_r _ [11, 12, 13, 10, 14, 15, 16, 17, 18, 19] (by decide +kernel) (by decide +kernel)
set_option maxRecDepth 20000 in
theorem gX6_turn_X2_toward : GoodIn wsX6_turn (va_wsS RX6 151 yX2_toward wsX2_toward) := goodIn_app (goodIn_of _ (by decide +kernel)) ggX6_turn_X2_toward
theorem dX6_turn_0 : decode cX6_turn 0 = .ok (.iload_n 1, 1) := by decide +kernel
theorem dX6_turn_1 : decode cX6_turn 1 = .ok (.invokestatic 142, 3) := by decide +kernel
theorem dX6_turn_4 : decode cX6_turn 4 = .ok (.ifCond .eq 24, 3) := by decide +kernel
theorem dX6_turn_7 : decode cX6_turn 7 = .ok (.aload_n 0, 1) := by decide +kernel
theorem dX6_turn_8 : decode cX6_turn 8 = .ok (.getfield 19, 3) := by decide +kernel
theorem dX6_turn_11 : decode cX6_turn 11 = .ok (.getfield 105, 3) := by decide +kernel
theorem dX6_turn_14 : decode cX6_turn 14 = .ok (.iload_n 1, 1) := by decide +kernel
theorem dX6_turn_15 : decode cX6_turn 15 = .ok (.aload_n 0, 1) := by decide +kernel
theorem dX6_turn_16 : decode cX6_turn 16 = .ok (.getfield 19, 3) := by decide +kernel
theorem dX6_turn_19 : decode cX6_turn 19 = .ok (.getfield 102, 3) := by decide +kernel
theorem dX6_turn_22 : decode cX6_turn 22 = .ok (.invokestatic 151, 3) := by decide +kernel
theorem dX6_turn_25 : decode cX6_turn 25 = .ok (.goto 4, 3) := by decide +kernel
theorem dX6_turn_28 : decode cX6_turn 28 = .ok (.iconst (-1), 1) := by decide +kernel
theorem dX6_turn_29 : decode cX6_turn 29 = .ok (.ireturn, 1) := by decide +kernel
set_option maxRecDepth 20000 in
theorem ggX6_grow_X6_isHedge : GoodIn wsX6_grow wsX6_isHedge := goodIn_r _ [6] (by decide +kernel) (by decide +kernel)
set_option maxRecDepth 20000 in
theorem gX6_grow_X6_isHedge : GoodIn wsX6_grow (va_wsS RX6 120 yX6_isHedge wsX6_isHedge) := goodIn_app (goodIn_of _ (by decide +kernel)) ggX6_grow_X6_isHedge
set_option maxRecDepth 20000 in
theorem ggX6_grow_X6_isBit : GoodIn wsX6_grow wsX6_isBit := goodIn_r _ [9] (by decide +kernel) (by decide +kernel)
set_option maxRecDepth 20000 in
theorem gX6_grow_X6_isBit : GoodIn wsX6_grow (va_wsS RX6 154 yX6_isBit wsX6_isBit) := goodIn_app (goodIn_of _ (by decide +kernel)) ggX6_grow_X6_isBit
set_option maxRecDepth 20000 in
theorem ggX6_grow_X1_standing : GoodIn wsX6_grow wsX1_standing := goodIn_r _ [14, 15, 32, 33, 34, 35, 36, 37, 38, 39, 40, 41, 42, 43] (by decide +kernel) (by decide +kernel)
set_option maxRecDepth 20000 in
theorem gX6_grow_X1_standing : GoodIn wsX6_grow (wsV RX6 123 RX1 yX1_standing wsX1_standing) := goodIn_app (goodIn_of _ (by decide +kernel)) ggX6_grow_X1_standing
set_option maxRecDepth 20000 in
theorem ggX6_grow_X2_with : GoodIn wsX6_grow wsX2_with := goodIn_r _ [19] (by decide +kernel) (by decide +kernel)
set_option maxRecDepth 20000 in
theorem gX6_grow_X2_with : GoodIn wsX6_grow (va_wsS RX6 157 yX2_with wsX2_with) := goodIn_app (goodIn_of _ (by decide +kernel)) ggX6_grow_X2_with
theorem dX6_grow_0 : decode cX6_grow 0 = .ok (.iload_n 1, 1) := by decide +kernel
theorem dX6_grow_1 : decode cX6_grow 1 = .ok (.invokestatic 120, 3) := by decide +kernel
theorem dX6_grow_4 : decode cX6_grow 4 = .ok (.ifCond .eq 10, 3) := by decide +kernel
theorem dX6_grow_7 : decode cX6_grow 7 = .ok (.iload_n 2, 1) := by decide +kernel
theorem dX6_grow_8 : decode cX6_grow 8 = .ok (.invokestatic 154, 3) := by decide +kernel
theorem dX6_grow_11 : decode cX6_grow 11 = .ok (.ifCond .ne 5, 3) := by decide +kernel
theorem dX6_grow_14 : decode cX6_grow 14 = .ok (.iconst (-1), 1) := by decide +kernel
theorem dX6_grow_15 : decode cX6_grow 15 = .ok (.ireturn, 1) := by decide +kernel
theorem dX6_grow_16 : decode cX6_grow 16 = .ok (.aload_n 0, 1) := by decide +kernel
theorem dX6_grow_17 : decode cX6_grow 17 = .ok (.getfield 19, 3) := by decide +kernel
theorem dX6_grow_20 : decode cX6_grow 20 = .ok (.iload_n 1, 1) := by decide +kernel
theorem dX6_grow_21 : decode cX6_grow 21 = .ok (.invokevirtual 123, 3) := by decide +kernel
theorem dX6_grow_24 : decode cX6_grow 24 = .ok (.istore_n 3, 1) := by decide +kernel
theorem dX6_grow_25 : decode cX6_grow 25 = .ok (.aload_n 0, 1) := by decide +kernel
theorem dX6_grow_26 : decode cX6_grow 26 = .ok (.getfield 19, 3) := by decide +kernel
theorem dX6_grow_29 : decode cX6_grow 29 = .ok (.aload_n 0, 1) := by decide +kernel
theorem dX6_grow_30 : decode cX6_grow 30 = .ok (.getfield 19, 3) := by decide +kernel
theorem dX6_grow_33 : decode cX6_grow 33 = .ok (.getfield 105, 3) := by decide +kernel
theorem dX6_grow_36 : decode cX6_grow 36 = .ok (.iload_n 1, 1) := by decide +kernel
theorem dX6_grow_37 : decode cX6_grow 37 = .ok (.iload_n 2, 1) := by decide +kernel
theorem dX6_grow_38 : decode cX6_grow 38 = .ok (.invokestatic 157, 3) := by decide +kernel
theorem dX6_grow_41 : decode cX6_grow 41 = .ok (.putfield 105, 3) := by decide +kernel
theorem dX6_grow_44 : decode cX6_grow 44 = .ok (.iload_n 3, 1) := by decide +kernel
theorem dX6_grow_45 : decode cX6_grow 45 = .ok (.ireturn, 1) := by decide +kernel
set_option maxRecDepth 20000 in
theorem ggX6_alter_X6_isGardener : GoodIn wsX6_alter wsX6_isGardener := goodIn_r _ [6, 1, 7, 19, 20, 21, 22, 23, 24, 25, 26, 27, 28, 29, 30, 31, 32, 33, 34, 35, 36, 37, 38, 39, 40, 41, 42] (by decide +kernel) (by decide +kernel)
set_option maxRecDepth 20000 in
theorem gX6_alter_X6_isGardener : GoodIn wsX6_alter (wsV RX6 126 RX6 yX6_isGardener wsX6_isGardener) := goodIn_app (goodIn_of _ (by decide +kernel)) ggX6_alter_X6_isGardener
set_option maxRecDepth 20000 in
theorem ggX6_alter_X1_isTrait : GoodIn wsX6_alter wsX1_isTrait := goodIn_r _ [11] (by decide +kernel) (by decide +kernel)
set_option maxRecDepth 20000 in
theorem gX6_alter_X1_isTrait : GoodIn wsX6_alter (va_wsS RX6 160 yX1_isTrait wsX1_isTrait) := goodIn_app (goodIn_of _ (by decide +kernel)) ggX6_alter_X1_isTrait
set_option maxRecDepth 20000 in
theorem ggX6_alter_X1_trait : GoodIn wsX6_alter wsX1_trait := goodIn_r _ [15, 16, 17, 18, 31, 32, 33, 34, 35, 36, 37, 38, 39, 40, 41, 42] (by decide +kernel) (by decide +kernel)
set_option maxRecDepth 20000 in
theorem gX6_alter_X1_trait : GoodIn wsX6_alter (wsV RX6 132 RX1 yX1_trait wsX1_trait) := goodIn_app (goodIn_of _ (by decide +kernel)) ggX6_alter_X1_trait
theorem dX6_alter_0 : decode cX6_alter 0 = .ok (.aload_n 0, 1) := by decide +kernel
theorem dX6_alter_1 : decode cX6_alter 1 = .ok (.iload_n 1, 1) := by decide +kernel
theorem dX6_alter_2 : decode cX6_alter 2 = .ok (.invokevirtual 126, 3) := by decide +kernel
theorem dX6_alter_5 : decode cX6_alter 5 = .ok (.ifCond .eq 20, 3) := by decide +kernel
theorem dX6_alter_8 : decode cX6_alter 8 = .ok (.iload_n 2, 1) := by decide +kernel
theorem dX6_alter_9 : decode cX6_alter 9 = .ok (.ifCond .lt 16, 3) := by decide +kernel
theorem dX6_alter_12 : decode cX6_alter 12 = .ok (.iload_n 2, 1) := by decide +kernel
theorem dX6_alter_13 : decode cX6_alter 13 = .ok (.iconst 2, 1) := by decide +kernel
theorem dX6_alter_14 : decode cX6_alter 14 = .ok (.if_icmp .gt 11, 3) := by decide +kernel
theorem dX6_alter_17 : decode cX6_alter 17 = .ok (.iload_n 2, 1) := by decide +kernel
theorem dX6_alter_18 : decode cX6_alter 18 = .ok (.iload_n 3, 1) := by decide +kernel
theorem dX6_alter_19 : decode cX6_alter 19 = .ok (.invokestatic 160, 3) := by decide +kernel
theorem dX6_alter_22 : decode cX6_alter 22 = .ok (.ifCond .ne 5, 3) := by decide +kernel
theorem dX6_alter_25 : decode cX6_alter 25 = .ok (.iconst (-1), 1) := by decide +kernel
theorem dX6_alter_26 : decode cX6_alter 26 = .ok (.ireturn, 1) := by decide +kernel
theorem dX6_alter_27 : decode cX6_alter 27 = .ok (.aload_n 0, 1) := by decide +kernel
theorem dX6_alter_28 : decode cX6_alter 28 = .ok (.getfield 19, 3) := by decide +kernel
theorem dX6_alter_31 : decode cX6_alter 31 = .ok (.iload_n 2, 1) := by decide +kernel
theorem dX6_alter_32 : decode cX6_alter 32 = .ok (.invokevirtual 132, 3) := by decide +kernel
theorem dX6_alter_35 : decode cX6_alter 35 = .ok (.iload_n 1, 1) := by decide +kernel
theorem dX6_alter_36 : decode cX6_alter 36 = .ok (.iaload, 1) := by decide +kernel
theorem dX6_alter_37 : decode cX6_alter 37 = .ok (.istore 4, 2) := by decide +kernel
theorem dX6_alter_39 : decode cX6_alter 39 = .ok (.aload_n 0, 1) := by decide +kernel
theorem dX6_alter_40 : decode cX6_alter 40 = .ok (.getfield 19, 3) := by decide +kernel
theorem dX6_alter_43 : decode cX6_alter 43 = .ok (.iload_n 2, 1) := by decide +kernel
theorem dX6_alter_44 : decode cX6_alter 44 = .ok (.invokevirtual 132, 3) := by decide +kernel
theorem dX6_alter_47 : decode cX6_alter 47 = .ok (.iload_n 1, 1) := by decide +kernel
theorem dX6_alter_48 : decode cX6_alter 48 = .ok (.iload_n 3, 1) := by decide +kernel
theorem dX6_alter_49 : decode cX6_alter 49 = .ok (.iastore, 1) := by decide +kernel
theorem dX6_alter_50 : decode cX6_alter 50 = .ok (.iload 4, 2) := by decide +kernel
theorem dX6_alter_52 : decode cX6_alter 52 = .ok (.ireturn, 1) := by decide +kernel
set_option maxRecDepth 20000 in
theorem ggX6_hire_X1_isTrait : GoodIn wsX6_hire wsX1_isTrait := goodIn_r _ [6] (by decide +kernel) (by decide +kernel)
set_option maxRecDepth 20000 in
theorem gX6_hire_X1_isTrait : GoodIn wsX6_hire (va_wsS RX6 160 yX1_isTrait wsX1_isTrait) := goodIn_app (goodIn_of _ (by decide +kernel)) ggX6_hire_X1_isTrait
set_option maxRecDepth 20000 in
theorem ggX6_hire_X1_addGardener : GoodIn wsX6_hire wsX1_addGardener := goodIn_r _ [10, 11, 12, 13, 14, 27, 28, 29, 30, 31, 32, 33, 34, 35, 36, 37, 38] (by decide +kernel) (by decide +kernel)
set_option maxRecDepth 20000 in
theorem gX6_hire_X1_addGardener : GoodIn wsX6_hire (wsV RX6 164 RX1 yX1_addGardener wsX1_addGardener) := goodIn_app (goodIn_of _ (by decide +kernel)) ggX6_hire_X1_addGardener
theorem dX6_hire_0 : decode cX6_hire 0 = .ok (.iconst 0, 1) := by decide +kernel
theorem dX6_hire_1 : decode cX6_hire 1 = .ok (.iload_n 1, 1) := by decide +kernel
theorem dX6_hire_2 : decode cX6_hire 2 = .ok (.invokestatic 160, 3) := by decide +kernel
theorem dX6_hire_5 : decode cX6_hire 5 = .ok (.ifCond .eq 19, 3) := by decide +kernel
theorem dX6_hire_8 : decode cX6_hire 8 = .ok (.iconst 1, 1) := by decide +kernel
theorem dX6_hire_9 : decode cX6_hire 9 = .ok (.iload_n 2, 1) := by decide +kernel
theorem dX6_hire_10 : decode cX6_hire 10 = .ok (.invokestatic 160, 3) := by decide +kernel
theorem dX6_hire_13 : decode cX6_hire 13 = .ok (.ifCond .eq 11, 3) := by decide +kernel
theorem dX6_hire_16 : decode cX6_hire 16 = .ok (.iconst 2, 1) := by decide +kernel
theorem dX6_hire_17 : decode cX6_hire 17 = .ok (.iload_n 3, 1) := by decide +kernel
theorem dX6_hire_18 : decode cX6_hire 18 = .ok (.invokestatic 160, 3) := by decide +kernel
theorem dX6_hire_21 : decode cX6_hire 21 = .ok (.ifCond .ne 5, 3) := by decide +kernel
theorem dX6_hire_24 : decode cX6_hire 24 = .ok (.iconst (-1), 1) := by decide +kernel
theorem dX6_hire_25 : decode cX6_hire 25 = .ok (.ireturn, 1) := by decide +kernel
theorem dX6_hire_26 : decode cX6_hire 26 = .ok (.aload_n 0, 1) := by decide +kernel
theorem dX6_hire_27 : decode cX6_hire 27 = .ok (.getfield 19, 3) := by decide +kernel
theorem dX6_hire_30 : decode cX6_hire 30 = .ok (.iload_n 1, 1) := by decide +kernel
theorem dX6_hire_31 : decode cX6_hire 31 = .ok (.iload_n 2, 1) := by decide +kernel
theorem dX6_hire_32 : decode cX6_hire 32 = .ok (.iload_n 3, 1) := by decide +kernel
theorem dX6_hire_33 : decode cX6_hire 33 = .ok (.invokevirtual 164, 3) := by decide +kernel
theorem dX6_hire_36 : decode cX6_hire 36 = .ok (.ifCond .eq 13, 3) := by decide +kernel
theorem dX6_hire_39 : decode cX6_hire 39 = .ok (.aload_n 0, 1) := by decide +kernel
theorem dX6_hire_40 : decode cX6_hire 40 = .ok (.getfield 19, 3) := by decide +kernel
theorem dX6_hire_43 : decode cX6_hire 43 = .ok (.getfield 93, 3) := by decide +kernel
theorem dX6_hire_46 : decode cX6_hire 46 = .ok (.goto 5, 3) := by decide +kernel
theorem dX6_hire_49 : decode cX6_hire 49 = .ok (.bipush (-3), 2) := by decide +kernel
theorem dX6_hire_51 : decode cX6_hire 51 = .ok (.ireturn, 1) := by decide +kernel
theorem dX6_leave_0 : decode cX6_leave 0 = .ok (.iload_n 1, 1) := by decide +kernel
theorem dX6_leave_1 : decode cX6_leave 1 = .ok (.ifCond .lt 14, 3) := by decide +kernel
theorem dX6_leave_4 : decode cX6_leave 4 = .ok (.iload_n 1, 1) := by decide +kernel
theorem dX6_leave_5 : decode cX6_leave 5 = .ok (.aload_n 0, 1) := by decide +kernel
theorem dX6_leave_6 : decode cX6_leave 6 = .ok (.getfield 19, 3) := by decide +kernel
theorem dX6_leave_9 : decode cX6_leave 9 = .ok (.getfield 93, 3) := by decide +kernel
theorem dX6_leave_12 : decode cX6_leave 12 = .ok (.if_icmp .le 5, 3) := by decide +kernel
theorem dX6_leave_15 : decode cX6_leave 15 = .ok (.iconst (-1), 1) := by decide +kernel
theorem dX6_leave_16 : decode cX6_leave 16 = .ok (.ireturn, 1) := by decide +kernel
theorem dX6_leave_17 : decode cX6_leave 17 = .ok (.aload_n 0, 1) := by decide +kernel
theorem dX6_leave_18 : decode cX6_leave 18 = .ok (.getfield 19, 3) := by decide +kernel
theorem dX6_leave_21 : decode cX6_leave 21 = .ok (.getfield 93, 3) := by decide +kernel
theorem dX6_leave_24 : decode cX6_leave 24 = .ok (.istore_n 2, 1) := by decide +kernel
theorem dX6_leave_25 : decode cX6_leave 25 = .ok (.aload_n 0, 1) := by decide +kernel
theorem dX6_leave_26 : decode cX6_leave 26 = .ok (.getfield 19, 3) := by decide +kernel
theorem dX6_leave_29 : decode cX6_leave 29 = .ok (.iload_n 1, 1) := by decide +kernel
theorem dX6_leave_30 : decode cX6_leave 30 = .ok (.putfield 93, 3) := by decide +kernel
theorem dX6_leave_33 : decode cX6_leave 33 = .ok (.iload_n 2, 1) := by decide +kernel
theorem dX6_leave_34 : decode cX6_leave 34 = .ok (.ireturn, 1) := by decide +kernel
set_option maxRecDepth 20000 in
theorem ggX6_come_X6_isPlot : GoodIn wsX6_come wsX6_isPlot := goodIn_r _ [6] (by decide +kernel) (by decide +kernel)
set_option maxRecDepth 20000 in
theorem gX6_come_X6_isPlot : GoodIn wsX6_come (va_wsS RX6 142 yX6_isPlot wsX6_isPlot) := goodIn_app (goodIn_of _ (by decide +kernel)) ggX6_come_X6_isPlot
set_option maxRecDepth 20000 in
theorem ggX6_come_X6_isFood : GoodIn wsX6_come wsX6_isFood := goodIn_r _ [9] (by decide +kernel) (by decide +kernel)
set_option maxRecDepth 20000 in
theorem gX6_come_X6_isFood : GoodIn wsX6_come (va_wsS RX6 168 yX6_isFood wsX6_isFood) := goodIn_app (goodIn_of _ (by decide +kernel)) ggX6_come_X6_isFood
set_option maxRecDepth 20000 in
theorem ggX6_come_X1_addGuest : GoodIn wsX6_come wsX1_addGuest := goodIn_r _ [14, 15, 16, 17, 18, 31, 32, 33, 34, 35, 36, 37, 38, 39, 40, 41, 42] (by decide +kernel) (by decide +kernel)
set_option maxRecDepth 20000 in
theorem gX6_come_X1_addGuest : GoodIn wsX6_come (wsV RX6 171 RX1 yX1_addGuest wsX1_addGuest) := goodIn_app (goodIn_of _ (by decide +kernel)) ggX6_come_X1_addGuest
theorem dX6_come_0 : decode cX6_come 0 = .ok (.iload_n 1, 1) := by decide +kernel
theorem dX6_come_1 : decode cX6_come 1 = .ok (.invokestatic 142, 3) := by decide +kernel
theorem dX6_come_4 : decode cX6_come 4 = .ok (.ifCond .eq 10, 3) := by decide +kernel
theorem dX6_come_7 : decode cX6_come 7 = .ok (.iload_n 2, 1) := by decide +kernel
theorem dX6_come_8 : decode cX6_come 8 = .ok (.invokestatic 168, 3) := by decide +kernel
theorem dX6_come_11 : decode cX6_come 11 = .ok (.ifCond .ne 5, 3) := by decide +kernel
theorem dX6_come_14 : decode cX6_come 14 = .ok (.iconst (-1), 1) := by decide +kernel
theorem dX6_come_15 : decode cX6_come 15 = .ok (.ireturn, 1) := by decide +kernel
theorem dX6_come_16 : decode cX6_come 16 = .ok (.aload_n 0, 1) := by decide +kernel
theorem dX6_come_17 : decode cX6_come 17 = .ok (.getfield 19, 3) := by decide +kernel
theorem dX6_come_20 : decode cX6_come 20 = .ok (.iload_n 1, 1) := by decide +kernel
theorem dX6_come_21 : decode cX6_come 21 = .ok (.iload_n 2, 1) := by decide +kernel
theorem dX6_come_22 : decode cX6_come 22 = .ok (.invokevirtual 171, 3) := by decide +kernel
theorem dX6_come_25 : decode cX6_come 25 = .ok (.ifCond .eq 13, 3) := by decide +kernel
theorem dX6_come_28 : decode cX6_come 28 = .ok (.aload_n 0, 1) := by decide +kernel
theorem dX6_come_29 : decode cX6_come 29 = .ok (.getfield 19, 3) := by decide +kernel
theorem dX6_come_32 : decode cX6_come 32 = .ok (.getfield 96, 3) := by decide +kernel
theorem dX6_come_35 : decode cX6_come 35 = .ok (.goto 5, 3) := by decide +kernel
theorem dX6_come_38 : decode cX6_come 38 = .ok (.bipush (-3), 2) := by decide +kernel
theorem dX6_come_40 : decode cX6_come 40 = .ok (.ireturn, 1) := by decide +kernel
set_option maxRecDepth 20000 in
theorem ggX6_move_X6_isGuest : GoodIn wsX6_move wsX6_isGuest := goodIn_r _ [8, 1, 9, 13, 14, 15, 16, 17, 18, 19, 20, 21, 22, 23, 24, 25, 26, 27, 28, 29, 30, 31, 32, 33, 34, 35, 36] (by decide +kernel) (by decide +kernel)
set_option maxRecDepth 20000 in
theorem gX6_move_X6_isGuest : GoodIn wsX6_move (wsV RX6 136 RX6 yX6_isGuest wsX6_isGuest) := goodIn_app (goodIn_of _ (by decide +kernel)) ggX6_move_X6_isGuest
set_option maxRecDepth 20000 in
theorem ggX6_move_X6_isPlot : GoodIn wsX6_move wsX6_isPlot := goodIn_r _ [12] (by decide +kernel) (by decide +kernel)
set_option maxRecDepth 20000 in
theorem gX6_move_X6_isPlot : GoodIn wsX6_move (va_wsS RX6 142 yX6_isPlot wsX6_isPlot) := goodIn_app (goodIn_of _ (by decide +kernel)) ggX6_move_X6_isPlot
theorem dX6_move_0 : decode cX6_move 0 = .ok (.aload_n 0, 1) := by decide +kernel
theorem dX6_move_1 : decode cX6_move 1 = .ok (.iload_n 1, 1) := by decide +kernel
theorem dX6_move_2 : decode cX6_move 2 = .ok (.invokevirtual 136, 3) := by decide +kernel
theorem dX6_move_5 : decode cX6_move 5 = .ok (.ifCond .eq 10, 3) := by decide +kernel
theorem dX6_move_8 : decode cX6_move 8 = .ok (.iload_n 2, 1) := by decide +kernel
theorem dX6_move_9 : decode cX6_move 9 = .ok (.invokestatic 142, 3) := by decide +kernel
theorem dX6_move_12 : decode cX6_move 12 = .ok (.ifCond .ne 5, 3) := by decide +kernel
theorem dX6_move_15 : decode cX6_move 15 = .ok (.iconst (-1), 1) := by decide +kernel
theorem dX6_move_16 : decode cX6_move 16 = .ok (.ireturn, 1) := by decide +kernel
theorem dX6_move_17 : decode cX6_move 17 = .ok (.aload_n 0, 1) := by decide +kernel
theorem dX6_move_18 : decode cX6_move 18 = .ok (.getfield 19, 3) := by decide +kernel
theorem dX6_move_21 : decode cX6_move 21 = .ok (.getfield 174, 3) := by decide +kernel
theorem dX6_move_24 : decode cX6_move 24 = .ok (.iload_n 1, 1) := by decide +kernel
theorem dX6_move_25 : decode cX6_move 25 = .ok (.iaload, 1) := by decide +kernel
theorem dX6_move_26 : decode cX6_move 26 = .ok (.istore_n 3, 1) := by decide +kernel
theorem dX6_move_27 : decode cX6_move 27 = .ok (.aload_n 0, 1) := by decide +kernel
theorem dX6_move_28 : decode cX6_move 28 = .ok (.getfield 19, 3) := by decide +kernel
theorem dX6_move_31 : decode cX6_move 31 = .ok (.getfield 174, 3) := by decide +kernel
theorem dX6_move_34 : decode cX6_move 34 = .ok (.iload_n 1, 1) := by decide +kernel
theorem dX6_move_35 : decode cX6_move 35 = .ok (.iload_n 2, 1) := by decide +kernel
theorem dX6_move_36 : decode cX6_move 36 = .ok (.iastore, 1) := by decide +kernel
theorem dX6_move_37 : decode cX6_move 37 = .ok (.aload_n 0, 1) := by decide +kernel
theorem dX6_move_38 : decode cX6_move 38 = .ok (.getfield 19, 3) := by decide +kernel
theorem dX6_move_41 : decode cX6_move 41 = .ok (.getfield 178, 3) := by decide +kernel
theorem dX6_move_44 : decode cX6_move 44 = .ok (.iload_n 1, 1) := by decide +kernel
theorem dX6_move_45 : decode cX6_move 45 = .ok (.iconst 0, 1) := by decide +kernel
theorem dX6_move_46 : decode cX6_move 46 = .ok (.iastore, 1) := by decide +kernel
theorem dX6_move_47 : decode cX6_move 47 = .ok (.iload_n 3, 1) := by decide +kernel
theorem dX6_move_48 : decode cX6_move 48 = .ok (.ireturn, 1) := by decide +kernel
set_option maxRecDepth 20000 in
theorem ggX6_bread_X6_isGuest : GoodIn wsX6_bread wsX6_isGuest := goodIn_r _ [7, 1, 8, 12, 13, 14, 15, 16, 17, 18, 19, 20, 21, 22, 23, 24, 25, 26, 27, 28, 29, 30, 31, 32, 33, 34, 35] (by decide +kernel) (by decide +kernel)
set_option maxRecDepth 20000 in
theorem gX6_bread_X6_isGuest : GoodIn wsX6_bread (wsV RX6 136 RX6 yX6_isGuest wsX6_isGuest) := goodIn_app (goodIn_of _ (by decide +kernel)) ggX6_bread_X6_isGuest
set_option maxRecDepth 20000 in
theorem ggX6_bread_X6_isFood : GoodIn wsX6_bread wsX6_isFood := goodIn_r _ [11] (by decide +kernel) (by decide +kernel)
set_option maxRecDepth 20000 in
theorem gX6_bread_X6_isFood : GoodIn wsX6_bread (va_wsS RX6 168 yX6_isFood wsX6_isFood) := goodIn_app (goodIn_of _ (by decide +kernel)) ggX6_bread_X6_isFood
theorem dX6_bread_0 : decode cX6_bread 0 = .ok (.aload_n 0, 1) := by decide +kernel
theorem dX6_bread_1 : decode cX6_bread 1 = .ok (.iload_n 1, 1) := by decide +kernel
theorem dX6_bread_2 : decode cX6_bread 2 = .ok (.invokevirtual 136, 3) := by decide +kernel
theorem dX6_bread_5 : decode cX6_bread 5 = .ok (.ifCond .eq 10, 3) := by decide +kernel
theorem dX6_bread_8 : decode cX6_bread 8 = .ok (.iload_n 2, 1) := by decide +kernel
theorem dX6_bread_9 : decode cX6_bread 9 = .ok (.invokestatic 168, 3) := by decide +kernel
theorem dX6_bread_12 : decode cX6_bread 12 = .ok (.ifCond .ne 5, 3) := by decide +kernel
theorem dX6_bread_15 : decode cX6_bread 15 = .ok (.iconst (-1), 1) := by decide +kernel
theorem dX6_bread_16 : decode cX6_bread 16 = .ok (.ireturn, 1) := by decide +kernel
theorem dX6_bread_17 : decode cX6_bread 17 = .ok (.aload_n 0, 1) := by decide +kernel
theorem dX6_bread_18 : decode cX6_bread 18 = .ok (.getfield 19, 3) := by decide +kernel
theorem dX6_bread_21 : decode cX6_bread 21 = .ok (.getfield 181, 3) := by decide +kernel
theorem dX6_bread_24 : decode cX6_bread 24 = .ok (.iload_n 1, 1) := by decide +kernel
theorem dX6_bread_25 : decode cX6_bread 25 = .ok (.iaload, 1) := by decide +kernel
theorem dX6_bread_26 : decode cX6_bread 26 = .ok (.istore_n 3, 1) := by decide +kernel
theorem dX6_bread_27 : decode cX6_bread 27 = .ok (.aload_n 0, 1) := by decide +kernel
theorem dX6_bread_28 : decode cX6_bread 28 = .ok (.getfield 19, 3) := by decide +kernel
theorem dX6_bread_31 : decode cX6_bread 31 = .ok (.getfield 181, 3) := by decide +kernel
theorem dX6_bread_34 : decode cX6_bread 34 = .ok (.iload_n 1, 1) := by decide +kernel
theorem dX6_bread_35 : decode cX6_bread 35 = .ok (.iload_n 2, 1) := by decide +kernel
theorem dX6_bread_36 : decode cX6_bread 36 = .ok (.iastore, 1) := by decide +kernel
theorem dX6_bread_37 : decode cX6_bread 37 = .ok (.iload_n 3, 1) := by decide +kernel
theorem dX6_bread_38 : decode cX6_bread 38 = .ok (.ireturn, 1) := by decide +kernel
set_option maxRecDepth 20000 in
theorem ggX6_open_X6_isPlot : GoodIn wsX6_open wsX6_isPlot := goodIn_r _ [6] (by decide +kernel) (by decide +kernel)
set_option maxRecDepth 20000 in
theorem gX6_open_X6_isPlot : GoodIn wsX6_open (va_wsS RX6 142 yX6_isPlot wsX6_isPlot) := goodIn_app (goodIn_of _ (by decide +kernel)) ggX6_open_X6_isPlot
theorem dX6_open_0 : decode cX6_open 0 = .ok (.iload_n 1, 1) := by decide +kernel
theorem dX6_open_1 : decode cX6_open 1 = .ok (.invokestatic 142, 3) := by decide +kernel
theorem dX6_open_4 : decode cX6_open 4 = .ok (.ifCond .ne 5, 3) := by decide +kernel
theorem dX6_open_7 : decode cX6_open 7 = .ok (.iconst (-1), 1) := by decide +kernel
theorem dX6_open_8 : decode cX6_open 8 = .ok (.ireturn, 1) := by decide +kernel
theorem dX6_open_9 : decode cX6_open 9 = .ok (.aload_n 0, 1) := by decide +kernel
theorem dX6_open_10 : decode cX6_open 10 = .ok (.getfield 19, 3) := by decide +kernel
theorem dX6_open_13 : decode cX6_open 13 = .ok (.getfield 102, 3) := by decide +kernel
theorem dX6_open_16 : decode cX6_open 16 = .ok (.istore_n 2, 1) := by decide +kernel
theorem dX6_open_17 : decode cX6_open 17 = .ok (.aload_n 0, 1) := by decide +kernel
theorem dX6_open_18 : decode cX6_open 18 = .ok (.getfield 19, 3) := by decide +kernel
theorem dX6_open_21 : decode cX6_open 21 = .ok (.iload_n 1, 1) := by decide +kernel
theorem dX6_open_22 : decode cX6_open 22 = .ok (.putfield 102, 3) := by decide +kernel
theorem dX6_open_25 : decode cX6_open 25 = .ok (.iload_n 2, 1) := by decide +kernel
theorem dX6_open_26 : decode cX6_open 26 = .ok (.ireturn, 1) := by decide +kernel
set_option maxRecDepth 20000 in
theorem ggX6_days_X1_outs : GoodIn wsX6_days wsX1_outs := goodIn_r _ [7, 8, 9, 10, 6, 11, 12, 13, 14, 15, 16, 17, 18, 19, 20, 85, 86, 87, 88, 89, 90, 91, 92, 93, 94, 95, 96] (by decide +kernel) (by decide +kernel)
set_option maxRecDepth 20000 in
theorem gX6_days_X1_outs : GoodIn wsX6_days (wsV RX6 184 RX1 yX1_outs wsX1_outs) := goodIn_app (goodIn_of _ (by decide +kernel)) ggX6_days_X1_outs
set_option maxRecDepth 20000 in
theorem ggX6_days_X1_passDays : GoodIn wsX6_days wsX1_passDays := goodIn_r _ [24, 25, 26, 27, 28, 6, 29, 30, 31, 32, 33, 34, 35, 36, 37, 38, 39, 40, 41, 42, 43, 44, 45, 46, 47, 48, 49, 50, 51, 52, 53, 54, 55, 56, 57, 58, 59, 12, 13, 60, 61, 62, 63, 64, 65, 66, 67, 68, 69, 70, 16, 71, 72, 85, 86, 87, 88, 89, 90, 91, 92, 93, 94, 95, 96] (by decide +kernel) (by decide +kernel)
set_option maxRecDepth 20000 in
theorem gX6_days_X1_passDays : GoodIn wsX6_days (wsV RX6 188 RX1 yX1_passDays wsX1_passDays) := goodIn_app (goodIn_of _ (by decide +kernel)) ggX6_days_X1_passDays
theorem dX6_days_0 : decode cX6_days 0 = .ok (.iload_n 1, 1) := by decide +kernel
theorem dX6_days_1 : decode cX6_days 1 = .ok (.ifCond .lt 9, 3) := by decide +kernel
theorem dX6_days_4 : decode cX6_days 4 = .ok (.iload_n 1, 1) := by decide +kernel
theorem dX6_days_5 : decode cX6_days 5 = .ok (.bipush 30, 2) := by decide +kernel
theorem dX6_days_7 : decode cX6_days 7 = .ok (.if_icmp .le 5, 3) := by decide +kernel
theorem dX6_days_10 : decode cX6_days 10 = .ok (.iconst (-1), 1) := by decide +kernel
theorem dX6_days_11 : decode cX6_days 11 = .ok (.ireturn, 1) := by decide +kernel
theorem dX6_days_12 : decode cX6_days 12 = .ok (.aload_n 0, 1) := by decide +kernel
theorem dX6_days_13 : decode cX6_days 13 = .ok (.getfield 19, 3) := by decide +kernel
theorem dX6_days_16 : decode cX6_days 16 = .ok (.getfield 99, 3) := by decide +kernel
theorem dX6_days_19 : decode cX6_days 19 = .ok (.iload_n 1, 1) := by decide +kernel
theorem dX6_days_20 : decode cX6_days 20 = .ok (.iadd, 1) := by decide +kernel
theorem dX6_days_21 : decode cX6_days 21 = .ok (.sipush 1000, 3) := by decide +kernel
theorem dX6_days_24 : decode cX6_days 24 = .ok (.if_icmp .lt 6, 3) := by decide +kernel
theorem dX6_days_27 : decode cX6_days 27 = .ok (.bipush (-3), 2) := by decide +kernel
theorem dX6_days_29 : decode cX6_days 29 = .ok (.ireturn, 1) := by decide +kernel
theorem dX6_days_30 : decode cX6_days 30 = .ok (.aload_n 0, 1) := by decide +kernel
theorem dX6_days_31 : decode cX6_days 31 = .ok (.getfield 19, 3) := by decide +kernel
theorem dX6_days_34 : decode cX6_days 34 = .ok (.invokevirtual 184, 3) := by decide +kernel
theorem dX6_days_37 : decode cX6_days 37 = .ok (.istore_n 2, 1) := by decide +kernel
theorem dX6_days_38 : decode cX6_days 38 = .ok (.aload_n 0, 1) := by decide +kernel
theorem dX6_days_39 : decode cX6_days 39 = .ok (.getfield 19, 3) := by decide +kernel
theorem dX6_days_42 : decode cX6_days 42 = .ok (.iload_n 1, 1) := by decide +kernel
theorem dX6_days_43 : decode cX6_days 43 = .ok (.invokevirtual 188, 3) := by decide +kernel
theorem dX6_days_46 : decode cX6_days 46 = .ok (.aload_n 0, 1) := by decide +kernel
theorem dX6_days_47 : decode cX6_days 47 = .ok (.getfield 19, 3) := by decide +kernel
theorem dX6_days_50 : decode cX6_days 50 = .ok (.invokevirtual 184, 3) := by decide +kernel
theorem dX6_days_53 : decode cX6_days 53 = .ok (.iload_n 2, 1) := by decide +kernel
theorem dX6_days_54 : decode cX6_days 54 = .ok (.isub, 1) := by decide +kernel
theorem dX6_days_55 : decode cX6_days 55 = .ok (.ireturn, 1) := by decide +kernel
set_option maxRecDepth 20000 in
theorem ggX6_runs_X6_isAhead : GoodIn wsX6_runs wsX6_isAhead := goodIn_r _ [8] (by decide +kernel) (by decide +kernel)
set_option maxRecDepth 20000 in
theorem gX6_runs_X6_isAhead : GoodIn wsX6_runs (va_wsS RX6 192 yX6_isAhead wsX6_isAhead) := goodIn_app (goodIn_of _ (by decide +kernel)) ggX6_runs_X6_isAhead
set_option maxRecDepth 20000 in
theorem ggX6_runs_X1_become : GoodIn wsX6_runs wsX1_become := goodIn_r _ [13, 14, 15, 16, 17, 18, 19, 20, 21, 22, 23, 24, 25, 97, 98, 99, 100, 101, 102, 103, 104, 105, 106, 107, 108] (by decide +kernel) (by decide +kernel)
set_option maxRecDepth 20000 in
theorem gX6_runs_X1_become : GoodIn wsX6_runs (wsV RX6 86 RX1 yX1_become wsX1_become) := goodIn_app (goodIn_of _ (by decide +kernel)) ggX6_runs_X1_become
set_option maxRecDepth 20000 in
theorem ggX6_runs_X1_passDays : GoodIn wsX6_runs wsX1_passDays := goodIn_r _ [29, 17, 30, 31, 32, 12, 33, 14, 16, 21, 22, 34, 35, 36, 37, 18, 38, 39, 40, 41, 20, 42, 43, 44, 45, 46, 47, 48, 49, 50, 51, 52, 53, 54, 55, 56, 57, 19, 25, 24, 23, 15, 58, 59, 60, 61, 62, 63, 64, 65, 66, 67, 68, 97, 98, 99, 100, 101, 102, 103, 104, 105, 106, 107, 108] (by decide +kernel) (by decide +kernel)
set_option maxRecDepth 20000 in
theorem gX6_runs_X1_passDays : GoodIn wsX6_runs (wsV RX6 188 RX1 yX1_passDays wsX1_passDays) := goodIn_app (goodIn_of _ (by decide +kernel)) ggX6_runs_X1_passDays
set_option maxRecDepth 20000 in
theorem ggX6_runs_X1_outs : GoodIn wsX6_runs wsX1_outs := goodIn_r _ [72, 73, 74, 75, 12, 76, 19, 25, 77, 78, 66, 79, 80, 81, 82, 97, 98, 99, 100, 101, 102, 103, 104, 105, 106, 107, 108] (by decide +kernel) (by decide +kernel)
set_option maxRecDepth 20000 in
theorem gX6_runs_X1_outs : GoodIn wsX6_runs (wsV RX6 184 RX1 yX1_outs wsX1_outs) := goodIn_app (goodIn_of _ (by decide +kernel)) ggX6_runs_X1_outs
set_option maxRecDepth 20000 in
theorem ggX6_runs_X1_whoIs : GoodIn wsX6_runs wsX1_whoIs := goodIn_r _ [76, 19, 25, 97, 98, 99, 100, 101, 102, 103, 104, 105, 106, 107, 108] (by decide +kernel) (by decide +kernel)
set_option maxRecDepth 20000 in
theorem gX6_runs_X1_whoIs : GoodIn wsX6_runs (wsV RX6 114 RX1 yX1_whoIs wsX1_whoIs) := goodIn_app (goodIn_of _ (by decide +kernel)) ggX6_runs_X1_whoIs
set_option maxRecDepth 20000 in
theorem ggX6_runs_J6_bitCount_0f7a4 : GoodIn wsX6_runs wsJ6_bitCount_0f7a4 := goodIn_r _ [79, 80, 81, 82] (by decide +kernel) (by decide +kernel)
set_option maxRecDepth 20000 in
theorem gX6_runs_J6_bitCount_0f7a4 : GoodIn wsX6_runs (va_wsS RX6 108 yJ6_bitCount_0f7a4 wsJ6_bitCount_0f7a4) := goodIn_app (goodIn_of _ (by decide +kernel)) ggX6_runs_J6_bitCount_0f7a4
theorem dX6_runs_0 : decode cX6_runs 0 = .ok (.iload_n 1, 1) := by decide +kernel
theorem dX6_runs_1 : decode cX6_runs 1 = .ok (.invokestatic 192, 3) := by decide +kernel
theorem dX6_runs_4 : decode cX6_runs 4 = .ok (.ifCond .eq 12, 3) := by decide +kernel
theorem dX6_runs_7 : decode cX6_runs 7 = .ok (.iload_n 2, 1) := by decide +kernel
theorem dX6_runs_8 : decode cX6_runs 8 = .ok (.ifCond .lt 8, 3) := by decide +kernel
theorem dX6_runs_11 : decode cX6_runs 11 = .ok (.iload_n 2, 1) := by decide +kernel
theorem dX6_runs_12 : decode cX6_runs 12 = .ok (.iconst 3, 1) := by decide +kernel
theorem dX6_runs_13 : decode cX6_runs 13 = .ok (.if_icmp .le 5, 3) := by decide +kernel
theorem dX6_runs_16 : decode cX6_runs 16 = .ok (.iconst (-1), 1) := by decide +kernel
theorem dX6_runs_17 : decode cX6_runs 17 = .ok (.ireturn, 1) := by decide +kernel
theorem dX6_runs_18 : decode cX6_runs 18 = .ok (.aload_n 0, 1) := by decide +kernel
theorem dX6_runs_19 : decode cX6_runs 19 = .ok (.getfield 23, 3) := by decide +kernel
theorem dX6_runs_22 : decode cX6_runs 22 = .ok (.aload_n 0, 1) := by decide +kernel
theorem dX6_runs_23 : decode cX6_runs 23 = .ok (.getfield 19, 3) := by decide +kernel
theorem dX6_runs_26 : decode cX6_runs 26 = .ok (.invokevirtual 86, 3) := by decide +kernel
theorem dX6_runs_29 : decode cX6_runs 29 = .ok (.aload_n 0, 1) := by decide +kernel
theorem dX6_runs_30 : decode cX6_runs 30 = .ok (.getfield 23, 3) := by decide +kernel
theorem dX6_runs_33 : decode cX6_runs 33 = .ok (.iload_n 1, 1) := by decide +kernel
theorem dX6_runs_34 : decode cX6_runs 34 = .ok (.invokevirtual 188, 3) := by decide +kernel
theorem dX6_runs_37 : decode cX6_runs 37 = .ok (.iload_n 2, 1) := by decide +kernel
theorem dX6_runs_38 : decode cX6_runs 38 = .ok (.tableswitch 54 0 2 #[26, 34, 43], 26) := by decide +kernel
theorem dX6_runs_64 : decode cX6_runs 64 = .ok (.aload_n 0, 1) := by decide +kernel
theorem dX6_runs_65 : decode cX6_runs 65 = .ok (.getfield 23, 3) := by decide +kernel
theorem dX6_runs_68 : decode cX6_runs 68 = .ok (.invokevirtual 184, 3) := by decide +kernel
theorem dX6_runs_71 : decode cX6_runs 71 = .ok (.ireturn, 1) := by decide +kernel
theorem dX6_runs_72 : decode cX6_runs 72 = .ok (.aload_n 0, 1) := by decide +kernel
theorem dX6_runs_73 : decode cX6_runs 73 = .ok (.getfield 23, 3) := by decide +kernel
theorem dX6_runs_76 : decode cX6_runs 76 = .ok (.iconst 2, 1) := by decide +kernel
theorem dX6_runs_77 : decode cX6_runs 77 = .ok (.invokevirtual 114, 3) := by decide +kernel
theorem dX6_runs_80 : decode cX6_runs 80 = .ok (.ireturn, 1) := by decide +kernel
theorem dX6_runs_81 : decode cX6_runs 81 = .ok (.aload_n 0, 1) := by decide +kernel
theorem dX6_runs_82 : decode cX6_runs 82 = .ok (.getfield 23, 3) := by decide +kernel
theorem dX6_runs_85 : decode cX6_runs 85 = .ok (.getfield 105, 3) := by decide +kernel
theorem dX6_runs_88 : decode cX6_runs 88 = .ok (.invokestatic 108, 3) := by decide +kernel
theorem dX6_runs_91 : decode cX6_runs 91 = .ok (.ireturn, 1) := by decide +kernel
theorem dX6_runs_92 : decode cX6_runs 92 = .ok (.aload_n 0, 1) := by decide +kernel
theorem dX6_runs_93 : decode cX6_runs 93 = .ok (.getfield 23, 3) := by decide +kernel
theorem dX6_runs_96 : decode cX6_runs 96 = .ok (.getfield 117, 3) := by decide +kernel
theorem dX6_runs_99 : decode cX6_runs 99 = .ok (.ireturn, 1) := by decide +kernel
set_option maxRecDepth 20000 in
theorem ggX6_ahead_X6_isGuest : GoodIn wsX6_ahead wsX6_isGuest := goodIn_r _ [7, 2, 8, 76, 77, 78, 79, 80, 81, 82, 83, 84, 85, 86, 87, 88, 89, 90, 91, 92, 93, 94, 95, 96, 97, 98, 99] (by decide +kernel) (by decide +kernel)
set_option maxRecDepth 20000 in
theorem gX6_ahead_X6_isGuest : GoodIn wsX6_ahead (wsV RX6 136 RX6 yX6_isGuest wsX6_isGuest) := goodIn_app (goodIn_of _ (by decide +kernel)) ggX6_ahead_X6_isGuest
set_option maxRecDepth 20000 in
theorem ggX6_ahead_X6_isAhead : GoodIn wsX6_ahead wsX6_isAhead := goodIn_r _ [11] (by decide +kernel) (by decide +kernel)
set_option maxRecDepth 20000 in
theorem gX6_ahead_X6_isAhead : GoodIn wsX6_ahead (va_wsS RX6 192 yX6_isAhead wsX6_isAhead) := goodIn_app (goodIn_of _ (by decide +kernel)) ggX6_ahead_X6_isAhead
set_option maxRecDepth 20000 in
theorem ggX6_ahead_X1_become : GoodIn wsX6_ahead wsX1_become := goodIn_r _ [16, 17, 18, 19, 20, 21, 22, 23, 24, 25, 26, 27, 28, 88, 89, 90, 91, 92, 93, 94, 95, 96, 97, 98, 99] (by decide +kernel) (by decide +kernel)
set_option maxRecDepth 20000 in
theorem gX6_ahead_X1_become : GoodIn wsX6_ahead (wsV RX6 86 RX1 yX1_become wsX1_become) := goodIn_app (goodIn_of _ (by decide +kernel)) ggX6_ahead_X1_become
set_option maxRecDepth 20000 in
theorem ggX6_ahead_X1_passDays : GoodIn wsX6_ahead wsX1_passDays := goodIn_r _ [32, 20, 33, 34, 35, 15, 36, 17, 19, 24, 25, 37, 38, 39, 40, 21, 41, 42, 43, 44, 23, 45, 46, 47, 48, 49, 50, 51, 52, 53, 54, 55, 56, 57, 58, 59, 60, 22, 28, 27, 26, 18, 61, 62, 63, 64, 65, 66, 67, 68, 69, 70, 71, 88, 89, 90, 91, 92, 93, 94, 95, 96, 97, 98, 99] (by decide +kernel) (by decide +kernel)
set_option maxRecDepth 20000 in
theorem gX6_ahead_X1_passDays : GoodIn wsX6_ahead (wsV RX6 188 RX1 yX1_passDays wsX1_passDays) := goodIn_app (goodIn_of _ (by decide +kernel)) ggX6_ahead_X1_passDays
set_option maxRecDepth 20000 in
theorem ggX6_ahead_X1_lot : GoodIn wsX6_ahead wsX1_lot := goodIn_r _ [75, 26, 27, 28, 88, 89, 90, 91, 92, 93, 94, 95, 96, 97, 98, 99] (by decide +kernel) (by decide +kernel)
set_option maxRecDepth 20000 in
theorem gX6_ahead_X1_lot : GoodIn wsX6_ahead (wsV RX6 139 RX1 yX1_lot wsX1_lot) := goodIn_app (goodIn_of _ (by decide +kernel)) ggX6_ahead_X1_lot
theorem dX6_ahead_0 : decode cX6_ahead 0 = .ok (.aload_n 0, 1) := by decide +kernel
theorem dX6_ahead_1 : decode cX6_ahead 1 = .ok (.iload_n 1, 1) := by decide +kernel
theorem dX6_ahead_2 : decode cX6_ahead 2 = .ok (.invokevirtual 136, 3) := by decide +kernel
theorem dX6_ahead_5 : decode cX6_ahead 5 = .ok (.ifCond .eq 19, 3) := by decide +kernel
theorem dX6_ahead_8 : decode cX6_ahead 8 = .ok (.iload_n 2, 1) := by decide +kernel
theorem dX6_ahead_9 : decode cX6_ahead 9 = .ok (.invokestatic 192, 3) := by decide +kernel
theorem dX6_ahead_12 : decode cX6_ahead 12 = .ok (.ifCond .eq 12, 3) := by decide +kernel
theorem dX6_ahead_15 : decode cX6_ahead 15 = .ok (.iload_n 3, 1) := by decide +kernel
theorem dX6_ahead_16 : decode cX6_ahead 16 = .ok (.ifCond .lt 8, 3) := by decide +kernel
theorem dX6_ahead_19 : decode cX6_ahead 19 = .ok (.iload_n 3, 1) := by decide +kernel
theorem dX6_ahead_20 : decode cX6_ahead 20 = .ok (.iconst 2, 1) := by decide +kernel
theorem dX6_ahead_21 : decode cX6_ahead 21 = .ok (.if_icmp .le 5, 3) := by decide +kernel
theorem dX6_ahead_24 : decode cX6_ahead 24 = .ok (.iconst (-1), 1) := by decide +kernel
theorem dX6_ahead_25 : decode cX6_ahead 25 = .ok (.ireturn, 1) := by decide +kernel
theorem dX6_ahead_26 : decode cX6_ahead 26 = .ok (.aload_n 0, 1) := by decide +kernel
theorem dX6_ahead_27 : decode cX6_ahead 27 = .ok (.getfield 23, 3) := by decide +kernel
theorem dX6_ahead_30 : decode cX6_ahead 30 = .ok (.aload_n 0, 1) := by decide +kernel
theorem dX6_ahead_31 : decode cX6_ahead 31 = .ok (.getfield 19, 3) := by decide +kernel
theorem dX6_ahead_34 : decode cX6_ahead 34 = .ok (.invokevirtual 86, 3) := by decide +kernel
theorem dX6_ahead_37 : decode cX6_ahead 37 = .ok (.aload_n 0, 1) := by decide +kernel
theorem dX6_ahead_38 : decode cX6_ahead 38 = .ok (.getfield 23, 3) := by decide +kernel
theorem dX6_ahead_41 : decode cX6_ahead 41 = .ok (.iload_n 2, 1) := by decide +kernel
theorem dX6_ahead_42 : decode cX6_ahead 42 = .ok (.invokevirtual 188, 3) := by decide +kernel
theorem dX6_ahead_45 : decode cX6_ahead 45 = .ok (.aload_n 0, 1) := by decide +kernel
theorem dX6_ahead_46 : decode cX6_ahead 46 = .ok (.getfield 23, 3) := by decide +kernel
theorem dX6_ahead_49 : decode cX6_ahead 49 = .ok (.iload_n 3, 1) := by decide +kernel
theorem dX6_ahead_50 : decode cX6_ahead 50 = .ok (.invokevirtual 139, 3) := by decide +kernel
theorem dX6_ahead_53 : decode cX6_ahead 53 = .ok (.iload_n 1, 1) := by decide +kernel
theorem dX6_ahead_54 : decode cX6_ahead 54 = .ok (.iaload, 1) := by decide +kernel
theorem dX6_ahead_55 : decode cX6_ahead 55 = .ok (.ireturn, 1) := by decide +kernel
set_option maxRecDepth 20000 in
theorem ggX6_stands_X6_isHedge : GoodIn wsX6_stands wsX6_isHedge := goodIn_r _ [6] (by decide +kernel) (by decide +kernel)
set_option maxRecDepth 20000 in
theorem gX6_stands_X6_isHedge : GoodIn wsX6_stands (va_wsS RX6 120 yX6_isHedge wsX6_isHedge) := goodIn_app (goodIn_of _ (by decide +kernel)) ggX6_stands_X6_isHedge
set_option maxRecDepth 20000 in
theorem ggX6_stands_X6_isAhead : GoodIn wsX6_stands wsX6_isAhead := goodIn_r _ [9] (by decide +kernel) (by decide +kernel)
set_option maxRecDepth 20000 in
theorem gX6_stands_X6_isAhead : GoodIn wsX6_stands (va_wsS RX6 192 yX6_isAhead wsX6_isAhead) := goodIn_app (goodIn_of _ (by decide +kernel)) ggX6_stands_X6_isAhead
set_option maxRecDepth 20000 in
theorem ggX6_stands_X1_become : GoodIn wsX6_stands wsX1_become := goodIn_r _ [14, 15, 16, 17, 18, 19, 20, 21, 22, 23, 24, 25, 26, 83, 84, 85, 86, 87, 88, 89, 90, 91, 92, 93, 94] (by decide +kernel) (by decide +kernel)
set_option maxRecDepth 20000 in
theorem gX6_stands_X1_become : GoodIn wsX6_stands (wsV RX6 86 RX1 yX1_become wsX1_become) := goodIn_app (goodIn_of _ (by decide +kernel)) ggX6_stands_X1_become
set_option maxRecDepth 20000 in
theorem ggX6_stands_X1_passDays : GoodIn wsX6_stands wsX1_passDays := goodIn_r _ [30, 18, 31, 32, 33, 13, 34, 15, 17, 22, 23, 35, 36, 37, 38, 19, 39, 40, 41, 42, 21, 43, 44, 45, 46, 47, 48, 49, 50, 51, 52, 53, 54, 55, 56, 57, 58, 20, 26, 25, 24, 16, 59, 60, 61, 62, 63, 64, 65, 66, 67, 68, 69, 83, 84, 85, 86, 87, 88, 89, 90, 91, 92, 93, 94] (by decide +kernel) (by decide +kernel)
set_option maxRecDepth 20000 in
theorem gX6_stands_X1_passDays : GoodIn wsX6_stands (wsV RX6 188 RX1 yX1_passDays wsX1_passDays) := goodIn_app (goodIn_of _ (by decide +kernel)) ggX6_stands_X1_passDays
set_option maxRecDepth 20000 in
theorem ggX6_stands_X1_standing : GoodIn wsX6_stands wsX1_standing := goodIn_r _ [50, 15, 83, 84, 85, 86, 87, 88, 89, 90, 91, 92, 93, 94] (by decide +kernel) (by decide +kernel)
set_option maxRecDepth 20000 in
theorem gX6_stands_X1_standing : GoodIn wsX6_stands (wsV RX6 123 RX1 yX1_standing wsX1_standing) := goodIn_app (goodIn_of _ (by decide +kernel)) ggX6_stands_X1_standing
theorem dX6_stands_0 : decode cX6_stands 0 = .ok (.iload_n 1, 1) := by decide +kernel
theorem dX6_stands_1 : decode cX6_stands 1 = .ok (.invokestatic 120, 3) := by decide +kernel
theorem dX6_stands_4 : decode cX6_stands 4 = .ok (.ifCond .eq 10, 3) := by decide +kernel
theorem dX6_stands_7 : decode cX6_stands 7 = .ok (.iload_n 2, 1) := by decide +kernel
theorem dX6_stands_8 : decode cX6_stands 8 = .ok (.invokestatic 192, 3) := by decide +kernel
theorem dX6_stands_11 : decode cX6_stands 11 = .ok (.ifCond .ne 5, 3) := by decide +kernel
theorem dX6_stands_14 : decode cX6_stands 14 = .ok (.iconst (-1), 1) := by decide +kernel
theorem dX6_stands_15 : decode cX6_stands 15 = .ok (.ireturn, 1) := by decide +kernel
theorem dX6_stands_16 : decode cX6_stands 16 = .ok (.aload_n 0, 1) := by decide +kernel
theorem dX6_stands_17 : decode cX6_stands 17 = .ok (.getfield 23, 3) := by decide +kernel
theorem dX6_stands_20 : decode cX6_stands 20 = .ok (.aload_n 0, 1) := by decide +kernel
theorem dX6_stands_21 : decode cX6_stands 21 = .ok (.getfield 19, 3) := by decide +kernel
theorem dX6_stands_24 : decode cX6_stands 24 = .ok (.invokevirtual 86, 3) := by decide +kernel
theorem dX6_stands_27 : decode cX6_stands 27 = .ok (.aload_n 0, 1) := by decide +kernel
