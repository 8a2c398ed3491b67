theorem dX6_stands_28 : decode cX6_stands 28 = .ok (.getfield 23, 3) := by decide +kernel
theorem dX6_stands_31 : decode cX6_stands 31 = .ok (.iload_n 2, 1) := by decide +kernel
theorem dX6_stands_32 : decode cX6_stands 32 = .ok (.invokevirtual 188, 3) := by decide +kernel
theorem dX6_stands_35 : decode cX6_stands 35 = .ok (.aload_n 0, 1) := by decide +kernel
theorem dX6_stands_36 : decode cX6_stands 36 = .ok (.getfield 23, 3) := by decide +kernel
theorem dX6_stands_39 : decode cX6_stands 39 = .ok (.iload_n 1, 1) := by decide +kernel
theorem dX6_stands_40 : decode cX6_stands 40 = .ok (.invokevirtual 123, 3) := by decide +kernel
theorem dX6_stands_43 : decode cX6_stands 43 = .ok (.ireturn, 1) := by decide +kernel
set_option maxRecDepth 20000 in
theorem ggX6_out_X6_isGuest : GoodIn wsX6_out wsX6_isGuest := goodIn_r _ [7, 2, 8, 74, 75, 76, 77, 78, 79, 80, 81, 82, 83, 84, 85, 86, 87, 88, 89, 90, 91, 92, 93, 94, 95, 96, 97] (by decide +kernel) (by decide +kernel)
set_option maxRecDepth 20000 in
theorem gX6_out_X6_isGuest : GoodIn wsX6_out (wsV RX6 136 RX6 yX6_isGuest wsX6_isGuest) := goodIn_app (goodIn_of _ (by decide +kernel)) ggX6_out_X6_isGuest
set_option maxRecDepth 20000 in
theorem ggX6_out_X1_become : GoodIn wsX6_out wsX1_become := goodIn_r _ [13, 14, 15, 16, 17, 18, 19, 20, 21, 22, 23, 24, 25, 86, 87, 88, 89, 90, 91, 92, 93, 94, 95, 96, 97] (by decide +kernel) (by decide +kernel)
set_option maxRecDepth 20000 in
theorem gX6_out_X1_become : GoodIn wsX6_out (wsV RX6 86 RX1 yX1_become wsX1_become) := goodIn_app (goodIn_of _ (by decide +kernel)) ggX6_out_X1_become
set_option maxRecDepth 20000 in
theorem ggX6_out_X6_daysTillOut : GoodIn wsX6_out wsX6_daysTillOut := goodIn_r _ [29, 1, 30, 31, 32, 33, 12, 34, 17, 35, 36, 37, 38, 14, 16, 21, 22, 39, 40, 41, 42, 18, 43, 44, 45, 46, 20, 47, 48, 49, 50, 51, 52, 53, 54, 55, 56, 57, 58, 59, 60, 61, 62, 19, 25, 24, 23, 15, 63, 64, 65, 66, 67, 68, 69, 70, 71, 72, 73, 74, 75, 76, 77, 78, 79, 80, 81, 82, 83, 84, 85, 86, 87, 88, 89, 90, 91, 92, 93, 94, 95, 96, 97] (by decide +kernel) (by decide +kernel)
set_option maxRecDepth 20000 in
theorem gX6_out_X6_daysTillOut : GoodIn wsX6_out (wsV RX6 195 RX6 yX6_daysTillOut wsX6_daysTillOut) := goodIn_app (goodIn_of _ (by decide +kernel)) ggX6_out_X6_daysTillOut
theorem dX6_out_0 : decode cX6_out 0 = .ok (.aload_n 0, 1) := by decide +kernel
theorem dX6_out_1 : decode cX6_out 1 = .ok (.iload_n 1, 1) := by decide +kernel
theorem dX6_out_2 : decode cX6_out 2 = .ok (.invokevirtual 136, 3) := by decide +kernel
theorem dX6_out_5 : decode cX6_out 5 = .ok (.ifCond .ne 5, 3) := by decide +kernel
theorem dX6_out_8 : decode cX6_out 8 = .ok (.iconst (-1), 1) := by decide +kernel
theorem dX6_out_9 : decode cX6_out 9 = .ok (.ireturn, 1) := by decide +kernel
theorem dX6_out_10 : decode cX6_out 10 = .ok (.aload_n 0, 1) := by decide +kernel
theorem dX6_out_11 : decode cX6_out 11 = .ok (.getfield 23, 3) := by decide +kernel
theorem dX6_out_14 : decode cX6_out 14 = .ok (.aload_n 0, 1) := by decide +kernel
theorem dX6_out_15 : decode cX6_out 15 = .ok (.getfield 19, 3) := by decide +kernel
theorem dX6_out_18 : decode cX6_out 18 = .ok (.invokevirtual 86, 3) := by decide +kernel
theorem dX6_out_21 : decode cX6_out 21 = .ok (.aload_n 0, 1) := by decide +kernel
theorem dX6_out_22 : decode cX6_out 22 = .ok (.iload_n 1, 1) := by decide +kernel
theorem dX6_out_23 : decode cX6_out 23 = .ok (.invokevirtual 195, 3) := by decide +kernel
theorem dX6_out_26 : decode cX6_out 26 = .ok (.ireturn, 1) := by decide +kernel
set_option maxRecDepth 20000 in
theorem ggX6_again_X1_become : GoodIn wsX6_again wsX1_become := goodIn_r _ [7, 8, 9, 10, 11, 12, 13, 14, 15, 16, 17, 18, 19, 64, 65, 66, 67, 68, 69, 70, 71, 72, 73, 74, 75] (by decide +kernel) (by decide +kernel)
set_option maxRecDepth 20000 in
theorem gX6_again_X1_become : GoodIn wsX6_again (wsV RX6 86 RX1 yX1_become wsX1_become) := goodIn_app (goodIn_of _ (by decide +kernel)) ggX6_again_X1_become
set_option maxRecDepth 20000 in
theorem ggX6_again_X1_passDayOfGardeners : GoodIn wsX6_again wsX1_passDayOfGardeners := goodIn_r _ [23, 11, 24, 25, 26, 6, 27, 8, 10, 15, 16, 28, 29, 30, 31, 12, 32, 33, 34, 35, 14, 36, 37, 38, 39, 40, 41, 42, 43, 44, 45, 46, 47, 64, 65, 66, 67, 68, 69, 70, 71, 72, 73, 74, 75] (by decide +kernel) (by decide +kernel)
set_option maxRecDepth 20000 in
theorem gX6_again_X1_passDayOfGardeners : GoodIn wsX6_again (wsV RX6 198 RX1 yX1_passDayOfGardeners wsX1_passDayOfGardeners) := goodIn_app (goodIn_of _ (by decide +kernel)) ggX6_again_X1_passDayOfGardeners
set_option maxRecDepth 20000 in
theorem ggX6_again_X1_isMownLike : GoodIn wsX6_again wsX1_isMownLike := goodIn_r _ [51, 8, 10, 12, 15, 28, 29, 30, 6, 31, 11, 64, 65, 66, 67, 68, 69, 70, 71, 72, 73, 74, 75] (by decide +kernel) (by decide +kernel)
set_option maxRecDepth 20000 in
theorem gX6_again_X1_isMownLike : GoodIn wsX6_again (wsV RX6 201 RX1 yX1_isMownLike wsX1_isMownLike) := goodIn_app (goodIn_of _ (by decide +kernel)) ggX6_again_X1_isMownLike
theorem dX6_again_0 : decode cX6_again 0 = .ok (.aload_n 0, 1) := by decide +kernel
theorem dX6_again_1 : decode cX6_again 1 = .ok (.getfield 23, 3) := by decide +kernel
theorem dX6_again_4 : decode cX6_again 4 = .ok (.aload_n 0, 1) := by decide +kernel
theorem dX6_again_5 : decode cX6_again 5 = .ok (.getfield 19, 3) := by decide +kernel
theorem dX6_again_8 : decode cX6_again 8 = .ok (.invokevirtual 86, 3) := by decide +kernel
theorem dX6_again_11 : decode cX6_again 11 = .ok (.iconst 1, 1) := by decide +kernel
theorem dX6_again_12 : decode cX6_again 12 = .ok (.istore_n 1, 1) := by decide +kernel
theorem dX6_again_13 : decode cX6_again 13 = .ok (.iload_n 1, 1) := by decide +kernel
theorem dX6_again_14 : decode cX6_again 14 = .ok (.bipush 60, 2) := by decide +kernel
theorem dX6_again_16 : decode cX6_again 16 = .ok (.if_icmp .gt 32, 3) := by decide +kernel
theorem dX6_again_19 : decode cX6_again 19 = .ok (.aload_n 0, 1) := by decide +kernel
theorem dX6_again_20 : decode cX6_again 20 = .ok (.getfield 23, 3) := by decide +kernel
theorem dX6_again_23 : decode cX6_again 23 = .ok (.invokevirtual 198, 3) := by decide +kernel
theorem dX6_again_26 : decode cX6_again 26 = .ok (.aload_n 0, 1) := by decide +kernel
theorem dX6_again_27 : decode cX6_again 27 = .ok (.getfield 23, 3) := by decide +kernel
theorem dX6_again_30 : decode cX6_again 30 = .ok (.aload_n 0, 1) := by decide +kernel
theorem dX6_again_31 : decode cX6_again 31 = .ok (.getfield 19, 3) := by decide +kernel
theorem dX6_again_34 : decode cX6_again 34 = .ok (.invokevirtual 201, 3) := by decide +kernel
theorem dX6_again_37 : decode cX6_again 37 = .ok (.ifCond .eq 5, 3) := by decide +kernel
theorem dX6_again_40 : decode cX6_again 40 = .ok (.iload_n 1, 1) := by decide +kernel
theorem dX6_again_41 : decode cX6_again 41 = .ok (.ireturn, 1) := by decide +kernel
theorem dX6_again_42 : decode cX6_again 42 = .ok (.iinc 1 1, 3) := by decide +kernel
theorem dX6_again_45 : decode cX6_again 45 = .ok (.goto (-32), 3) := by decide +kernel
theorem dX6_again_48 : decode cX6_again 48 = .ok (.bipush (-4), 2) := by decide +kernel
theorem dX6_again_50 : decode cX6_again 50 = .ok (.ireturn, 1) := by decide +kernel
set_option maxRecDepth 20000 in
theorem ggX6_cut_X6_isAhead : GoodIn wsX6_cut wsX6_isAhead := goodIn_r _ [8] (by decide +kernel) (by decide +kernel)
set_option maxRecDepth 20000 in
theorem gX6_cut_X6_isAhead : GoodIn wsX6_cut (va_wsS RX6 192 yX6_isAhead wsX6_isAhead) := goodIn_app (goodIn_of _ (by decide +kernel)) ggX6_cut_X6_isAhead
set_option maxRecDepth 20000 in
theorem ggX6_cut_X6_isBit : GoodIn wsX6_cut wsX6_isBit := goodIn_r _ [11] (by decide +kernel) (by decide +kernel)
set_option maxRecDepth 20000 in
theorem gX6_cut_X6_isBit : GoodIn wsX6_cut (va_wsS RX6 154 yX6_isBit wsX6_isBit) := goodIn_app (goodIn_of _ (by decide +kernel)) ggX6_cut_X6_isBit
set_option maxRecDepth 20000 in
theorem ggX6_cut_X6_outsAsItIs : GoodIn wsX6_cut wsX6_outsAsItIs := goodIn_r _ [15, 2, 3, 16, 17, 18, 19, 20, 21, 22, 23, 24, 25, 26, 27, 28, 29, 30, 31, 32, 33, 34, 35, 36, 37, 38, 39, 40, 41, 42, 43, 44, 45, 46, 47, 48, 49, 50, 51, 52, 53, 54, 55, 56, 57, 58, 59, 60, 61, 62, 63, 64, 65, 66, 67, 68, 69, 70, 71, 72, 73, 74, 75, 76, 77, 78, 79, 80, 81, 82, 83, 84, 85, 86, 87, 88, 89, 90, 91, 92, 93, 94, 95, 96, 97, 116, 117, 118, 119, 120, 121, 122, 123, 124, 125, 126, 127, 128, 129, 130, 131, 132, 133, 134, 135, 136, 137, 138, 139] (by decide +kernel) (by decide +kernel)
set_option maxRecDepth 20000 in
theorem gX6_cut_X6_outsAsItIs : GoodIn wsX6_cut (wsV RX6 205 RX6 yX6_outsAsItIs wsX6_outsAsItIs) := goodIn_app (goodIn_of _ (by decide +kernel)) ggX6_cut_X6_outsAsItIs
set_option maxRecDepth 20000 in
theorem ggX6_cut_X0_above : GoodIn wsX6_cut wsX0_above := goodIn_r _ [102, 103, 104, 140, 141] (by decide +kernel) (by decide +kernel)
set_option maxRecDepth 20000 in
theorem gX6_cut_X0_above : GoodIn wsX6_cut (wsV RX6 208 RX0 yX0_above wsX0_above) := goodIn_app (goodIn_of _ (by decide +kernel)) ggX6_cut_X0_above
set_option maxRecDepth 20000 in
theorem ggX6_cut_X1_become : GoodIn wsX6_cut wsX1_become := goodIn_r _ [20, 21, 22, 23, 24, 25, 26, 27, 28, 29, 30, 31, 32, 128, 129, 130, 131, 132, 133, 134, 135, 136, 137, 138, 139] (by decide +kernel) (by decide +kernel)
set_option maxRecDepth 20000 in
theorem gX6_cut_X1_become : GoodIn wsX6_cut (wsV RX6 86 RX1 yX1_become wsX1_become) := goodIn_app (goodIn_of _ (by decide +kernel)) ggX6_cut_X1_become
set_option maxRecDepth 20000 in
theorem ggX6_cut_X2_changed : GoodIn wsX6_cut wsX2_changed := goodIn_r _ [107] (by decide +kernel) (by decide +kernel)
set_option maxRecDepth 20000 in
theorem gX6_cut_X2_changed : GoodIn wsX6_cut (va_wsS RX6 211 yX2_changed wsX2_changed) := goodIn_app (goodIn_of _ (by decide +kernel)) ggX6_cut_X2_changed
set_option maxRecDepth 20000 in
theorem ggX6_cut_X1_outsBehind : GoodIn wsX6_cut wsX1_outsBehind := goodIn_r _ [36, 37, 38, 39, 19, 40, 25, 41, 42, 43, 44, 26, 32, 45, 46, 47, 48, 24, 49, 50, 51, 52, 21, 23, 28, 29, 53, 54, 55, 56, 27, 57, 58, 59, 60, 61, 62, 63, 64, 65, 66, 67, 68, 69, 70, 71, 72, 73, 74, 75, 76, 31, 30, 22, 77, 78, 79, 80, 81, 82, 83, 84, 85, 86, 87, 88, 89, 90, 91, 92, 93, 94, 95, 96, 97, 128, 129, 130, 131, 132, 133, 134, 135, 136, 137, 138, 139] (by decide +kernel) (by decide +kernel)
set_option maxRecDepth 20000 in
theorem gX6_cut_X1_outsBehind : GoodIn wsX6_cut (wsV RX6 215 RX1 yX1_outsBehind wsX1_outsBehind) := goodIn_app (goodIn_of _ (by decide +kernel)) ggX6_cut_X1_outsBehind
set_option maxRecDepth 20000 in
theorem ggX6_cut_X0_offer : GoodIn wsX6_cut wsX0_offer := goodIn_r _ [111, 104, 103, 140, 141] (by decide +kernel) (by decide +kernel)
set_option maxRecDepth 20000 in
theorem gX6_cut_X0_offer : GoodIn wsX6_cut (wsV RX6 218 RX0 yX0_offer wsX0_offer) := goodIn_app (goodIn_of _ (by decide +kernel)) ggX6_cut_X0_offer
set_option maxRecDepth 20000 in
theorem ggX6_cut_X0_told : GoodIn wsX6_cut wsX0_told := goodIn_r _ [115, 103, 104, 140, 141] (by decide +kernel) (by decide +kernel)
set_option maxRecDepth 20000 in
theorem gX6_cut_X0_told : GoodIn wsX6_cut (wsV RX6 222 RX0 yX0_told wsX0_told) := goodIn_app (goodIn_of _ (by decide +kernel)) ggX6_cut_X0_told
theorem dX6_cut_0 : decode cX6_cut 0 = .ok (.iload_n 1, 1) := by decide +kernel
theorem dX6_cut_1 : decode cX6_cut 1 = .ok (.invokestatic 192, 3) := by decide +kernel
theorem dX6_cut_4 : decode cX6_cut 4 = .ok (.ifCond .eq 10, 3) := by decide +kernel
theorem dX6_cut_7 : decode cX6_cut 7 = .ok (.iload_n 2, 1) := by decide +kernel
theorem dX6_cut_8 : decode cX6_cut 8 = .ok (.invokestatic 154, 3) := by decide +kernel
theorem dX6_cut_11 : decode cX6_cut 11 = .ok (.ifCond .ne 5, 3) := by decide +kernel
theorem dX6_cut_14 : decode cX6_cut 14 = .ok (.iconst (-1), 1) := by decide +kernel
theorem dX6_cut_15 : decode cX6_cut 15 = .ok (.ireturn, 1) := by decide +kernel
theorem dX6_cut_16 : decode cX6_cut 16 = .ok (.aload_n 0, 1) := by decide +kernel
theorem dX6_cut_17 : decode cX6_cut 17 = .ok (.getfield 56, 3) := by decide +kernel
theorem dX6_cut_20 : decode cX6_cut 20 = .ok (.aload_n 0, 1) := by decide +kernel
theorem dX6_cut_21 : decode cX6_cut 21 = .ok (.iload_n 1, 1) := by decide +kernel
theorem dX6_cut_22 : decode cX6_cut 22 = .ok (.invokevirtual 205, 3) := by decide +kernel
theorem dX6_cut_25 : decode cX6_cut 25 = .ok (.invokevirtual 208, 3) := by decide +kernel
theorem dX6_cut_28 : decode cX6_cut 28 = .ok (.iconst 0, 1) := by decide +kernel
theorem dX6_cut_29 : decode cX6_cut 29 = .ok (.istore_n 3, 1) := by decide +kernel
theorem dX6_cut_30 : decode cX6_cut 30 = .ok (.iload_n 3, 1) := by decide +kernel
theorem dX6_cut_31 : decode cX6_cut 31 = .ok (.bipush 24, 2) := by decide +kernel
theorem dX6_cut_33 : decode cX6_cut 33 = .ok (.if_icmp .ge 54, 3) := by decide +kernel
theorem dX6_cut_36 : decode cX6_cut 36 = .ok (.aload_n 0, 1) := by decide +kernel
theorem dX6_cut_37 : decode cX6_cut 37 = .ok (.getfield 23, 3) := by decide +kernel
theorem dX6_cut_40 : decode cX6_cut 40 = .ok (.aload_n 0, 1) := by decide +kernel
theorem dX6_cut_41 : decode cX6_cut 41 = .ok (.getfield 19, 3) := by decide +kernel
theorem dX6_cut_44 : decode cX6_cut 44 = .ok (.invokevirtual 86, 3) := by decide +kernel
theorem dX6_cut_47 : decode cX6_cut 47 = .ok (.aload_n 0, 1) := by decide +kernel
theorem dX6_cut_48 : decode cX6_cut 48 = .ok (.getfield 23, 3) := by decide +kernel
theorem dX6_cut_51 : decode cX6_cut 51 = .ok (.aload_n 0, 1) := by decide +kernel
theorem dX6_cut_52 : decode cX6_cut 52 = .ok (.getfield 23, 3) := by decide +kernel
theorem dX6_cut_55 : decode cX6_cut 55 = .ok (.getfield 105, 3) := by decide +kernel
theorem dX6_cut_58 : decode cX6_cut 58 = .ok (.iload_n 3, 1) := by decide +kernel
theorem dX6_cut_59 : decode cX6_cut 59 = .ok (.invokestatic 211, 3) := by decide +kernel
theorem dX6_cut_62 : decode cX6_cut 62 = .ok (.putfield 105, 3) := by decide +kernel
theorem dX6_cut_65 : decode cX6_cut 65 = .ok (.aload_n 0, 1) := by decide +kernel
theorem dX6_cut_66 : decode cX6_cut 66 = .ok (.getfield 56, 3) := by decide +kernel
theorem dX6_cut_69 : decode cX6_cut 69 = .ok (.iload_n 3, 1) := by decide +kernel
theorem dX6_cut_70 : decode cX6_cut 70 = .ok (.aload_n 0, 1) := by decide +kernel
theorem dX6_cut_71 : decode cX6_cut 71 = .ok (.getfield 23, 3) := by decide +kernel
theorem dX6_cut_74 : decode cX6_cut 74 = .ok (.iload_n 1, 1) := by decide +kernel
theorem dX6_cut_75 : decode cX6_cut 75 = .ok (.invokevirtual 215, 3) := by decide +kernel
theorem dX6_cut_78 : decode cX6_cut 78 = .ok (.invokevirtual 218, 3) := by decide +kernel
theorem dX6_cut_81 : decode cX6_cut 81 = .ok (.iinc 3 1, 3) := by decide +kernel
theorem dX6_cut_84 : decode cX6_cut 84 = .ok (.goto (-54), 3) := by decide +kernel
theorem dX6_cut_87 : decode cX6_cut 87 = .ok (.aload_n 0, 1) := by decide +kernel
theorem dX6_cut_88 : decode cX6_cut 88 = .ok (.getfield 56, 3) := by decide +kernel
theorem dX6_cut_91 : decode cX6_cut 91 = .ok (.iload_n 2, 1) := by decide +kernel
theorem dX6_cut_92 : decode cX6_cut 92 = .ok (.invokevirtual 222, 3) := by decide +kernel
theorem dX6_cut_95 : decode cX6_cut 95 = .ok (.ireturn, 1) := by decide +kernel
set_option maxRecDepth 20000 in
theorem ggX6_door_X6_isAhead : GoodIn wsX6_door wsX6_isAhead := goodIn_r _ [8] (by decide +kernel) (by decide +kernel)
set_option maxRecDepth 20000 in
theorem gX6_door_X6_isAhead : GoodIn wsX6_door (va_wsS RX6 192 yX6_isAhead wsX6_isAhead) := goodIn_app (goodIn_of _ (by decide +kernel)) ggX6_door_X6_isAhead
set_option maxRecDepth 20000 in
theorem ggX6_door_X6_isBit : GoodIn wsX6_door wsX6_isBit := goodIn_r _ [11] (by decide +kernel) (by decide +kernel)
set_option maxRecDepth 20000 in
theorem gX6_door_X6_isBit : GoodIn wsX6_door (va_wsS RX6 154 yX6_isBit wsX6_isBit) := goodIn_app (goodIn_of _ (by decide +kernel)) ggX6_door_X6_isBit
set_option maxRecDepth 20000 in
theorem ggX6_door_X0_above : GoodIn wsX6_door wsX0_above := goodIn_r _ [16, 17, 18, 133, 134] (by decide +kernel) (by decide +kernel)
set_option maxRecDepth 20000 in
theorem gX6_door_X0_above : GoodIn wsX6_door (wsV RX6 208 RX0 yX0_above wsX0_above) := goodIn_app (goodIn_of _ (by decide +kernel)) ggX6_door_X0_above
set_option maxRecDepth 20000 in
theorem ggX6_door_X1_become : GoodIn wsX6_door wsX1_become := goodIn_r _ [23, 24, 25, 26, 27, 28, 29, 30, 31, 32, 33, 34, 35, 121, 122, 123, 124, 125, 126, 127, 128, 129, 130, 131, 132] (by decide +kernel) (by decide +kernel)
set_option maxRecDepth 20000 in
theorem gX6_door_X1_become : GoodIn wsX6_door (wsV RX6 86 RX1 yX1_become wsX1_become) := goodIn_app (goodIn_of _ (by decide +kernel)) ggX6_door_X1_become
set_option maxRecDepth 20000 in
theorem ggX6_door_X1_outsBehind : GoodIn wsX6_door wsX1_outsBehind := goodIn_r _ [39, 40, 41, 42, 22, 43, 28, 44, 45, 46, 47, 29, 35, 48, 49, 50, 51, 27, 52, 53, 54, 55, 24, 26, 31, 32, 56, 57, 58, 59, 30, 60, 61, 62, 63, 64, 65, 66, 67, 68, 69, 70, 71, 72, 73, 74, 75, 76, 77, 78, 79, 34, 33, 25, 80, 81, 82, 83, 84, 85, 86, 87, 88, 89, 90, 91, 92, 93, 94, 95, 96, 97, 98, 99, 100, 121, 122, 123, 124, 125, 126, 127, 128, 129, 130, 131, 132] (by decide +kernel) (by decide +kernel)
set_option maxRecDepth 20000 in
theorem gX6_door_X1_outsBehind : GoodIn wsX6_door (wsV RX6 215 RX1 yX1_outsBehind wsX1_outsBehind) := goodIn_app (goodIn_of _ (by decide +kernel)) ggX6_door_X1_outsBehind
set_option maxRecDepth 20000 in
theorem ggX6_door_X0_offer : GoodIn wsX6_door wsX0_offer := goodIn_r _ [104, 18, 17, 133, 134] (by decide +kernel) (by decide +kernel)
set_option maxRecDepth 20000 in
theorem gX6_door_X0_offer : GoodIn wsX6_door (wsV RX6 218 RX0 yX0_offer wsX0_offer) := goodIn_app (goodIn_of _ (by decide +kernel)) ggX6_door_X0_offer
set_option maxRecDepth 20000 in
theorem ggX6_door_X0_told : GoodIn wsX6_door wsX0_told := goodIn_r _ [108, 17, 18, 133, 134] (by decide +kernel) (by decide +kernel)
set_option maxRecDepth 20000 in
theorem gX6_door_X0_told : GoodIn wsX6_door (wsV RX6 222 RX0 yX0_told wsX0_told) := goodIn_app (goodIn_of _ (by decide +kernel)) ggX6_door_X0_told
theorem dX6_door_0 : decode cX6_door 0 = .ok (.iload_n 1, 1) := by decide +kernel
theorem dX6_door_1 : decode cX6_door 1 = .ok (.invokestatic 192, 3) := by decide +kernel
theorem dX6_door_4 : decode cX6_door 4 = .ok (.ifCond .eq 10, 3) := by decide +kernel
theorem dX6_door_7 : decode cX6_door 7 = .ok (.iload_n 2, 1) := by decide +kernel
theorem dX6_door_8 : decode cX6_door 8 = .ok (.invokestatic 154, 3) := by decide +kernel
theorem dX6_door_11 : decode cX6_door 11 = .ok (.ifCond .ne 5, 3) := by decide +kernel
theorem dX6_door_14 : decode cX6_door 14 = .ok (.iconst (-1), 1) := by decide +kernel
theorem dX6_door_15 : decode cX6_door 15 = .ok (.ireturn, 1) := by decide +kernel
theorem dX6_door_16 : decode cX6_door 16 = .ok (.aload_n 0, 1) := by decide +kernel
theorem dX6_door_17 : decode cX6_door 17 = .ok (.getfield 56, 3) := by decide +kernel
theorem dX6_door_20 : decode cX6_door 20 = .ok (.iconst (-1), 1) := by decide +kernel
theorem dX6_door_21 : decode cX6_door 21 = .ok (.invokevirtual 208, 3) := by decide +kernel
theorem dX6_door_24 : decode cX6_door 24 = .ok (.iconst 0, 1) := by decide +kernel
theorem dX6_door_25 : decode cX6_door 25 = .ok (.istore_n 3, 1) := by decide +kernel
theorem dX6_door_26 : decode cX6_door 26 = .ok (.iload_n 3, 1) := by decide +kernel
theorem dX6_door_27 : decode cX6_door 27 = .ok (.bipush 16, 2) := by decide +kernel
theorem dX6_door_29 : decode cX6_door 29 = .ok (.if_icmp .ge 44, 3) := by decide +kernel
theorem dX6_door_32 : decode cX6_door 32 = .ok (.aload_n 0, 1) := by decide +kernel
theorem dX6_door_33 : decode cX6_door 33 = .ok (.getfield 23, 3) := by decide +kernel
theorem dX6_door_36 : decode cX6_door 36 = .ok (.aload_n 0, 1) := by decide +kernel
theorem dX6_door_37 : decode cX6_door 37 = .ok (.getfield 19, 3) := by decide +kernel
theorem dX6_door_40 : decode cX6_door 40 = .ok (.invokevirtual 86, 3) := by decide +kernel
theorem dX6_door_43 : decode cX6_door 43 = .ok (.aload_n 0, 1) := by decide +kernel
theorem dX6_door_44 : decode cX6_door 44 = .ok (.getfield 23, 3) := by decide +kernel
theorem dX6_door_47 : decode cX6_door 47 = .ok (.iload_n 3, 1) := by decide +kernel
theorem dX6_door_48 : decode cX6_door 48 = .ok (.putfield 102, 3) := by decide +kernel
theorem dX6_door_51 : decode cX6_door 51 = .ok (.aload_n 0, 1) := by decide +kernel
theorem dX6_door_52 : decode cX6_door 52 = .ok (.getfield 56, 3) := by decide +kernel
theorem dX6_door_55 : decode cX6_door 55 = .ok (.iload_n 3, 1) := by decide +kernel
theorem dX6_door_56 : decode cX6_door 56 = .ok (.aload_n 0, 1) := by decide +kernel
theorem dX6_door_57 : decode cX6_door 57 = .ok (.getfield 23, 3) := by decide +kernel
theorem dX6_door_60 : decode cX6_door 60 = .ok (.iload_n 1, 1) := by decide +kernel
theorem dX6_door_61 : decode cX6_door 61 = .ok (.invokevirtual 215, 3) := by decide +kernel
theorem dX6_door_64 : decode cX6_door 64 = .ok (.invokevirtual 218, 3) := by decide +kernel
theorem dX6_door_67 : decode cX6_door 67 = .ok (.iinc 3 1, 3) := by decide +kernel
theorem dX6_door_70 : decode cX6_door 70 = .ok (.goto (-44), 3) := by decide +kernel
theorem dX6_door_73 : decode cX6_door 73 = .ok (.aload_n 0, 1) := by decide +kernel
theorem dX6_door_74 : decode cX6_door 74 = .ok (.getfield 56, 3) := by decide +kernel
theorem dX6_door_77 : decode cX6_door 77 = .ok (.iload_n 2, 1) := by decide +kernel
theorem dX6_door_78 : decode cX6_door 78 = .ok (.invokevirtual 222, 3) := by decide +kernel
theorem dX6_door_81 : decode cX6_door 81 = .ok (.ireturn, 1) := by decide +kernel
set_option maxRecDepth 20000 in
theorem ggX6_food_X6_isGuest : GoodIn wsX6_food wsX6_isGuest := goodIn_r _ [9, 1, 10, 75, 76, 77, 78, 79, 80, 81, 82, 83, 84, 85, 86, 87, 88, 89, 90, 91, 92, 93, 94, 95, 96, 97, 98] (by decide +kernel) (by decide +kernel)
set_option maxRecDepth 20000 in
theorem gX6_food_X6_isGuest : GoodIn wsX6_food (wsV RX6 136 RX6 yX6_isGuest wsX6_isGuest) := goodIn_app (goodIn_of _ (by decide +kernel)) ggX6_food_X6_isGuest
set_option maxRecDepth 20000 in
theorem ggX6_food_X1_become : GoodIn wsX6_food wsX1_become := goodIn_r _ [15, 16, 17, 18, 19, 20, 21, 22, 23, 24, 25, 26, 27, 87, 88, 89, 90, 91, 92, 93, 94, 95, 96, 97, 98] (by decide +kernel) (by decide +kernel)
set_option maxRecDepth 20000 in
theorem gX6_food_X1_become : GoodIn wsX6_food (wsV RX6 86 RX1 yX1_become wsX1_become) := goodIn_app (goodIn_of _ (by decide +kernel)) ggX6_food_X1_become
set_option maxRecDepth 20000 in
theorem ggX6_food_X6_daysTillOut : GoodIn wsX6_food wsX6_daysTillOut := goodIn_r _ [31, 3, 2, 32, 33, 34, 14, 35, 19, 36, 37, 38, 39, 16, 18, 23, 24, 40, 41, 42, 43, 20, 44, 45, 46, 47, 22, 48, 49, 50, 51, 52, 53, 54, 55, 56, 57, 58, 59, 60, 61, 62, 63, 21, 27, 26, 25, 17, 64, 65, 66, 67, 68, 69, 70, 71, 72, 73, 74, 75, 76, 77, 78, 79, 80, 81, 82, 83, 84, 85, 86, 87, 88, 89, 90, 91, 92, 93, 94, 95, 96, 97, 98] (by decide +kernel) (by decide +kernel)
set_option maxRecDepth 20000 in
theorem gX6_food_X6_daysTillOut : GoodIn wsX6_food (wsV RX6 195 RX6 yX6_daysTillOut wsX6_daysTillOut) := goodIn_app (goodIn_of _ (by decide +kernel)) ggX6_food_X6_daysTillOut
theorem dX6_food_0 : decode cX6_food 0 = .ok (.aload_n 0, 1) := by decide +kernel
theorem dX6_food_1 : decode cX6_food 1 = .ok (.iload_n 1, 1) := by decide +kernel
theorem dX6_food_2 : decode cX6_food 2 = .ok (.invokevirtual 136, 3) := by decide +kernel
theorem dX6_food_5 : decode cX6_food 5 = .ok (.ifCond .ne 5, 3) := by decide +kernel
theorem dX6_food_8 : decode cX6_food 8 = .ok (.iconst (-1), 1) := by decide +kernel
theorem dX6_food_9 : decode cX6_food 9 = .ok (.ireturn, 1) := by decide +kernel
theorem dX6_food_10 : decode cX6_food 10 = .ok (.aload_n 0, 1) := by decide +kernel
theorem dX6_food_11 : decode cX6_food 11 = .ok (.getfield 19, 3) := by decide +kernel
theorem dX6_food_14 : decode cX6_food 14 = .ok (.getfield 178, 3) := by decide +kernel
theorem dX6_food_17 : decode cX6_food 17 = .ok (.iload_n 1, 1) := by decide +kernel
theorem dX6_food_18 : decode cX6_food 18 = .ok (.iaload, 1) := by decide +kernel
theorem dX6_food_19 : decode cX6_food 19 = .ok (.ifCond .eq 6, 3) := by decide +kernel
theorem dX6_food_22 : decode cX6_food 22 = .ok (.bipush (-2), 2) := by decide +kernel
theorem dX6_food_24 : decode cX6_food 24 = .ok (.ireturn, 1) := by decide +kernel
theorem dX6_food_25 : decode cX6_food 25 = .ok (.aload_n 0, 1) := by decide +kernel
theorem dX6_food_26 : decode cX6_food 26 = .ok (.getfield 23, 3) := by decide +kernel
theorem dX6_food_29 : decode cX6_food 29 = .ok (.aload_n 0, 1) := by decide +kernel
theorem dX6_food_30 : decode cX6_food 30 = .ok (.getfield 19, 3) := by decide +kernel
theorem dX6_food_33 : decode cX6_food 33 = .ok (.invokevirtual 86, 3) := by decide +kernel
theorem dX6_food_36 : decode cX6_food 36 = .ok (.aload_n 0, 1) := by decide +kernel
theorem dX6_food_37 : decode cX6_food 37 = .ok (.getfield 23, 3) := by decide +kernel
theorem dX6_food_40 : decode cX6_food 40 = .ok (.getfield 181, 3) := by decide +kernel
theorem dX6_food_43 : decode cX6_food 43 = .ok (.iload_n 1, 1) := by decide +kernel
theorem dX6_food_44 : decode cX6_food 44 = .ok (.bipush 60, 2) := by decide +kernel
theorem dX6_food_46 : decode cX6_food 46 = .ok (.iastore, 1) := by decide +kernel
theorem dX6_food_47 : decode cX6_food 47 = .ok (.aload_n 0, 1) := by decide +kernel
theorem dX6_food_48 : decode cX6_food 48 = .ok (.iload_n 1, 1) := by decide +kernel
theorem dX6_food_49 : decode cX6_food 49 = .ok (.invokevirtual 195, 3) := by decide +kernel
theorem dX6_food_52 : decode cX6_food 52 = .ok (.ireturn, 1) := by decide +kernel
set_option maxRecDepth 20000 in
theorem ggX6_sack_X6_isAhead : GoodIn wsX6_sack wsX6_isAhead := goodIn_r _ [8] (by decide +kernel) (by decide +kernel)
set_option maxRecDepth 20000 in
theorem gX6_sack_X6_isAhead : GoodIn wsX6_sack (va_wsS RX6 192 yX6_isAhead wsX6_isAhead) := goodIn_app (goodIn_of _ (by decide +kernel)) ggX6_sack_X6_isAhead
set_option maxRecDepth 20000 in
theorem ggX6_sack_X6_isBit : GoodIn wsX6_sack wsX6_isBit := goodIn_r _ [11] (by decide +kernel) (by decide +kernel)
set_option maxRecDepth 20000 in
theorem gX6_sack_X6_isBit : GoodIn wsX6_sack (va_wsS RX6 154 yX6_isBit wsX6_isBit) := goodIn_app (goodIn_of _ (by decide +kernel)) ggX6_sack_X6_isBit
set_option maxRecDepth 20000 in
theorem ggX6_sack_X6_outsAsItIs : GoodIn wsX6_sack wsX6_outsAsItIs := goodIn_r _ [15, 4, 2, 16, 17, 18, 19, 20, 21, 22, 23, 24, 25, 26, 27, 28, 29, 30, 31, 32, 33, 34, 35, 36, 37, 38, 39, 40, 41, 42, 43, 44, 45, 46, 47, 48, 49, 50, 51, 52, 53, 54, 55, 56, 57, 58, 59, 60, 61, 62, 63, 64, 65, 66, 67, 68, 69, 70, 71, 72, 73, 74, 75, 76, 77, 78, 79, 80, 81, 82, 83, 84, 85, 86, 87, 88, 89, 90, 91, 92, 93, 94, 95, 96, 97, 114, 115, 116, 117, 118, 119, 120, 121, 122, 123, 124, 125, 126, 127, 128, 129, 130, 131, 132, 133, 134, 135, 136, 137] (by decide +kernel) (by decide +kernel)
set_option maxRecDepth 20000 in
theorem gX6_sack_X6_outsAsItIs : GoodIn wsX6_sack (wsV RX6 205 RX6 yX6_outsAsItIs wsX6_outsAsItIs) := goodIn_app (goodIn_of _ (by decide +kernel)) ggX6_sack_X6_outsAsItIs
set_option maxRecDepth 20000 in
theorem ggX6_sack_X0_above : GoodIn wsX6_sack wsX0_above := goodIn_r _ [102, 103, 104, 138, 139] (by decide +kernel) (by decide +kernel)
set_option maxRecDepth 20000 in
theorem gX6_sack_X0_above : GoodIn wsX6_sack (wsV RX6 208 RX0 yX0_above wsX0_above) := goodIn_app (goodIn_of _ (by decide +kernel)) ggX6_sack_X0_above
set_option maxRecDepth 20000 in
theorem ggX6_sack_X1_become : GoodIn wsX6_sack wsX1_become := goodIn_r _ [20, 21, 22, 23, 24, 25, 26, 27, 28, 29, 30, 31, 32, 126, 127, 128, 129, 130, 131, 132, 133, 134, 135, 136, 137] (by decide +kernel) (by decide +kernel)
set_option maxRecDepth 20000 in
theorem gX6_sack_X1_become : GoodIn wsX6_sack (wsV RX6 86 RX1 yX1_become wsX1_become) := goodIn_app (goodIn_of _ (by decide +kernel)) ggX6_sack_X1_become
set_option maxRecDepth 20000 in
theorem ggX6_sack_X1_outsWithout : GoodIn wsX6_sack wsX1_outsWithout := goodIn_r _ [40, 25, 41, 42, 43, 19, 44, 26, 32, 45, 46, 47, 48, 24, 49, 50, 51, 52, 21, 23, 28, 29, 53, 54, 55, 56, 27, 57, 58, 59, 60, 61, 62, 63, 64, 65, 66, 67, 68, 69, 70, 71, 72, 73, 74, 75, 76, 31, 30, 22, 77, 78, 79, 80, 81, 82, 83, 84, 85, 86, 87, 88, 89, 90, 91, 92, 93, 94, 95, 96, 97, 126, 127, 128, 129, 130, 131, 132, 133, 134, 135, 136, 137] (by decide +kernel) (by decide +kernel)
set_option maxRecDepth 20000 in
theorem gX6_sack_X1_outsWithout : GoodIn wsX6_sack (wsV RX6 224 RX1 yX1_outsWithout wsX1_outsWithout) := goodIn_app (goodIn_of _ (by decide +kernel)) ggX6_sack_X1_outsWithout
set_option maxRecDepth 20000 in
theorem ggX6_sack_X0_offer : GoodIn wsX6_sack wsX0_offer := goodIn_r _ [109, 104, 103, 138, 139] (by decide +kernel) (by decide +kernel)
set_option maxRecDepth 20000 in
theorem gX6_sack_X0_offer : GoodIn wsX6_sack (wsV RX6 218 RX0 yX0_offer wsX0_offer) := goodIn_app (goodIn_of _ (by decide +kernel)) ggX6_sack_X0_offer
set_option maxRecDepth 20000 in
theorem ggX6_sack_X0_told : GoodIn wsX6_sack wsX0_told := goodIn_r _ [113, 103, 104, 138, 139] (by decide +kernel) (by decide +kernel)
set_option maxRecDepth 20000 in
theorem gX6_sack_X0_told : GoodIn wsX6_sack (wsV RX6 222 RX0 yX0_told wsX0_told) := goodIn_app (goodIn_of _ (by decide +kernel)) ggX6_sack_X0_told
theorem dX6_sack_0 : decode cX6_sack 0 = .ok (.iload_n 1, 1) := by decide +kernel
theorem dX6_sack_1 : decode cX6_sack 1 = .ok (.invokestatic 192, 3) := by decide +kernel
theorem dX6_sack_4 : decode cX6_sack 4 = .ok (.ifCond .eq 10, 3) := by decide +kernel
theorem dX6_sack_7 : decode cX6_sack 7 = .ok (.iload_n 2, 1) := by decide +kernel
theorem dX6_sack_8 : decode cX6_sack 8 = .ok (.invokestatic 154, 3) := by decide +kernel
theorem dX6_sack_11 : decode cX6_sack 11 = .ok (.ifCond .ne 5, 3) := by decide +kernel
theorem dX6_sack_14 : decode cX6_sack 14 = .ok (.iconst (-1), 1) := by decide +kernel
theorem dX6_sack_15 : decode cX6_sack 15 = .ok (.ireturn, 1) := by decide +kernel
theorem dX6_sack_16 : decode cX6_sack 16 = .ok (.aload_n 0, 1) := by decide +kernel
theorem dX6_sack_17 : decode cX6_sack 17 = .ok (.getfield 56, 3) := by decide +kernel
theorem dX6_sack_20 : decode cX6_sack 20 = .ok (.aload_n 0, 1) := by decide +kernel
theorem dX6_sack_21 : decode cX6_sack 21 = .ok (.iload_n 1, 1) := by decide +kernel
theorem dX6_sack_22 : decode cX6_sack 22 = .ok (.invokevirtual 205, 3) := by decide +kernel
theorem dX6_sack_25 : decode cX6_sack 25 = .ok (.invokevirtual 208, 3) := by decide +kernel
theorem dX6_sack_28 : decode cX6_sack 28 = .ok (.iconst 0, 1) := by decide +kernel
theorem dX6_sack_29 : decode cX6_sack 29 = .ok (.istore_n 3, 1) := by decide +kernel
theorem dX6_sack_30 : decode cX6_sack 30 = .ok (.iload_n 3, 1) := by decide +kernel
theorem dX6_sack_31 : decode cX6_sack 31 = .ok (.aload_n 0, 1) := by decide +kernel
theorem dX6_sack_32 : decode cX6_sack 32 = .ok (.getfield 19, 3) := by decide +kernel
theorem dX6_sack_35 : decode cX6_sack 35 = .ok (.getfield 93, 3) := by decide +kernel
theorem dX6_sack_38 : decode cX6_sack 38 = .ok (.if_icmp .ge 37, 3) := by decide +kernel
theorem dX6_sack_41 : decode cX6_sack 41 = .ok (.aload_n 0, 1) := by decide +kernel
theorem dX6_sack_42 : decode cX6_sack 42 = .ok (.getfield 23, 3) := by decide +kernel
theorem dX6_sack_45 : decode cX6_sack 45 = .ok (.aload_n 0, 1) := by decide +kernel
theorem dX6_sack_46 : decode cX6_sack 46 = .ok (.getfield 19, 3) := by decide +kernel
theorem dX6_sack_49 : decode cX6_sack 49 = .ok (.invokevirtual 86, 3) := by decide +kernel
theorem dX6_sack_52 : decode cX6_sack 52 = .ok (.aload_n 0, 1) := by decide +kernel
theorem dX6_sack_53 : decode cX6_sack 53 = .ok (.getfield 56, 3) := by decide +kernel
theorem dX6_sack_56 : decode cX6_sack 56 = .ok (.iload_n 3, 1) := by decide +kernel
theorem dX6_sack_57 : decode cX6_sack 57 = .ok (.aload_n 0, 1) := by decide +kernel
theorem dX6_sack_58 : decode cX6_sack 58 = .ok (.getfield 23, 3) := by decide +kernel
theorem dX6_sack_61 : decode cX6_sack 61 = .ok (.iload_n 3, 1) := by decide +kernel
theorem dX6_sack_62 : decode cX6_sack 62 = .ok (.iload_n 1, 1) := by decide +kernel
theorem dX6_sack_63 : decode cX6_sack 63 = .ok (.invokevirtual 224, 3) := by decide +kernel
theorem dX6_sack_66 : decode cX6_sack 66 = .ok (.invokevirtual 218, 3) := by decide +kernel
theorem dX6_sack_69 : decode cX6_sack 69 = .ok (.iinc 3 1, 3) := by decide +kernel
theorem dX6_sack_72 : decode cX6_sack 72 = .ok (.goto (-42), 3) := by decide +kernel
theorem dX6_sack_75 : decode cX6_sack 75 = .ok (.aload_n 0, 1) := by decide +kernel
theorem dX6_sack_76 : decode cX6_sack 76 = .ok (.getfield 56, 3) := by decide +kernel
theorem dX6_sack_79 : decode cX6_sack 79 = .ok (.iload_n 2, 1) := by decide +kernel
theorem dX6_sack_80 : decode cX6_sack 80 = .ok (.invokevirtual 222, 3) := by decide +kernel
theorem dX6_sack_83 : decode cX6_sack 83 = .ok (.ireturn, 1) := by decide +kernel
set_option maxRecDepth 20000 in
theorem ggX6_swap_X6_isAhead : GoodIn wsX6_swap wsX6_isAhead := goodIn_r _ [8] (by decide +kernel) (by decide +kernel)
set_option maxRecDepth 20000 in
theorem gX6_swap_X6_isAhead : GoodIn wsX6_swap (va_wsS RX6 192 yX6_isAhead wsX6_isAhead) := goodIn_app (goodIn_of _ (by decide +kernel)) ggX6_swap_X6_isAhead
set_option maxRecDepth 20000 in
theorem ggX6_swap_X6_isBit : GoodIn wsX6_swap wsX6_isBit := goodIn_r _ [11] (by decide +kernel) (by decide +kernel)
set_option maxRecDepth 20000 in
theorem gX6_swap_X6_isBit : GoodIn wsX6_swap (va_wsS RX6 154 yX6_isBit wsX6_isBit) := goodIn_app (goodIn_of _ (by decide +kernel)) ggX6_swap_X6_isBit
set_option maxRecDepth 20000 in
theorem ggX6_swap_X6_outsAsItIs : GoodIn wsX6_swap wsX6_outsAsItIs := goodIn_r _ [15, 4, 2, 16, 17, 18, 19, 20, 21, 22, 23, 24, 25, 26, 27, 28, 29, 30, 31, 32, 33, 34, 35, 36, 37, 38, 39, 40, 41, 42, 43, 44, 45, 46, 47, 48, 49, 50, 51, 52, 53, 54, 55, 56, 57, 58, 59, 60, 61, 62, 63, 64, 65, 66, 67, 68, 69, 70, 71, 72, 73, 74, 75, 76, 77, 78, 79, 80, 81, 82, 83, 84, 85, 86, 87, 88, 89, 90, 91, 92, 93, 94, 95, 96, 97, 121, 122, 123, 124, 125, 126, 127, 128, 129, 130, 131, 132, 133, 134, 135, 136, 137, 138, 139, 140, 141, 142, 143, 144] (by decide +kernel) (by decide +kernel)
set_option maxRecDepth 20000 in
theorem gX6_swap_X6_outsAsItIs : GoodIn wsX6_swap (wsV RX6 205 RX6 yX6_outsAsItIs wsX6_outsAsItIs) := goodIn_app (goodIn_of _ (by decide +kernel)) ggX6_swap_X6_outsAsItIs
set_option maxRecDepth 20000 in
theorem ggX6_swap_X0_above : GoodIn wsX6_swap wsX0_above := goodIn_r _ [102, 103, 104, 145, 146] (by decide +kernel) (by decide +kernel)
set_option maxRecDepth 20000 in
theorem gX6_swap_X0_above : GoodIn wsX6_swap (wsV RX6 208 RX0 yX0_above wsX0_above) := goodIn_app (goodIn_of _ (by decide +kernel)) ggX6_swap_X0_above
set_option maxRecDepth 20000 in
theorem ggX6_swap_X1_become : GoodIn wsX6_swap wsX1_become := goodIn_r _ [20, 21, 22, 23, 24, 25, 26, 27, 28, 29, 30, 31, 32, 133, 134, 135, 136, 137, 138, 139, 140, 141, 142, 143, 144] (by decide +kernel) (by decide +kernel)
set_option maxRecDepth 20000 in
theorem gX6_swap_X1_become : GoodIn wsX6_swap (wsV RX6 86 RX1 yX1_become wsX1_become) := goodIn_app (goodIn_of _ (by decide +kernel)) ggX6_swap_X1_become
set_option maxRecDepth 20000 in
theorem ggX6_swap_X1_exchange : GoodIn wsX6_swap wsX1_exchange := goodIn_r _ [108, 109, 110, 111, 19, 112, 27, 28, 29, 133, 134, 135, 136, 137, 138, 139, 140, 141, 142, 143, 144] (by decide +kernel) (by decide +kernel)
set_option maxRecDepth 20000 in
theorem gX6_swap_X1_exchange : GoodIn wsX6_swap (wsV RX6 227 RX1 yX1_exchange wsX1_exchange) := goodIn_app (goodIn_of _ (by decide +kernel)) ggX6_swap_X1_exchange
set_option maxRecDepth 20000 in
theorem ggX6_swap_X1_outsBehind : GoodIn wsX6_swap wsX1_outsBehind := goodIn_r _ [36, 37, 38, 39, 19, 40, 25, 41, 42, 43, 44, 26, 32, 45, 46, 47, 48, 24, 49, 50, 51, 52, 21, 23, 28, 29, 53, 54, 55, 56, 27, 57, 58, 59, 60, 61, 62, 63, 64, 65, 66, 67, 68, 69, 70, 71, 72, 73, 74, 75, 76, 31, 30, 22, 77, 78, 79, 80, 81, 82, 83, 84, 85, 86, 87, 88, 89, 90, 91, 92, 93, 94, 95, 96, 97, 133, 134, 135, 136, 137, 138, 139, 140, 141, 142, 143, 144] (by decide +kernel) (by decide +kernel)
set_option maxRecDepth 20000 in
theorem gX6_swap_X1_outsBehind : GoodIn wsX6_swap (wsV RX6 215 RX1 yX1_outsBehind wsX1_outsBehind) := goodIn_app (goodIn_of _ (by decide +kernel)) ggX6_swap_X1_outsBehind
set_option maxRecDepth 20000 in
theorem ggX6_swap_X0_offer : GoodIn wsX6_swap wsX0_offer := goodIn_r _ [116, 104, 103, 145, 146] (by decide +kernel) (by decide +kernel)
set_option maxRecDepth 20000 in
theorem gX6_swap_X0_offer : GoodIn wsX6_swap (wsV RX6 218 RX0 yX0_offer wsX0_offer) := goodIn_app (goodIn_of _ (by decide +kernel)) ggX6_swap_X0_offer
set_option maxRecDepth 20000 in
theorem ggX6_swap_X0_told : GoodIn wsX6_swap wsX0_told := goodIn_r _ [120, 103, 104, 145, 146] (by decide +kernel) (by decide +kernel)
set_option maxRecDepth 20000 in
theorem gX6_swap_X0_told : GoodIn wsX6_swap (wsV RX6 222 RX0 yX0_told wsX0_told) := goodIn_app (goodIn_of _ (by decide +kernel)) ggX6_swap_X0_told
theorem dX6_swap_0 : decode cX6_swap 0 = .ok (.iload_n 1, 1) := by decide +kernel
theorem dX6_swap_1 : decode cX6_swap 1 = .ok (.invokestatic 192, 3) := by decide +kernel
theorem dX6_swap_4 : decode cX6_swap 4 = .ok (.ifCond .eq 10, 3) := by decide +kernel
theorem dX6_swap_7 : decode cX6_swap 7 = .ok (.iload_n 2, 1) := by decide +kernel
theorem dX6_swap_8 : decode cX6_swap 8 = .ok (.invokestatic 154, 3) := by decide +kernel
theorem dX6_swap_11 : decode cX6_swap 11 = .ok (.ifCond .ne 5, 3) := by decide +kernel
theorem dX6_swap_14 : decode cX6_swap 14 = .ok (.iconst (-1), 1) := by decide +kernel
theorem dX6_swap_15 : decode cX6_swap 15 = .ok (.ireturn, 1) := by decide +kernel
theorem dX6_swap_16 : decode cX6_swap 16 = .ok (.aload_n 0, 1) := by decide +kernel
theorem dX6_swap_17 : decode cX6_swap 17 = .ok (.getfield 56, 3) := by decide +kernel
theorem dX6_swap_20 : decode cX6_swap 20 = .ok (.aload_n 0, 1) := by decide +kernel
theorem dX6_swap_21 : decode cX6_swap 21 = .ok (.iload_n 1, 1) := by decide +kernel
theorem dX6_swap_22 : decode cX6_swap 22 = .ok (.invokevirtual 205, 3) := by decide +kernel
theorem dX6_swap_25 : decode cX6_swap 25 = .ok (.invokevirtual 208, 3) := by decide +kernel
theorem dX6_swap_28 : decode cX6_swap 28 = .ok (.iconst 0, 1) := by decide +kernel
theorem dX6_swap_29 : decode cX6_swap 29 = .ok (.istore_n 3, 1) := by decide +kernel
theorem dX6_swap_30 : decode cX6_swap 30 = .ok (.iload_n 3, 1) := by decide +kernel
theorem dX6_swap_31 : decode cX6_swap 31 = .ok (.aload_n 0, 1) := by decide +kernel
theorem dX6_swap_32 : decode cX6_swap 32 = .ok (.getfield 19, 3) := by decide +kernel
theorem dX6_swap_35 : decode cX6_swap 35 = .ok (.getfield 93, 3) := by decide +kernel
theorem dX6_swap_38 : decode cX6_swap 38 = .ok (.if_icmp .ge 75, 3) := by decide +kernel
theorem dX6_swap_41 : decode cX6_swap 41 = .ok (.iload_n 3, 1) := by decide +kernel
theorem dX6_swap_42 : decode cX6_swap 42 = .ok (.iconst 1, 1) := by decide +kernel
theorem dX6_swap_43 : decode cX6_swap 43 = .ok (.iadd, 1) := by decide +kernel
theorem dX6_swap_44 : decode cX6_swap 44 = .ok (.istore 4, 2) := by decide +kernel
theorem dX6_swap_46 : decode cX6_swap 46 = .ok (.iload 4, 2) := by decide +kernel
theorem dX6_swap_48 : decode cX6_swap 48 = .ok (.aload_n 0, 1) := by decide +kernel
theorem dX6_swap_49 : decode cX6_swap 49 = .ok (.getfield 19, 3) := by decide +kernel
theorem dX6_swap_52 : decode cX6_swap 52 = .ok (.getfield 93, 3) := by decide +kernel
theorem dX6_swap_55 : decode cX6_swap 55 = .ok (.if_icmp .ge 52, 3) := by decide +kernel
theorem dX6_swap_58 : decode cX6_swap 58 = .ok (.aload_n 0, 1) := by decide +kernel
theorem dX6_swap_59 : decode cX6_swap 59 = .ok (.getfield 23, 3) := by decide +kernel
theorem dX6_swap_62 : decode cX6_swap 62 = .ok (.aload_n 0, 1) := by decide +kernel
theorem dX6_swap_63 : decode cX6_swap 63 = .ok (.getfield 19, 3) := by decide +kernel
theorem dX6_swap_66 : decode cX6_swap 66 = .ok (.invokevirtual 86, 3) := by decide +kernel
theorem dX6_swap_69 : decode cX6_swap 69 = .ok (.aload_n 0, 1) := by decide +kernel
theorem dX6_swap_70 : decode cX6_swap 70 = .ok (.getfield 23, 3) := by decide +kernel
theorem dX6_swap_73 : decode cX6_swap 73 = .ok (.iload_n 3, 1) := by decide +kernel
theorem dX6_swap_74 : decode cX6_swap 74 = .ok (.iload 4, 2) := by decide +kernel
theorem dX6_swap_76 : decode cX6_swap 76 = .ok (.invokevirtual 227, 3) := by decide +kernel
theorem dX6_swap_79 : decode cX6_swap 79 = .ok (.aload_n 0, 1) := by decide +kernel
theorem dX6_swap_80 : decode cX6_swap 80 = .ok (.getfield 56, 3) := by decide +kernel
theorem dX6_swap_83 : decode cX6_swap 83 = .ok (.bipush 10, 2) := by decide +kernel
theorem dX6_swap_85 : decode cX6_swap 85 = .ok (.iload_n 3, 1) := by decide +kernel
theorem dX6_swap_86 : decode cX6_swap 86 = .ok (.imul, 1) := by decide +kernel
theorem dX6_swap_87 : decode cX6_swap 87 = .ok (.iload 4, 2) := by decide +kernel
theorem dX6_swap_89 : decode cX6_swap 89 = .ok (.iadd, 1) := by decide +kernel
theorem dX6_swap_90 : decode cX6_swap 90 = .ok (.aload_n 0, 1) := by decide +kernel
theorem dX6_swap_91 : decode cX6_swap 91 = .ok (.getfield 23, 3) := by decide +kernel
theorem dX6_swap_94 : decode cX6_swap 94 = .ok (.iload_n 1, 1) := by decide +kernel
theorem dX6_swap_95 : decode cX6_swap 95 = .ok (.invokevirtual 215, 3) := by decide +kernel
theorem dX6_swap_98 : decode cX6_swap 98 = .ok (.invokevirtual 218, 3) := by decide +kernel
theorem dX6_swap_101 : decode cX6_swap 101 = .ok (.iinc 4 1, 3) := by decide +kernel
theorem dX6_swap_104 : decode cX6_swap 104 = .ok (.goto (-58), 3) := by decide +kernel
theorem dX6_swap_107 : decode cX6_swap 107 = .ok (.iinc 3 1, 3) := by decide +kernel
theorem dX6_swap_110 : decode cX6_swap 110 = .ok (.goto (-80), 3) := by decide +kernel
theorem dX6_swap_113 : decode cX6_swap 113 = .ok (.aload_n 0, 1) := by decide +kernel
theorem dX6_swap_114 : decode cX6_swap 114 = .ok (.getfield 56, 3) := by decide +kernel
theorem dX6_swap_117 : decode cX6_swap 117 = .ok (.iload_n 2, 1) := by decide +kernel
theorem dX6_swap_118 : decode cX6_swap 118 = .ok (.invokevirtual 222, 3) := by decide +kernel
theorem dX6_swap_121 : decode cX6_swap 121 = .ok (.ireturn, 1) := by decide +kernel
set_option maxRecDepth 20000 in
theorem ggX6_kind_X6_isGardener : GoodIn wsX6_kind wsX6_isGardener := goodIn_r _ [9, 3, 10, 114, 115, 116, 117, 118, 119, 120, 121, 122, 123, 124, 125, 126, 127, 128, 129, 130, 131, 132, 133, 134, 135, 136, 137] (by decide +kernel) (by decide +kernel)
set_option maxRecDepth 20000 in
theorem gX6_kind_X6_isGardener : GoodIn wsX6_kind (wsV RX6 126 RX6 yX6_isGardener wsX6_isGardener) := goodIn_app (goodIn_of _ (by decide +kernel)) ggX6_kind_X6_isGardener
set_option maxRecDepth 20000 in
theorem ggX6_kind_X6_isAhead : GoodIn wsX6_kind wsX6_isAhead := goodIn_r _ [13] (by decide +kernel) (by decide +kernel)
set_option maxRecDepth 20000 in
theorem gX6_kind_X6_isAhead : GoodIn wsX6_kind (va_wsS RX6 192 yX6_isAhead wsX6_isAhead) := goodIn_app (goodIn_of _ (by decide +kernel)) ggX6_kind_X6_isAhead
set_option maxRecDepth 20000 in
theorem ggX6_kind_X6_isBit : GoodIn wsX6_kind wsX6_isBit := goodIn_r _ [16] (by decide +kernel) (by decide +kernel)
set_option maxRecDepth 20000 in
theorem gX6_kind_X6_isBit : GoodIn wsX6_kind (va_wsS RX6 154 yX6_isBit wsX6_isBit) := goodIn_app (goodIn_of _ (by decide +kernel)) ggX6_kind_X6_isBit
set_option maxRecDepth 20000 in
theorem ggX6_kind_X0_above : GoodIn wsX6_kind wsX0_above := goodIn_r _ [21, 22, 23, 138, 139] (by decide +kernel) (by decide +kernel)
set_option maxRecDepth 20000 in
theorem gX6_kind_X0_above : GoodIn wsX6_kind (wsV RX6 208 RX0 yX0_above wsX0_above) := goodIn_app (goodIn_of _ (by decide +kernel)) ggX6_kind_X0_above
set_option maxRecDepth 20000 in
theorem ggX6_kind_X1_become : GoodIn wsX6_kind wsX1_become := goodIn_r _ [28, 29, 30, 31, 32, 33, 34, 35, 36, 37, 38, 39, 40, 126, 127, 128, 129, 130, 131, 132, 133, 134, 135, 136, 137] (by decide +kernel) (by decide +kernel)
set_option maxRecDepth 20000 in
theorem gX6_kind_X1_become : GoodIn wsX6_kind (wsV RX6 86 RX1 yX1_become wsX1_become) := goodIn_app (goodIn_of _ (by decide +kernel)) ggX6_kind_X1_become
set_option maxRecDepth 20000 in
theorem ggX6_kind_X1_outsBehind : GoodIn wsX6_kind wsX1_outsBehind := goodIn_r _ [44, 45, 46, 47, 27, 48, 33, 49, 50, 51, 52, 34, 40, 53, 54, 55, 56, 32, 57, 58, 59, 60, 29, 31, 36, 37, 61, 62, 63, 64, 35, 65, 66, 67, 68, 69, 70, 71, 72, 73, 74, 75, 76, 77, 78, 79, 80, 81, 82, 83, 84, 39, 38, 30, 85, 86, 87, 88, 89, 90, 91, 92, 93, 94, 95, 96, 97, 98, 99, 100, 101, 102, 103, 104, 105, 126, 127, 128, 129, 130, 131, 132, 133, 134, 135, 136, 137] (by decide +kernel) (by decide +kernel)
set_option maxRecDepth 20000 in
theorem gX6_kind_X1_outsBehind : GoodIn wsX6_kind (wsV RX6 215 RX1 yX1_outsBehind wsX1_outsBehind) := goodIn_app (goodIn_of _ (by decide +kernel)) ggX6_kind_X1_outsBehind
set_option maxRecDepth 20000 in
theorem ggX6_kind_X0_offer : GoodIn wsX6_kind wsX0_offer := goodIn_r _ [109, 23, 22, 138, 139] (by decide +kernel) (by decide +kernel)
set_option maxRecDepth 20000 in
theorem gX6_kind_X0_offer : GoodIn wsX6_kind (wsV RX6 218 RX0 yX0_offer wsX0_offer) := goodIn_app (goodIn_of _ (by decide +kernel)) ggX6_kind_X0_offer
set_option maxRecDepth 20000 in
theorem ggX6_kind_X0_told : GoodIn wsX6_kind wsX0_told := goodIn_r _ [113, 22, 23, 138, 139] (by decide +kernel) (by decide +kernel)
set_option maxRecDepth 20000 in
theorem gX6_kind_X0_told : GoodIn wsX6_kind (wsV RX6 222 RX0 yX0_told wsX0_told) := goodIn_app (goodIn_of _ (by decide +kernel)) ggX6_kind_X0_told
theorem dX6_kind_0 : decode cX6_kind 0 = .ok (.aload_n 0, 1) := by decide +kernel
theorem dX6_kind_1 : decode cX6_kind 1 = .ok (.iload_n 1, 1) := by decide +kernel
theorem dX6_kind_2 : decode cX6_kind 2 = .ok (.invokevirtual 126, 3) := by decide +kernel
theorem dX6_kind_5 : decode cX6_kind 5 = .ok (.ifCond .eq 17, 3) := by decide +kernel
theorem dX6_kind_8 : decode cX6_kind 8 = .ok (.iload_n 2, 1) := by decide +kernel
theorem dX6_kind_9 : decode cX6_kind 9 = .ok (.invokestatic 192, 3) := by decide +kernel
theorem dX6_kind_12 : decode cX6_kind 12 = .ok (.ifCond .eq 10, 3) := by decide +kernel
theorem dX6_kind_15 : decode cX6_kind 15 = .ok (.iload_n 3, 1) := by decide +kernel
theorem dX6_kind_16 : decode cX6_kind 16 = .ok (.invokestatic 154, 3) := by decide +kernel
theorem dX6_kind_19 : decode cX6_kind 19 = .ok (.ifCond .ne 5, 3) := by decide +kernel
theorem dX6_kind_22 : decode cX6_kind 22 = .ok (.iconst (-1), 1) := by decide +kernel
theorem dX6_kind_23 : decode cX6_kind 23 = .ok (.ireturn, 1) := by decide +kernel
theorem dX6_kind_24 : decode cX6_kind 24 = .ok (.aload_n 0, 1) := by decide +kernel
theorem dX6_kind_25 : decode cX6_kind 25 = .ok (.getfield 56, 3) := by decide +kernel
theorem dX6_kind_28 : decode cX6_kind 28 = .ok (.iconst (-1), 1) := by decide +kernel
theorem dX6_kind_29 : decode cX6_kind 29 = .ok (.invokevirtual 208, 3) := by decide +kernel
theorem dX6_kind_32 : decode cX6_kind 32 = .ok (.iconst 0, 1) := by decide +kernel
theorem dX6_kind_33 : decode cX6_kind 33 = .ok (.istore 4, 2) := by decide +kernel
theorem dX6_kind_35 : decode cX6_kind 35 = .ok (.iload 4, 2) := by decide +kernel
theorem dX6_kind_37 : decode cX6_kind 37 = .ok (.iconst 4, 1) := by decide +kernel
theorem dX6_kind_38 : decode cX6_kind 38 = .ok (.if_icmp .ge 48, 3) := by decide +kernel
theorem dX6_kind_41 : decode cX6_kind 41 = .ok (.aload_n 0, 1) := by decide +kernel
theorem dX6_kind_42 : decode cX6_kind 42 = .ok (.getfield 23, 3) := by decide +kernel
theorem dX6_kind_45 : decode cX6_kind 45 = .ok (.aload_n 0, 1) := by decide +kernel
theorem dX6_kind_46 : decode cX6_kind 46 = .ok (.getfield 19, 3) := by decide +kernel
theorem dX6_kind_49 : decode cX6_kind 49 = .ok (.invokevirtual 86, 3) := by decide +kernel
theorem dX6_kind_52 : decode cX6_kind 52 = .ok (.aload_n 0, 1) := by decide +kernel
theorem dX6_kind_53 : decode cX6_kind 53 = .ok (.getfield 23, 3) := by decide +kernel
theorem dX6_kind_56 : decode cX6_kind 56 = .ok (.getfield 230, 3) := by decide +kernel
theorem dX6_kind_59 : decode cX6_kind 59 = .ok (.iload_n 1, 1) := by decide +kernel
theorem dX6_kind_60 : decode cX6_kind 60 = .ok (.iload 4, 2) := by decide +kernel
theorem dX6_kind_62 : decode cX6_kind 62 = .ok (.iastore, 1) := by decide +kernel
theorem dX6_kind_63 : decode cX6_kind 63 = .ok (.aload_n 0, 1) := by decide +kernel
theorem dX6_kind_64 : decode cX6_kind 64 = .ok (.getfield 56, 3) := by decide +kernel
theorem dX6_kind_67 : decode cX6_kind 67 = .ok (.iload 4, 2) := by decide +kernel
theorem dX6_kind_69 : decode cX6_kind 69 = .ok (.aload_n 0, 1) := by decide +kernel
theorem dX6_kind_70 : decode cX6_kind 70 = .ok (.getfield 23, 3) := by decide +kernel
theorem dX6_kind_73 : decode cX6_kind 73 = .ok (.iload_n 2, 1) := by decide +kernel
theorem dX6_kind_74 : decode cX6_kind 74 = .ok (.invokevirtual 215, 3) := by decide +kernel
theorem dX6_kind_77 : decode cX6_kind 77 = .ok (.invokevirtual 218, 3) := by decide +kernel
theorem dX6_kind_80 : decode cX6_kind 80 = .ok (.iinc 4 1, 3) := by decide +kernel
theorem dX6_kind_83 : decode cX6_kind 83 = .ok (.goto (-48), 3) := by decide +kernel
theorem dX6_kind_86 : decode cX6_kind 86 = .ok (.aload_n 0, 1) := by decide +kernel
theorem dX6_kind_87 : decode cX6_kind 87 = .ok (.getfield 56, 3) := by decide +kernel
theorem dX6_kind_90 : decode cX6_kind 90 = .ok (.iload_n 3, 1) := by decide +kernel
theorem dX6_kind_91 : decode cX6_kind 91 = .ok (.invokevirtual 222, 3) := by decide +kernel
theorem dX6_kind_94 : decode cX6_kind 94 = .ok (.ireturn, 1) := by decide +kernel
set_option maxRecDepth 20000 in
theorem ggX6_luck_X6_isTenths : GoodIn wsX6_luck wsX6_isTenths := goodIn_r _ [5] (by decide +kernel) (by decide +kernel)
set_option maxRecDepth 20000 in
theorem gX6_luck_X6_isTenths : GoodIn wsX6_luck (va_wsS RX6 233 yX6_isTenths wsX6_isTenths) := goodIn_app (goodIn_of _ (by decide +kernel)) ggX6_luck_X6_isTenths
set_option maxRecDepth 20000 in
theorem ggX6_luck_X6_isGuest : GoodIn wsX6_luck wsX6_isGuest := goodIn_r _ [9, 10, 11, 104, 105, 106, 107, 108, 109, 110, 111, 112, 113, 114, 115, 116, 117, 118, 119, 120, 121, 122, 123, 124, 125, 126, 127] (by decide +kernel) (by decide +kernel)
set_option maxRecDepth 20000 in
theorem gX6_luck_X6_isGuest : GoodIn wsX6_luck (wsV RX6 136 RX6 yX6_isGuest wsX6_isGuest) := goodIn_app (goodIn_of _ (by decide +kernel)) ggX6_luck_X6_isGuest
set_option maxRecDepth 20000 in
theorem ggX6_luck_X6_isRainy : GoodIn wsX6_luck wsX6_isRainy := goodIn_r _ [14] (by decide +kernel) (by decide +kernel)
set_option maxRecDepth 20000 in
theorem gX6_luck_X6_isRainy : GoodIn wsX6_luck (va_wsS RX6 236 yX6_isRainy wsX6_isRainy) := goodIn_app (goodIn_of _ (by decide +kernel)) ggX6_luck_X6_isRainy
set_option maxRecDepth 20000 in
theorem ggX6_luck_X6_isBit : GoodIn wsX6_luck wsX6_isBit := goodIn_r _ [17] (by decide +kernel) (by decide +kernel)
set_option maxRecDepth 20000 in
theorem gX6_luck_X6_isBit : GoodIn wsX6_luck (va_wsS RX6 154 yX6_isBit wsX6_isBit) := goodIn_app (goodIn_of _ (by decide +kernel)) ggX6_luck_X6_isBit
set_option maxRecDepth 20000 in
theorem ggX6_luck_X6_chance : GoodIn wsX6_luck wsX6_chance := goodIn_r _ [21, 22, 10, 23, 1, 24, 25, 26, 27, 28, 29, 30, 31, 32, 33, 34, 35, 36, 37, 38, 39, 40, 41, 42, 4, 43, 44, 45, 46, 47, 48, 49, 50, 51, 52, 53, 54, 55, 56, 57, 58, 59, 60, 61, 62, 63, 64, 65, 66, 67, 68, 69, 70, 71, 72, 73, 74, 75, 76, 77, 78, 79, 80, 81, 82, 83, 84, 85, 86, 87, 88, 89, 90, 91, 92, 93, 94, 95, 96, 97, 98, 99, 100, 101, 102, 103, 104, 105, 106, 107, 108, 109, 110, 111, 112, 113, 114, 115, 116, 117, 118, 119, 120, 121, 122, 123, 124, 125, 126, 127] (by decide +kernel) (by decide +kernel)
set_option maxRecDepth 20000 in
theorem gX6_luck_X6_chance : GoodIn wsX6_luck (wsV RX6 241 RX6 yX6_chance wsX6_chance) := goodIn_app (goodIn_of _ (by decide +kernel)) ggX6_luck_X6_chance
theorem dX6_luck_0 : decode cX6_luck 0 = .ok (.iload_n 1, 1) := by decide +kernel
theorem dX6_luck_1 : decode cX6_luck 1 = .ok (.invokestatic 233, 3) := by decide +kernel
theorem dX6_luck_4 : decode cX6_luck 4 = .ok (.ifCond .eq 26, 3) := by decide +kernel
theorem dX6_luck_7 : decode cX6_luck 7 = .ok (.aload_n 0, 1) := by decide +kernel
theorem dX6_luck_8 : decode cX6_luck 8 = .ok (.iload_n 2, 1) := by decide +kernel
theorem dX6_luck_9 : decode cX6_luck 9 = .ok (.invokevirtual 136, 3) := by decide +kernel
theorem dX6_luck_12 : decode cX6_luck 12 = .ok (.ifCond .eq 18, 3) := by decide +kernel
theorem dX6_luck_15 : decode cX6_luck 15 = .ok (.iload_n 3, 1) := by decide +kernel
theorem dX6_luck_16 : decode cX6_luck 16 = .ok (.invokestatic 236, 3) := by decide +kernel
theorem dX6_luck_19 : decode cX6_luck 19 = .ok (.ifCond .eq 11, 3) := by decide +kernel
theorem dX6_luck_22 : decode cX6_luck 22 = .ok (.iload 4, 2) := by decide +kernel
theorem dX6_luck_24 : decode cX6_luck 24 = .ok (.invokestatic 154, 3) := by decide +kernel
theorem dX6_luck_27 : decode cX6_luck 27 = .ok (.ifCond .ne 7, 3) := by decide +kernel
theorem dX6_luck_30 : decode cX6_luck 30 = .ok (.ldc2_w 239, 3) := by decide +kernel
theorem dX6_luck_33 : decode cX6_luck 33 = .ok (.lreturn, 1) := by decide +kernel
theorem dX6_luck_34 : decode cX6_luck 34 = .ok (.aload_n 0, 1) := by decide +kernel
theorem dX6_luck_35 : decode cX6_luck 35 = .ok (.iload_n 1, 1) := by decide +kernel
theorem dX6_luck_36 : decode cX6_luck 36 = .ok (.iconst 1, 1) := by decide +kernel
theorem dX6_luck_37 : decode cX6_luck 37 = .ok (.iload_n 2, 1) := by decide +kernel
theorem dX6_luck_38 : decode cX6_luck 38 = .ok (.ishl, 1) := by decide +kernel
theorem dX6_luck_39 : decode cX6_luck 39 = .ok (.iload_n 3, 1) := by decide +kernel
theorem dX6_luck_40 : decode cX6_luck 40 = .ok (.iload 4, 2) := by decide +kernel
theorem dX6_luck_42 : decode cX6_luck 42 = .ok (.invokevirtual 241, 3) := by decide +kernel
theorem dX6_luck_45 : decode cX6_luck 45 = .ok (.lreturn, 1) := by decide +kernel
set_option maxRecDepth 20000 in
theorem ggX6_mean_X6_isTenths : GoodIn wsX6_mean wsX6_isTenths := goodIn_r _ [5] (by decide +kernel) (by decide +kernel)
set_option maxRecDepth 20000 in
theorem gX6_mean_X6_isTenths : GoodIn wsX6_mean (va_wsS RX6 233 yX6_isTenths wsX6_isTenths) := goodIn_app (goodIn_of _ (by decide +kernel)) ggX6_mean_X6_isTenths
set_option maxRecDepth 20000 in
theorem ggX6_mean_X6_isRainy : GoodIn wsX6_mean wsX6_isRainy := goodIn_r _ [8] (by decide +kernel) (by decide +kernel)
set_option maxRecDepth 20000 in
theorem gX6_mean_X6_isRainy : GoodIn wsX6_mean (va_wsS RX6 236 yX6_isRainy wsX6_isRainy) := goodIn_app (goodIn_of _ (by decide +kernel)) ggX6_mean_X6_isRainy
set_option maxRecDepth 20000 in
theorem ggX6_mean_X6_isBit : GoodIn wsX6_mean wsX6_isBit := goodIn_r _ [11] (by decide +kernel) (by decide +kernel)
set_option maxRecDepth 20000 in
theorem gX6_mean_X6_isBit : GoodIn wsX6_mean (va_wsS RX6 154 yX6_isBit wsX6_isBit) := goodIn_app (goodIn_of _ (by decide +kernel)) ggX6_mean_X6_isBit
set_option maxRecDepth 20000 in
theorem ggX6_mean_X6_chance : GoodIn wsX6_mean wsX6_chance := goodIn_r _ [15, 16, 17, 18, 1, 19, 20, 21, 22, 23, 24, 25, 26, 27, 28, 29, 30, 31, 32, 33, 34, 35, 36, 37, 4, 38, 39, 40, 41, 42, 43, 44, 45, 46, 47, 48, 49, 50, 51, 52, 53, 54, 55, 56, 57, 58, 59, 60, 61, 62, 63, 64, 65, 66, 67, 68, 69, 70, 71, 72, 73, 74, 75, 76, 77, 78, 79, 80, 81, 82, 83, 84, 85, 86, 87, 88, 89, 90, 91, 92, 93, 94, 95, 96, 97, 98, 99, 100, 101, 102, 103, 104, 105, 106, 107, 108, 109, 110, 111, 112, 113, 114, 115, 116, 117, 118, 119, 120, 121, 122] (by decide +kernel) (by decide +kernel)
set_option maxRecDepth 20000 in
theorem gX6_mean_X6_chance : GoodIn wsX6_mean (wsV RX6 241 RX6 yX6_chance wsX6_chance) := goodIn_app (goodIn_of _ (by decide +kernel)) ggX6_mean_X6_chance
theorem dX6_mean_0 : decode cX6_mean 0 = .ok (.iload_n 1, 1) := by decide +kernel
theorem dX6_mean_1 : decode cX6_mean 1 = .ok (.invokestatic 233, 3) := by decide +kernel
theorem dX6_mean_4 : decode cX6_mean 4 = .ok (.ifCond .eq 17, 3) := by decide +kernel
theorem dX6_mean_7 : decode cX6_mean 7 = .ok (.iload_n 2, 1) := by decide +kernel
theorem dX6_mean_8 : decode cX6_mean 8 = .ok (.invokestatic 236, 3) := by decide +kernel
theorem dX6_mean_11 : decode cX6_mean 11 = .ok (.ifCond .eq 10, 3) := by decide +kernel
theorem dX6_mean_14 : decode cX6_mean 14 = .ok (.iload_n 3, 1) := by decide +kernel
theorem dX6_mean_15 : decode cX6_mean 15 = .ok (.invokestatic 154, 3) := by decide +kernel
theorem dX6_mean_18 : decode cX6_mean 18 = .ok (.ifCond .ne 7, 3) := by decide +kernel
theorem dX6_mean_21 : decode cX6_mean 21 = .ok (.ldc2_w 239, 3) := by decide +kernel
theorem dX6_mean_24 : decode cX6_mean 24 = .ok (.lreturn, 1) := by decide +kernel
theorem dX6_mean_25 : decode cX6_mean 25 = .ok (.aload_n 0, 1) := by decide +kernel
theorem dX6_mean_26 : decode cX6_mean 26 = .ok (.iload_n 1, 1) := by decide +kernel
theorem dX6_mean_27 : decode cX6_mean 27 = .ok (.bipush 15, 2) := by decide +kernel
theorem dX6_mean_29 : decode cX6_mean 29 = .ok (.iload_n 2, 1) := by decide +kernel
theorem dX6_mean_30 : decode cX6_mean 30 = .ok (.iload_n 3, 1) := by decide +kernel
theorem dX6_mean_31 : decode cX6_mean 31 = .ok (.invokevirtual 241, 3) := by decide +kernel
theorem dX6_mean_34 : decode cX6_mean 34 = .ok (.lreturn, 1) := by decide +kernel
set_option maxRecDepth 20000 in
theorem ggX6_see_X6_isHedge : GoodIn wsX6_see wsX6_isHedge := goodIn_r _ [6] (by decide +kernel) (by decide +kernel)
set_option maxRecDepth 20000 in
theorem gX6_see_X6_isHedge : GoodIn wsX6_see (va_wsS RX6 120 yX6_isHedge wsX6_isHedge) := goodIn_app (goodIn_of _ (by decide +kernel)) ggX6_see_X6_isHedge
set_option maxRecDepth 20000 in
theorem ggX6_see_X6_isBit : GoodIn wsX6_see wsX6_isBit := goodIn_r _ [9] (by decide +kernel) (by decide +kernel)
set_option maxRecDepth 20000 in
theorem gX6_see_X6_isBit : GoodIn wsX6_see (va_wsS RX6 154 yX6_isBit wsX6_isBit) := goodIn_app (goodIn_of _ (by decide +kernel)) ggX6_see_X6_isBit
set_option maxRecDepth 20000 in
theorem ggX6_see_X4_note : GoodIn wsX6_see wsX4_note := goodIn_r _ [14, 15, 16, 17, 18, 31, 32, 33, 34, 35, 36] (by decide +kernel) (by decide +kernel)
set_option maxRecDepth 20000 in
theorem gX6_see_X4_note : GoodIn wsX6_see (wsV RX6 245 RX4 yX4_note wsX4_note) := goodIn_app (goodIn_of _ (by decide +kernel)) ggX6_see_X4_note
theorem dX6_see_0 : decode cX6_see 0 = .ok (.iload_n 1, 1) := by decide +kernel
theorem dX6_see_1 : decode cX6_see 1 = .ok (.ifCond .lt 23, 3) := by decide +kernel
theorem dX6_see_4 : decode cX6_see 4 = .ok (.iload_n 1, 1) := by decide +kernel
theorem dX6_see_5 : decode cX6_see 5 = .ok (.bipush 20, 2) := by decide +kernel
theorem dX6_see_7 : decode cX6_see 7 = .ok (.if_icmp .gt 17, 3) := by decide +kernel
theorem dX6_see_10 : decode cX6_see 10 = .ok (.iload_n 2, 1) := by decide +kernel
theorem dX6_see_11 : decode cX6_see 11 = .ok (.invokestatic 120, 3) := by decide +kernel
theorem dX6_see_14 : decode cX6_see 14 = .ok (.ifCond .eq 10, 3) := by decide +kernel
theorem dX6_see_17 : decode cX6_see 17 = .ok (.iload_n 3, 1) := by decide +kernel
theorem dX6_see_18 : decode cX6_see 18 = .ok (.invokestatic 154, 3) := by decide +kernel
theorem dX6_see_21 : decode cX6_see 21 = .ok (.ifCond .ne 5, 3) := by decide +kernel
theorem dX6_see_24 : decode cX6_see 24 = .ok (.iconst (-1), 1) := by decide +kernel
theorem dX6_see_25 : decode cX6_see 25 = .ok (.ireturn, 1) := by decide +kernel
theorem dX6_see_26 : decode cX6_see 26 = .ok (.aload_n 0, 1) := by decide +kernel
theorem dX6_see_27 : decode cX6_see 27 = .ok (.getfield 49, 3) := by decide +kernel
theorem dX6_see_30 : decode cX6_see 30 = .ok (.iload_n 1, 1) := by decide +kernel
theorem dX6_see_31 : decode cX6_see 31 = .ok (.iload_n 2, 1) := by decide +kernel
theorem dX6_see_32 : decode cX6_see 32 = .ok (.iload_n 3, 1) := by decide +kernel
theorem dX6_see_33 : decode cX6_see 33 = .ok (.invokevirtual 245, 3) := by decide +kernel
theorem dX6_see_36 : decode cX6_see 36 = .ok (.ifCond .eq 13, 3) := by decide +kernel
theorem dX6_see_39 : decode cX6_see 39 = .ok (.aload_n 0, 1) := by decide +kernel
theorem dX6_see_40 : decode cX6_see 40 = .ok (.getfield 49, 3) := by decide +kernel
theorem dX6_see_43 : decode cX6_see 43 = .ok (.getfield 90, 3) := by decide +kernel
theorem dX6_see_46 : decode cX6_see 46 = .ok (.goto 5, 3) := by decide +kernel
theorem dX6_see_49 : decode cX6_see 49 = .ok (.bipush (-3), 2) := by decide +kernel
theorem dX6_see_51 : decode cX6_see 51 = .ok (.ireturn, 1) := by decide +kernel
theorem dX6_forget_0 : decode cX6_forget 0 = .ok (.iload_n 1, 1) := by decide +kernel
theorem dX6_forget_1 : decode cX6_forget 1 = .ok (.ifCond .lt 14, 3) := by decide +kernel
theorem dX6_forget_4 : decode cX6_forget 4 = .ok (.iload_n 1, 1) := by decide +kernel
theorem dX6_forget_5 : decode cX6_forget 5 = .ok (.aload_n 0, 1) := by decide +kernel
theorem dX6_forget_6 : decode cX6_forget 6 = .ok (.getfield 49, 3) := by decide +kernel
theorem dX6_forget_9 : decode cX6_forget 9 = .ok (.getfield 90, 3) := by decide +kernel
theorem dX6_forget_12 : decode cX6_forget 12 = .ok (.if_icmp .le 5, 3) := by decide +kernel
theorem dX6_forget_15 : decode cX6_forget 15 = .ok (.iconst (-1), 1) := by decide +kernel
theorem dX6_forget_16 : decode cX6_forget 16 = .ok (.ireturn, 1) := by decide +kernel
theorem dX6_forget_17 : decode cX6_forget 17 = .ok (.aload_n 0, 1) := by decide +kernel
theorem dX6_forget_18 : decode cX6_forget 18 = .ok (.getfield 49, 3) := by decide +kernel
theorem dX6_forget_21 : decode cX6_forget 21 = .ok (.getfield 90, 3) := by decide +kernel
theorem dX6_forget_24 : decode cX6_forget 24 = .ok (.istore_n 2, 1) := by decide +kernel
theorem dX6_forget_25 : decode cX6_forget 25 = .ok (.aload_n 0, 1) := by decide +kernel
theorem dX6_forget_26 : decode cX6_forget 26 = .ok (.getfield 49, 3) := by decide +kernel
theorem dX6_forget_29 : decode cX6_forget 29 = .ok (.iload_n 1, 1) := by decide +kernel
theorem dX6_forget_30 : decode cX6_forget 30 = .ok (.putfield 90, 3) := by decide +kernel
theorem dX6_forget_33 : decode cX6_forget 33 = .ok (.iload_n 2, 1) := by decide +kernel
theorem dX6_forget_34 : decode cX6_forget 34 = .ok (.ireturn, 1) := by decide +kernel
set_option maxRecDepth 20000 in
theorem ggX6_kinds_X6_isGardener : GoodIn wsX6_kinds wsX6_isGardener := goodIn_r _ [9, 2, 10, 67, 68, 69, 70, 71, 72, 73, 74, 75, 76, 77, 78, 79, 80, 81, 82, 83, 84, 85, 86, 87, 88, 89, 90] (by decide +kernel) (by decide +kernel)
set_option maxRecDepth 20000 in
theorem gX6_kinds_X6_isGardener : GoodIn wsX6_kinds (wsV RX6 126 RX6 yX6_isGardener wsX6_isGardener) := goodIn_app (goodIn_of _ (by decide +kernel)) ggX6_kinds_X6_isGardener
set_option maxRecDepth 20000 in
theorem ggX6_kinds_X1_become : GoodIn wsX6_kinds wsX1_become := goodIn_r _ [15, 16, 17, 18, 19, 20, 21, 22, 23, 24, 25, 26, 27, 79, 80, 81, 82, 83, 84, 85, 86, 87, 88, 89, 90] (by decide +kernel) (by decide +kernel)
set_option maxRecDepth 20000 in
theorem gX6_kinds_X1_become : GoodIn wsX6_kinds (wsV RX6 86 RX1 yX1_become wsX1_become) := goodIn_app (goodIn_of _ (by decide +kernel)) ggX6_kinds_X1_become
set_option maxRecDepth 20000 in
theorem ggX6_kinds_X4_fits : GoodIn wsX6_kinds wsX4_fits := goodIn_r _ [32, 33, 34, 35, 36, 37, 38, 39, 40, 41, 14, 42, 19, 43, 44, 45, 46, 16, 18, 23, 24, 47, 48, 49, 50, 20, 51, 52, 53, 54, 22, 55, 56, 57, 58, 59, 60, 61, 62, 63, 64, 65, 66, 91, 92, 93, 94, 95, 96, 79, 80, 81, 82, 83, 84, 85, 86, 87, 88, 89, 90] (by decide +kernel) (by decide +kernel)
set_option maxRecDepth 20000 in
theorem gX6_kinds_X4_fits : GoodIn wsX6_kinds (wsV RX6 248 RX4 yX4_fits wsX4_fits) := goodIn_app (goodIn_of _ (by decide +kernel)) ggX6_kinds_X4_fits
theorem dX6_kinds_0 : decode cX6_kinds 0 = .ok (.aload_n 0, 1) := by decide +kernel
theorem dX6_kinds_1 : decode cX6_kinds 1 = .ok (.iload_n 1, 1) := by decide +kernel
theorem dX6_kinds_2 : decode cX6_kinds 2 = .ok (.invokevirtual 126, 3) := by decide +kernel
theorem dX6_kinds_5 : decode cX6_kinds 5 = .ok (.ifCond .ne 5, 3) := by decide +kernel
theorem dX6_kinds_8 : decode cX6_kinds 8 = .ok (.iconst (-1), 1) := by decide +kernel
theorem dX6_kinds_9 : decode cX6_kinds 9 = .ok (.ireturn, 1) := by decide +kernel
theorem dX6_kinds_10 : decode cX6_kinds 10 = .ok (.iconst 0, 1) := by decide +kernel
theorem dX6_kinds_11 : decode cX6_kinds 11 = .ok (.istore_n 2, 1) := by decide +kernel
theorem dX6_kinds_12 : decode cX6_kinds 12 = .ok (.iconst 0, 1) := by decide +kernel
theorem dX6_kinds_13 : decode cX6_kinds 13 = .ok (.istore_n 3, 1) := by decide +kernel
theorem dX6_kinds_14 : decode cX6_kinds 14 = .ok (.iload_n 3, 1) := by decide +kernel
theorem dX6_kinds_15 : decode cX6_kinds 15 = .ok (.iconst 4, 1) := by decide +kernel
theorem dX6_kinds_16 : decode cX6_kinds 16 = .ok (.if_icmp .ge 50, 3) := by decide +kernel
theorem dX6_kinds_19 : decode cX6_kinds 19 = .ok (.aload_n 0, 1) := by decide +kernel
theorem dX6_kinds_20 : decode cX6_kinds 20 = .ok (.getfield 23, 3) := by decide +kernel
theorem dX6_kinds_23 : decode cX6_kinds 23 = .ok (.aload_n 0, 1) := by decide +kernel
theorem dX6_kinds_24 : decode cX6_kinds 24 = .ok (.getfield 19, 3) := by decide +kernel
theorem dX6_kinds_27 : decode cX6_kinds 27 = .ok (.invokevirtual 86, 3) := by decide +kernel
theorem dX6_kinds_30 : decode cX6_kinds 30 = .ok (.aload_n 0, 1) := by decide +kernel
theorem dX6_kinds_31 : decode cX6_kinds 31 = .ok (.getfield 23, 3) := by decide +kernel
theorem dX6_kinds_34 : decode cX6_kinds 34 = .ok (.getfield 230, 3) := by decide +kernel
theorem dX6_kinds_37 : decode cX6_kinds 37 = .ok (.iload_n 1, 1) := by decide +kernel
theorem dX6_kinds_38 : decode cX6_kinds 38 = .ok (.iload_n 3, 1) := by decide +kernel
theorem dX6_kinds_39 : decode cX6_kinds 39 = .ok (.iastore, 1) := by decide +kernel
theorem dX6_kinds_40 : decode cX6_kinds 40 = .ok (.aload_n 0, 1) := by decide +kernel
theorem dX6_kinds_41 : decode cX6_kinds 41 = .ok (.getfield 49, 3) := by decide +kernel
theorem dX6_kinds_44 : decode cX6_kinds 44 = .ok (.aload_n 0, 1) := by decide +kernel
theorem dX6_kinds_45 : decode cX6_kinds 45 = .ok (.getfield 23, 3) := by decide +kernel
theorem dX6_kinds_48 : decode cX6_kinds 48 = .ok (.invokevirtual 248, 3) := by decide +kernel
theorem dX6_kinds_51 : decode cX6_kinds 51 = .ok (.ifCond .eq 9, 3) := by decide +kernel
theorem dX6_kinds_54 : decode cX6_kinds 54 = .ok (.iload_n 2, 1) := by decide +kernel
theorem dX6_kinds_55 : decode cX6_kinds 55 = .ok (.iconst 1, 1) := by decide +kernel
theorem dX6_kinds_56 : decode cX6_kinds 56 = .ok (.iload_n 3, 1) := by decide +kernel
theorem dX6_kinds_57 : decode cX6_kinds 57 = .ok (.ishl, 1) := by decide +kernel
theorem dX6_kinds_58 : decode cX6_kinds 58 = .ok (.ior, 1) := by decide +kernel
theorem dX6_kinds_59 : decode cX6_kinds 59 = .ok (.istore_n 2, 1) := by decide +kernel
theorem dX6_kinds_60 : decode cX6_kinds 60 = .ok (.iinc 3 1, 3) := by decide +kernel
theorem dX6_kinds_63 : decode cX6_kinds 63 = .ok (.goto (-49), 3) := by decide +kernel
theorem dX6_kinds_66 : decode cX6_kinds 66 = .ok (.iload_n 2, 1) := by decide +kernel
theorem dX6_kinds_67 : decode cX6_kinds 67 = .ok (.ireturn, 1) := by decide +kernel
set_option maxRecDepth 20000 in
theorem ggX6_tastes_X6_isGardener : GoodIn wsX6_tastes wsX6_isGardener := goodIn_r _ [5, 6, 7, 71, 72, 73, 74, 75, 76, 77, 78, 79, 80, 81, 82, 83, 84, 85, 86, 87, 88, 89, 90, 91, 92, 93, 94] (by decide +kernel) (by decide +kernel)
set_option maxRecDepth 20000 in
theorem gX6_tastes_X6_isGardener : GoodIn wsX6_tastes (wsV RX6 126 RX6 yX6_isGardener wsX6_isGardener) := goodIn_app (goodIn_of _ (by decide +kernel)) ggX6_tastes_X6_isGardener
set_option maxRecDepth 20000 in
theorem ggX6_tastes_X6_isTasteAsSeen : GoodIn wsX6_tastes wsX6_isTasteAsSeen := goodIn_r _ [11, 12, 6, 13, 14, 15, 16, 17, 18, 19, 20, 21, 22, 23, 24, 25, 26, 27, 28, 29, 30, 31, 32, 33, 34, 35, 36, 37, 38, 39, 40, 41, 42, 43, 44, 45, 46, 47, 48, 49, 50, 51, 52, 53, 54, 55, 56, 57, 58, 59, 60, 61, 62, 63, 64, 65, 66, 67, 68, 69, 70, 71, 72, 73, 74, 75, 76, 77, 78, 79, 80, 81, 82, 83, 84, 85, 86, 87, 88, 89, 90, 91, 92, 93, 94, 95, 96, 97, 98, 99, 100] (by decide +kernel) (by decide +kernel)
set_option maxRecDepth 20000 in
theorem gX6_tastes_X6_isTasteAsSeen : GoodIn wsX6_tastes (wsV RX6 251 RX6 yX6_isTasteAsSeen wsX6_isTasteAsSeen) := goodIn_app (goodIn_of _ (by decide +kernel)) ggX6_tastes_X6_isTasteAsSeen
theorem dX6_tastes_0 : decode cX6_tastes 0 = .ok (.aload_n 0, 1) := by decide +kernel
theorem dX6_tastes_1 : decode cX6_tastes 1 = .ok (.iload_n 1, 1) := by decide +kernel
theorem dX6_tastes_2 : decode cX6_tastes 2 = .ok (.invokevirtual 126, 3) := by decide +kernel
theorem dX6_tastes_5 : decode cX6_tastes 5 = .ok (.ifCond .ne 5, 3) := by decide +kernel
theorem dX6_tastes_8 : decode cX6_tastes 8 = .ok (.iconst (-1), 1) := by decide +kernel
theorem dX6_tastes_9 : decode cX6_tastes 9 = .ok (.ireturn, 1) := by decide +kernel
theorem dX6_tastes_10 : decode cX6_tastes 10 = .ok (.iconst 0, 1) := by decide +kernel
theorem dX6_tastes_11 : decode cX6_tastes 11 = .ok (.istore_n 2, 1) := by decide +kernel
theorem dX6_tastes_12 : decode cX6_tastes 12 = .ok (.iconst 0, 1) := by decide +kernel
theorem dX6_tastes_13 : decode cX6_tastes 13 = .ok (.istore_n 3, 1) := by decide +kernel
theorem dX6_tastes_14 : decode cX6_tastes 14 = .ok (.iload_n 3, 1) := by decide +kernel
theorem dX6_tastes_15 : decode cX6_tastes 15 = .ok (.bipush 24, 2) := by decide +kernel
theorem dX6_tastes_17 : decode cX6_tastes 17 = .ok (.if_icmp .ge 24, 3) := by decide +kernel
theorem dX6_tastes_20 : decode cX6_tastes 20 = .ok (.aload_n 0, 1) := by decide +kernel
theorem dX6_tastes_21 : decode cX6_tastes 21 = .ok (.iload_n 1, 1) := by decide +kernel
theorem dX6_tastes_22 : decode cX6_tastes 22 = .ok (.iload_n 3, 1) := by decide +kernel
theorem dX6_tastes_23 : decode cX6_tastes 23 = .ok (.invokevirtual 251, 3) := by decide +kernel
theorem dX6_tastes_26 : decode cX6_tastes 26 = .ok (.ifCond .eq 9, 3) := by decide +kernel
theorem dX6_tastes_29 : decode cX6_tastes 29 = .ok (.iload_n 2, 1) := by decide +kernel
theorem dX6_tastes_30 : decode cX6_tastes 30 = .ok (.iconst 1, 1) := by decide +kernel
theorem dX6_tastes_31 : decode cX6_tastes 31 = .ok (.iload_n 3, 1) := by decide +kernel
theorem dX6_tastes_32 : decode cX6_tastes 32 = .ok (.ishl, 1) := by decide +kernel
theorem dX6_tastes_33 : decode cX6_tastes 33 = .ok (.ior, 1) := by decide +kernel
theorem dX6_tastes_34 : decode cX6_tastes 34 = .ok (.istore_n 2, 1) := by decide +kernel
theorem dX6_tastes_35 : decode cX6_tastes 35 = .ok (.iinc 3 1, 3) := by decide +kernel
theorem dX6_tastes_38 : decode cX6_tastes 38 = .ok (.goto (-24), 3) := by decide +kernel
theorem dX6_tastes_41 : decode cX6_tastes 41 = .ok (.iload_n 2, 1) := by decide +kernel
theorem dX6_tastes_42 : decode cX6_tastes 42 = .ok (.ireturn, 1) := by decide +kernel
set_option maxRecDepth 20000 in
theorem ggX6_ask_X6_isGardener : GoodIn wsX6_ask wsX6_isGardener := goodIn_r _ [11, 12, 13, 92, 93, 94, 95, 96, 97, 98, 99, 100, 101, 102, 103, 110, 111, 112, 113, 114, 115, 116, 117, 118, 119, 120, 121] (by decide +kernel) (by decide +kernel)
set_option maxRecDepth 20000 in
theorem gX6_ask_X6_isGardener : GoodIn wsX6_ask (wsV RX6 126 RX6 yX6_isGardener wsX6_isGardener) := goodIn_app (goodIn_of _ (by decide +kernel)) ggX6_ask_X6_isGardener
set_option maxRecDepth 20000 in
theorem ggX6_ask_X6_isBit : GoodIn wsX6_ask wsX6_isBit := goodIn_r _ [16] (by decide +kernel) (by decide +kernel)
set_option maxRecDepth 20000 in
theorem gX6_ask_X6_isBit : GoodIn wsX6_ask (va_wsS RX6 154 yX6_isBit wsX6_isBit) := goodIn_app (goodIn_of _ (by decide +kernel)) ggX6_ask_X6_isBit
set_option maxRecDepth 20000 in
theorem ggX6_ask_X4_clearVotes : GoodIn wsX6_ask wsX4_clearVotes := goodIn_r _ [21, 22, 23, 24, 25, 26, 104, 105, 106, 107, 108, 109] (by decide +kernel) (by decide +kernel)
set_option maxRecDepth 20000 in
theorem gX6_ask_X4_clearVotes : GoodIn wsX6_ask (wsV RX6 254 RX4 yX4_clearVotes wsX4_clearVotes) := goodIn_app (goodIn_of _ (by decide +kernel)) ggX6_ask_X4_clearVotes
set_option maxRecDepth 20000 in
theorem ggX6_ask_X6_isTasteAsSeen : GoodIn wsX6_ask wsX6_isTasteAsSeen := goodIn_r _ [30, 31, 12, 32, 1, 33, 34, 35, 36, 37, 38, 39, 40, 41, 42, 43, 44, 45, 46, 47, 48, 49, 50, 51, 52, 20, 53, 54, 55, 56, 57, 58, 59, 60, 61, 62, 63, 64, 65, 66, 67, 68, 69, 70, 71, 72, 73, 74, 75, 76, 77, 78, 79, 80, 81, 82, 83, 84, 85, 86, 87, 92, 93, 94, 95, 96, 97, 98, 99, 100, 101, 102, 103, 110, 111, 112, 113, 114, 115, 116, 117, 118, 119, 120, 121, 104, 105, 106, 107, 108, 109] (by decide +kernel) (by decide +kernel)
set_option maxRecDepth 20000 in
theorem gX6_ask_X6_isTasteAsSeen : GoodIn wsX6_ask (wsV RX6 251 RX6 yX6_isTasteAsSeen wsX6_isTasteAsSeen) := goodIn_app (goodIn_of _ (by decide +kernel)) ggX6_ask_X6_isTasteAsSeen
set_option maxRecDepth 20000 in
theorem ggX6_ask_X4_vote : GoodIn wsX6_ask wsX4_vote := goodIn_r _ [91, 22, 54, 104, 105, 106, 107, 108, 109] (by decide +kernel) (by decide +kernel)
set_option maxRecDepth 20000 in
theorem gX6_ask_X4_vote : GoodIn wsX6_ask (wsV RX6 257 RX4 yX4_vote wsX4_vote) := goodIn_app (goodIn_of _ (by decide +kernel)) ggX6_ask_X4_vote
theorem dX6_ask_0 : decode cX6_ask 0 = .ok (.aload_n 0, 1) := by decide +kernel
theorem dX6_ask_1 : decode cX6_ask 1 = .ok (.iload_n 1, 1) := by decide +kernel
theorem dX6_ask_2 : decode cX6_ask 2 = .ok (.invokevirtual 126, 3) := by decide +kernel
theorem dX6_ask_5 : decode cX6_ask 5 = .ok (.ifCond .eq 10, 3) := by decide +kernel
theorem dX6_ask_8 : decode cX6_ask 8 = .ok (.iload_n 2, 1) := by decide +kernel
theorem dX6_ask_9 : decode cX6_ask 9 = .ok (.invokestatic 154, 3) := by decide +kernel
theorem dX6_ask_12 : decode cX6_ask 12 = .ok (.ifCond .ne 5, 3) := by decide +kernel
theorem dX6_ask_15 : decode cX6_ask 15 = .ok (.iconst (-1), 1) := by decide +kernel
theorem dX6_ask_16 : decode cX6_ask 16 = .ok (.ireturn, 1) := by decide +kernel
theorem dX6_ask_17 : decode cX6_ask 17 = .ok (.aload_n 0, 1) := by decide +kernel
theorem dX6_ask_18 : decode cX6_ask 18 = .ok (.getfield 49, 3) := by decide +kernel
theorem dX6_ask_21 : decode cX6_ask 21 = .ok (.invokevirtual 254, 3) := by decide +kernel
theorem dX6_ask_24 : decode cX6_ask 24 = .ok (.iconst 0, 1) := by decide +kernel
theorem dX6_ask_25 : decode cX6_ask 25 = .ok (.istore_n 3, 1) := by decide +kernel
theorem dX6_ask_26 : decode cX6_ask 26 = .ok (.iconst 0, 1) := by decide +kernel
theorem dX6_ask_27 : decode cX6_ask 27 = .ok (.istore 4, 2) := by decide +kernel
theorem dX6_ask_29 : decode cX6_ask 29 = .ok (.iload 4, 2) := by decide +kernel
theorem dX6_ask_31 : decode cX6_ask 31 = .ok (.bipush 24, 2) := by decide +kernel
theorem dX6_ask_33 : decode cX6_ask 33 = .ok (.if_icmp .ge 29, 3) := by decide +kernel
theorem dX6_ask_36 : decode cX6_ask 36 = .ok (.aload_n 0, 1) := by decide +kernel
theorem dX6_ask_37 : decode cX6_ask 37 = .ok (.iload_n 1, 1) := by decide +kernel
theorem dX6_ask_38 : decode cX6_ask 38 = .ok (.iload 4, 2) := by decide +kernel
theorem dX6_ask_40 : decode cX6_ask 40 = .ok (.invokevirtual 251, 3) := by decide +kernel
theorem dX6_ask_43 : decode cX6_ask 43 = .ok (.ifCond .eq 13, 3) := by decide +kernel
theorem dX6_ask_46 : decode cX6_ask 46 = .ok (.aload_n 0, 1) := by decide +kernel
theorem dX6_ask_47 : decode cX6_ask 47 = .ok (.getfield 49, 3) := by decide +kernel
theorem dX6_ask_50 : decode cX6_ask 50 = .ok (.invokevirtual 257, 3) := by decide +kernel
theorem dX6_ask_53 : decode cX6_ask 53 = .ok (.iinc 3 1, 3) := by decide +kernel
theorem dX6_ask_56 : decode cX6_ask 56 = .ok (.iinc 4 1, 3) := by decide +kernel
theorem dX6_ask_59 : decode cX6_ask 59 = .ok (.goto (-30), 3) := by decide +kernel
theorem dX6_ask_62 : decode cX6_ask 62 = .ok (.iload_n 3, 1) := by decide +kernel
theorem dX6_ask_63 : decode cX6_ask 63 = .ok (.istore 4, 2) := by decide +kernel
theorem dX6_ask_65 : decode cX6_ask 65 = .ok (.bipush (-4), 2) := by decide +kernel
theorem dX6_ask_67 : decode cX6_ask 67 = .ok (.istore 5, 2) := by decide +kernel
theorem dX6_ask_69 : decode cX6_ask 69 = .ok (.iconst 0, 1) := by decide +kernel
theorem dX6_ask_70 : decode cX6_ask 70 = .ok (.istore 6, 2) := by decide +kernel
theorem dX6_ask_72 : decode cX6_ask 72 = .ok (.iload 6, 2) := by decide +kernel
theorem dX6_ask_74 : decode cX6_ask 74 = .ok (.bipush 20, 2) := by decide +kernel
theorem dX6_ask_76 : decode cX6_ask 76 = .ok (.if_icmp .gt 75, 3) := by decide +kernel
theorem dX6_ask_79 : decode cX6_ask 79 = .ok (.iconst 0, 1) := by decide +kernel
theorem dX6_ask_80 : decode cX6_ask 80 = .ok (.istore 7, 2) := by decide +kernel
theorem dX6_ask_82 : decode cX6_ask 82 = .ok (.iload 7, 2) := by decide +kernel
theorem dX6_ask_84 : decode cX6_ask 84 = .ok (.bipush 24, 2) := by decide +kernel
theorem dX6_ask_86 : decode cX6_ask 86 = .ok (.if_icmp .ge 59, 3) := by decide +kernel
theorem dX6_ask_89 : decode cX6_ask 89 = .ok (.aload_n 0, 1) := by decide +kernel
theorem dX6_ask_90 : decode cX6_ask 90 = .ok (.getfield 49, 3) := by decide +kernel
theorem dX6_ask_93 : decode cX6_ask 93 = .ok (.getfield 260, 3) := by decide +kernel
theorem dX6_ask_96 : decode cX6_ask 96 = .ok (.iload 6, 2) := by decide +kernel
theorem dX6_ask_98 : decode cX6_ask 98 = .ok (.bipush 24, 2) := by decide +kernel
theorem dX6_ask_100 : decode cX6_ask 100 = .ok (.imul, 1) := by decide +kernel
theorem dX6_ask_101 : decode cX6_ask 101 = .ok (.iload 7, 2) := by decide +kernel
theorem dX6_ask_103 : decode cX6_ask 103 = .ok (.iadd, 1) := by decide +kernel
theorem dX6_ask_104 : decode cX6_ask 104 = .ok (.iaload, 1) := by decide +kernel
theorem dX6_ask_105 : decode cX6_ask 105 = .ok (.istore 8, 2) := by decide +kernel
theorem dX6_ask_107 : decode cX6_ask 107 = .ok (.iload 8, 2) := by decide +kernel
theorem dX6_ask_109 : decode cX6_ask 109 = .ok (.iload_n 3, 1) := by decide +kernel
theorem dX6_ask_110 : decode cX6_ask 110 = .ok (.iload 8, 2) := by decide +kernel
theorem dX6_ask_112 : decode cX6_ask 112 = .ok (.isub, 1) := by decide +kernel
theorem dX6_ask_113 : decode cX6_ask 113 = .ok (.invokestatic 263, 3) := by decide +kernel
theorem dX6_ask_116 : decode cX6_ask 116 = .ok (.istore 9, 2) := by decide +kernel
theorem dX6_ask_118 : decode cX6_ask 118 = .ok (.iload 9, 2) := by decide +kernel
theorem dX6_ask_120 : decode cX6_ask 120 = .ok (.iload 4, 2) := by decide +kernel
theorem dX6_ask_122 : decode cX6_ask 122 = .ok (.if_icmp .ge 17, 3) := by decide +kernel
theorem dX6_ask_125 : decode cX6_ask 125 = .ok (.iload 9, 2) := by decide +kernel
theorem dX6_ask_127 : decode cX6_ask 127 = .ok (.istore 4, 2) := by decide +kernel
theorem dX6_ask_129 : decode cX6_ask 129 = .ok (.bipush 100, 2) := by decide +kernel
theorem dX6_ask_131 : decode cX6_ask 131 = .ok (.iload 6, 2) := by decide +kernel
theorem dX6_ask_133 : decode cX6_ask 133 = .ok (.imul, 1) := by decide +kernel
theorem dX6_ask_134 : decode cX6_ask 134 = .ok (.iload 7, 2) := by decide +kernel
theorem dX6_ask_136 : decode cX6_ask 136 = .ok (.iadd, 1) := by decide +kernel
theorem dX6_ask_137 : decode cX6_ask 137 = .ok (.istore 5, 2) := by decide +kernel
theorem dX6_ask_139 : decode cX6_ask 139 = .ok (.iinc 7 1, 3) := by decide +kernel
theorem dX6_ask_142 : decode cX6_ask 142 = .ok (.goto (-60), 3) := by decide +kernel
theorem dX6_ask_145 : decode cX6_ask 145 = .ok (.iinc 6 1, 3) := by decide +kernel
theorem dX6_ask_148 : decode cX6_ask 148 = .ok (.goto (-76), 3) := by decide +kernel
theorem dX6_ask_151 : decode cX6_ask 151 = .ok (.iload 5, 2) := by decide +kernel
theorem dX6_ask_153 : decode cX6_ask 153 = .ok (.bipush (-4), 2) := by decide +kernel
theorem dX6_ask_155 : decode cX6_ask 155 = .ok (.if_icmp .eq 7, 3) := by decide +kernel
theorem dX6_ask_158 : decode cX6_ask 158 = .ok (.iload_n 2, 1) := by decide +kernel
theorem dX6_ask_159 : decode cX6_ask 159 = .ok (.ifCond .ne 8, 3) := by decide +kernel
theorem dX6_ask_162 : decode cX6_ask 162 = .ok (.iload 5, 2) := by decide +kernel
theorem dX6_ask_164 : decode cX6_ask 164 = .ok (.goto 5, 3) := by decide +kernel
theorem dX6_ask_167 : decode cX6_ask 167 = .ok (.iload 4, 2) := by decide +kernel
theorem dX6_ask_169 : decode cX6_ask 169 = .ok (.ireturn, 1) := by decide +kernel
set_option maxRecDepth 20000 in
theorem ggX6_drift_X6_isBit : GoodIn wsX6_drift wsX6_isBit := goodIn_r _ [9] (by decide +kernel) (by decide +kernel)
set_option maxRecDepth 20000 in
theorem gX6_drift_X6_isBit : GoodIn wsX6_drift (va_wsS RX6 154 yX6_isBit wsX6_isBit) := goodIn_app (goodIn_of _ (by decide +kernel)) ggX6_drift_X6_isBit
set_option maxRecDepth 20000 in
theorem ggX6_drift_X1_become : GoodIn wsX6_drift wsX1_become := goodIn_r _ [14, 15, 16, 17, 18, 19, 20, 21, 22, 23, 24, 25, 26, 100, 101, 102, 103, 104, 105, 106, 107, 108, 109, 110, 111] (by decide +kernel) (by decide +kernel)
set_option maxRecDepth 20000 in
theorem gX6_drift_X1_become : GoodIn wsX6_drift (wsV RX6 86 RX1 yX1_become wsX1_become) := goodIn_app (goodIn_of _ (by decide +kernel)) ggX6_drift_X1_become
set_option maxRecDepth 20000 in
theorem ggX6_drift_X2_changed : GoodIn wsX6_drift wsX2_changed := goodIn_r _ [30] (by decide +kernel) (by decide +kernel)
set_option maxRecDepth 20000 in
theorem gX6_drift_X2_changed : GoodIn wsX6_drift (va_wsS RX6 211 yX2_changed wsX2_changed) := goodIn_app (goodIn_of _ (by decide +kernel)) ggX6_drift_X2_changed
set_option maxRecDepth 20000 in
theorem ggX6_drift_X1_passDays : GoodIn wsX6_drift wsX1_passDays := goodIn_r _ [34, 18, 35, 36, 37, 13, 38, 15, 17, 22, 23, 39, 40, 41, 42, 19, 43, 44, 45, 46, 21, 47, 48, 49, 50, 51, 52, 53, 54, 55, 56, 29, 57, 58, 59, 60, 61, 20, 26, 25, 24, 16, 62, 63, 64, 65, 66, 67, 68, 69, 70, 71, 72, 100, 101, 102, 103, 104, 105, 106, 107, 108, 109, 110, 111] (by decide +kernel) (by decide +kernel)
set_option maxRecDepth 20000 in
theorem gX6_drift_X1_passDays : GoodIn wsX6_drift (wsV RX6 188 RX1 yX1_passDays wsX1_passDays) := goodIn_app (goodIn_of _ (by decide +kernel)) ggX6_drift_X1_passDays
set_option maxRecDepth 20000 in
theorem ggX6_drift_X1_outs : GoodIn wsX6_drift wsX1_outs := goodIn_r _ [76, 77, 78, 79, 13, 80, 20, 26, 81, 82, 70, 83, 84, 85, 86, 100, 101, 102, 103, 104, 105, 106, 107, 108, 109, 110, 111] (by decide +kernel) (by decide +kernel)
set_option maxRecDepth 20000 in
theorem gX6_drift_X1_outs : GoodIn wsX6_drift (wsV RX6 184 RX1 yX1_outs wsX1_outs) := goodIn_app (goodIn_of _ (by decide +kernel)) ggX6_drift_X1_outs
set_option maxRecDepth 20000 in
theorem ggX6_drift_J6_bitCount_0f7a4 : GoodIn wsX6_drift wsJ6_bitCount_0f7a4 := goodIn_r _ [83, 84, 85, 86] (by decide +kernel) (by decide +kernel)
set_option maxRecDepth 20000 in
theorem gX6_drift_J6_bitCount_0f7a4 : GoodIn wsX6_drift (va_wsS RX6 108 yJ6_bitCount_0f7a4 wsJ6_bitCount_0f7a4) := goodIn_app (goodIn_of _ (by decide +kernel)) ggX6_drift_J6_bitCount_0f7a4
theorem dX6_drift_0 : decode cX6_drift 0 = .ok (.iload_n 2, 1) := by decide +kernel
theorem dX6_drift_1 : decode cX6_drift 1 = .ok (.iconst 1, 1) := by decide +kernel
theorem dX6_drift_2 : decode cX6_drift 2 = .ok (.if_icmp .lt 16, 3) := by decide +kernel
theorem dX6_drift_5 : decode cX6_drift 5 = .ok (.iload_n 2, 1) := by decide +kernel
theorem dX6_drift_6 : decode cX6_drift 6 = .ok (.bipush 60, 2) := by decide +kernel
theorem dX6_drift_8 : decode cX6_drift 8 = .ok (.if_icmp .gt 10, 3) := by decide +kernel
theorem dX6_drift_11 : decode cX6_drift 11 = .ok (.iload_n 3, 1) := by decide +kernel
theorem dX6_drift_12 : decode cX6_drift 12 = .ok (.invokestatic 154, 3) := by decide +kernel
theorem dX6_drift_15 : decode cX6_drift 15 = .ok (.ifCond .ne 5, 3) := by decide +kernel
theorem dX6_drift_18 : decode cX6_drift 18 = .ok (.iconst (-1), 1) := by decide +kernel
theorem dX6_drift_19 : decode cX6_drift 19 = .ok (.ireturn, 1) := by decide +kernel
theorem dX6_drift_20 : decode cX6_drift 20 = .ok (.aload_n 0, 1) := by decide +kernel
theorem dX6_drift_21 : decode cX6_drift 21 = .ok (.getfield 19, 3) := by decide +kernel
theorem dX6_drift_24 : decode cX6_drift 24 = .ok (.getfield 96, 3) := by decide +kernel
theorem dX6_drift_27 : decode cX6_drift 27 = .ok (.ifCond .ne 6, 3) := by decide +kernel
theorem dX6_drift_30 : decode cX6_drift 30 = .ok (.bipush (-2), 2) := by decide +kernel
theorem dX6_drift_32 : decode cX6_drift 32 = .ok (.ireturn, 1) := by decide +kernel
theorem dX6_drift_33 : decode cX6_drift 33 = .ok (.aload_n 0, 1) := by decide +kernel
theorem dX6_drift_34 : decode cX6_drift 34 = .ok (.getfield 23, 3) := by decide +kernel
theorem dX6_drift_37 : decode cX6_drift 37 = .ok (.aload_n 0, 1) := by decide +kernel
theorem dX6_drift_38 : decode cX6_drift 38 = .ok (.getfield 19, 3) := by decide +kernel
theorem dX6_drift_41 : decode cX6_drift 41 = .ok (.invokevirtual 86, 3) := by decide +kernel
theorem dX6_drift_44 : decode cX6_drift 44 = .ok (.iload_n 1, 1) := by decide +kernel
theorem dX6_drift_45 : decode cX6_drift 45 = .ok (.istore 4, 2) := by decide +kernel
theorem dX6_drift_47 : decode cX6_drift 47 = .ok (.iconst 0, 1) := by decide +kernel
theorem dX6_drift_48 : decode cX6_drift 48 = .ok (.istore 5, 2) := by decide +kernel
theorem dX6_drift_50 : decode cX6_drift 50 = .ok (.iload 5, 2) := by decide +kernel
theorem dX6_drift_52 : decode cX6_drift 52 = .ok (.iload_n 2, 1) := by decide +kernel
theorem dX6_drift_53 : decode cX6_drift 53 = .ok (.if_icmp .ge 62, 3) := by decide +kernel
theorem dX6_drift_56 : decode cX6_drift 56 = .ok (.iload 4, 2) := by decide +kernel
theorem dX6_drift_58 : decode cX6_drift 58 = .ok (.ldc_w 268, 3) := by decide +kernel
theorem dX6_drift_61 : decode cX6_drift 61 = .ok (.imul, 1) := by decide +kernel
theorem dX6_drift_62 : decode cX6_drift 62 = .ok (.sipush 12345, 3) := by decide +kernel
theorem dX6_drift_65 : decode cX6_drift 65 = .ok (.iadd, 1) := by decide +kernel
theorem dX6_drift_66 : decode cX6_drift 66 = .ok (.istore 4, 2) := by decide +kernel
theorem dX6_drift_68 : decode cX6_drift 68 = .ok (.iload 4, 2) := by decide +kernel
theorem dX6_drift_70 : decode cX6_drift 70 = .ok (.bipush 16, 2) := by decide +kernel
theorem dX6_drift_72 : decode cX6_drift 72 = .ok (.iushr, 1) := by decide +kernel
theorem dX6_drift_73 : decode cX6_drift 73 = .ok (.sipush 32767, 3) := by decide +kernel
theorem dX6_drift_76 : decode cX6_drift 76 = .ok (.iand, 1) := by decide +kernel
theorem dX6_drift_77 : decode cX6_drift 77 = .ok (.istore 6, 2) := by decide +kernel
theorem dX6_drift_79 : decode cX6_drift 79 = .ok (.aload_n 0, 1) := by decide +kernel
theorem dX6_drift_80 : decode cX6_drift 80 = .ok (.getfield 23, 3) := by decide +kernel
theorem dX6_drift_83 : decode cX6_drift 83 = .ok (.aload_n 0, 1) := by decide +kernel
theorem dX6_drift_84 : decode cX6_drift 84 = .ok (.getfield 23, 3) := by decide +kernel
theorem dX6_drift_87 : decode cX6_drift 87 = .ok (.getfield 105, 3) := by decide +kernel
theorem dX6_drift_90 : decode cX6_drift 90 = .ok (.iload 6, 2) := by decide +kernel
theorem dX6_drift_92 : decode cX6_drift 92 = .ok (.bipush 24, 2) := by decide +kernel
theorem dX6_drift_94 : decode cX6_drift 94 = .ok (.irem, 1) := by decide +kernel
theorem dX6_drift_95 : decode cX6_drift 95 = .ok (.invokestatic 211, 3) := by decide +kernel
theorem dX6_drift_98 : decode cX6_drift 98 = .ok (.putfield 105, 3) := by decide +kernel
theorem dX6_drift_101 : decode cX6_drift 101 = .ok (.aload_n 0, 1) := by decide +kernel
theorem dX6_drift_102 : decode cX6_drift 102 = .ok (.getfield 23, 3) := by decide +kernel
theorem dX6_drift_105 : decode cX6_drift 105 = .ok (.iconst 1, 1) := by decide +kernel
theorem dX6_drift_106 : decode cX6_drift 106 = .ok (.invokevirtual 188, 3) := by decide +kernel
theorem dX6_drift_109 : decode cX6_drift 109 = .ok (.iinc 5 1, 3) := by decide +kernel
theorem dX6_drift_112 : decode cX6_drift 112 = .ok (.goto (-62), 3) := by decide +kernel
theorem dX6_drift_115 : decode cX6_drift 115 = .ok (.iload_n 3, 1) := by decide +kernel
theorem dX6_drift_116 : decode cX6_drift 116 = .ok (.ifCond .ne 13, 3) := by decide +kernel
theorem dX6_drift_119 : decode cX6_drift 119 = .ok (.aload_n 0, 1) := by decide +kernel
theorem dX6_drift_120 : decode cX6_drift 120 = .ok (.getfield 23, 3) := by decide +kernel
theorem dX6_drift_123 : decode cX6_drift 123 = .ok (.invokevirtual 184, 3) := by decide +kernel
theorem dX6_drift_126 : decode cX6_drift 126 = .ok (.goto 13, 3) := by decide +kernel
theorem dX6_drift_129 : decode cX6_drift 129 = .ok (.aload_n 0, 1) := by decide +kernel
theorem dX6_drift_130 : decode cX6_drift 130 = .ok (.getfield 23, 3) := by decide +kernel
theorem dX6_drift_133 : decode cX6_drift 133 = .ok (.getfield 105, 3) := by decide +kernel
theorem dX6_drift_136 : decode cX6_drift 136 = .ok (.invokestatic 108, 3) := by decide +kernel
theorem dX6_drift_139 : decode cX6_drift 139 = .ok (.ireturn, 1) := by decide +kernel
set_option maxRecDepth 20000 in
theorem ggX6_keep_X6_isImage : GoodIn wsX6_keep wsX6_isImage := goodIn_r _ [7] (by decide +kernel) (by decide +kernel)
set_option maxRecDepth 20000 in
theorem gX6_keep_X6_isImage : GoodIn wsX6_keep (va_wsS RX6 269 yX6_isImage wsX6_isImage) := goodIn_app (goodIn_of _ (by decide +kernel)) ggX6_keep_X6_isImage
set_option maxRecDepth 20000 in
theorem ggX6_keep_X1_become : GoodIn wsX6_keep wsX1_become := goodIn_r _ [12, 13, 14, 15, 16, 17, 18, 19, 20, 21, 22, 23, 24, 37, 38, 39, 40, 41, 42, 43, 44, 45, 46, 47, 48] (by decide +kernel) (by decide +kernel)
set_option maxRecDepth 20000 in
theorem gX6_keep_X1_become : GoodIn wsX6_keep (wsV RX6 86 RX1 yX1_become wsX1_become) := goodIn_app (goodIn_of _ (by decide +kernel)) ggX6_keep_X1_become
theorem dX6_keep_0 : decode cX6_keep 0 = .ok (.iload_n 1, 1) := by decide +kernel
theorem dX6_keep_1 : decode cX6_keep 1 = .ok (.invokestatic 269, 3) := by decide +kernel
theorem dX6_keep_4 : decode cX6_keep 4 = .ok (.ifCond .ne 5, 3) := by decide +kernel
theorem dX6_keep_7 : decode cX6_keep 7 = .ok (.iconst (-1), 1) := by decide +kernel
theorem dX6_keep_8 : decode cX6_keep 8 = .ok (.ireturn, 1) := by decide +kernel
theorem dX6_keep_9 : decode cX6_keep 9 = .ok (.aload_n 0, 1) := by decide +kernel
theorem dX6_keep_10 : decode cX6_keep 10 = .ok (.getfield 36, 3) := by decide +kernel
theorem dX6_keep_13 : decode cX6_keep 13 = .ok (.iload_n 1, 1) := by decide +kernel
theorem dX6_keep_14 : decode cX6_keep 14 = .ok (.baload, 1) := by decide +kernel
theorem dX6_keep_15 : decode cX6_keep 15 = .ok (.ifCond .eq 7, 3) := by decide +kernel
theorem dX6_keep_18 : decode cX6_keep 18 = .ok (.iconst 1, 1) := by decide +kernel
theorem dX6_keep_19 : decode cX6_keep 19 = .ok (.goto 4, 3) := by decide +kernel
theorem dX6_keep_22 : decode cX6_keep 22 = .ok (.iconst 0, 1) := by decide +kernel
theorem dX6_keep_23 : decode cX6_keep 23 = .ok (.istore_n 2, 1) := by decide +kernel
theorem dX6_keep_24 : decode cX6_keep 24 = .ok (.aload_n 0, 1) := by decide +kernel
theorem dX6_keep_25 : decode cX6_keep 25 = .ok (.getfield 33, 3) := by decide +kernel
theorem dX6_keep_28 : decode cX6_keep 28 = .ok (.iload_n 1, 1) := by decide +kernel
theorem dX6_keep_29 : decode cX6_keep 29 = .ok (.aaload, 1) := by decide +kernel
theorem dX6_keep_30 : decode cX6_keep 30 = .ok (.aload_n 0, 1) := by decide +kernel
theorem dX6_keep_31 : decode cX6_keep 31 = .ok (.getfield 19, 3) := by decide +kernel
theorem dX6_keep_34 : decode cX6_keep 34 = .ok (.invokevirtual 86, 3) := by decide +kernel
theorem dX6_keep_37 : decode cX6_keep 37 = .ok (.aload_n 0, 1) := by decide +kernel
theorem dX6_keep_38 : decode cX6_keep 38 = .ok (.getfield 36, 3) := by decide +kernel
theorem dX6_keep_41 : decode cX6_keep 41 = .ok (.iload_n 1, 1) := by decide +kernel
theorem dX6_keep_42 : decode cX6_keep 42 = .ok (.iconst 1, 1) := by decide +kernel
theorem dX6_keep_43 : decode cX6_keep 43 = .ok (.bastore, 1) := by decide +kernel
theorem dX6_keep_44 : decode cX6_keep 44 = .ok (.iload_n 2, 1) := by decide +kernel
theorem dX6_keep_45 : decode cX6_keep 45 = .ok (.ireturn, 1) := by decide +kernel
set_option maxRecDepth 20000 in
theorem ggX6_back_X6_isImage : GoodIn wsX6_back wsX6_isImage := goodIn_r _ [8] (by decide +kernel) (by decide +kernel)
set_option maxRecDepth 20000 in
theorem gX6_back_X6_isImage : GoodIn wsX6_back (va_wsS RX6 269 yX6_isImage wsX6_isImage) := goodIn_app (goodIn_of _ (by decide +kernel)) ggX6_back_X6_isImage
set_option maxRecDepth 20000 in
theorem ggX6_back_X1_become : GoodIn wsX6_back wsX1_become := goodIn_r _ [13, 14, 15, 16, 17, 18, 19, 20, 21, 22, 23, 24, 25, 38, 39, 40, 41, 42, 43, 44, 45, 46, 47, 48, 49] (by decide +kernel) (by decide +kernel)
set_option maxRecDepth 20000 in
theorem gX6_back_X1_become : GoodIn wsX6_back (wsV RX6 86 RX1 yX1_become wsX1_become) := goodIn_app (goodIn_of _ (by decide +kernel)) ggX6_back_X1_become
theorem dX6_back_0 : decode cX6_back 0 = .ok (.iload_n 1, 1) := by decide +kernel
theorem dX6_back_1 : decode cX6_back 1 = .ok (.invokestatic 269, 3) := by decide +kernel
theorem dX6_back_4 : decode cX6_back 4 = .ok (.ifCond .ne 5, 3) := by decide +kernel
theorem dX6_back_7 : decode cX6_back 7 = .ok (.iconst (-1), 1) := by decide +kernel
theorem dX6_back_8 : decode cX6_back 8 = .ok (.ireturn, 1) := by decide +kernel
theorem dX6_back_9 : decode cX6_back 9 = .ok (.aload_n 0, 1) := by decide +kernel
theorem dX6_back_10 : decode cX6_back 10 = .ok (.getfield 36, 3) := by decide +kernel
theorem dX6_back_13 : decode cX6_back 13 = .ok (.iload_n 1, 1) := by decide +kernel
theorem dX6_back_14 : decode cX6_back 14 = .ok (.baload, 1) := by decide +kernel
theorem dX6_back_15 : decode cX6_back 15 = .ok (.ifCond .ne 6, 3) := by decide +kernel
theorem dX6_back_18 : decode cX6_back 18 = .ok (.bipush (-2), 2) := by decide +kernel
theorem dX6_back_20 : decode cX6_back 20 = .ok (.ireturn, 1) := by decide +kernel
theorem dX6_back_21 : decode cX6_back 21 = .ok (.aload_n 0, 1) := by decide +kernel
theorem dX6_back_22 : decode cX6_back 22 = .ok (.getfield 19, 3) := by decide +kernel
theorem dX6_back_25 : decode cX6_back 25 = .ok (.aload_n 0, 1) := by decide +kernel
theorem dX6_back_26 : decode cX6_back 26 = .ok (.getfield 33, 3) := by decide +kernel
theorem dX6_back_29 : decode cX6_back 29 = .ok (.iload_n 1, 1) := by decide +kernel
theorem dX6_back_30 : decode cX6_back 30 = .ok (.aaload, 1) := by decide +kernel
theorem dX6_back_31 : decode cX6_back 31 = .ok (.invokevirtual 86, 3) := by decide +kernel
theorem dX6_back_34 : decode cX6_back 34 = .ok (.aload_n 0, 1) := by decide +kernel
theorem dX6_back_35 : decode cX6_back 35 = .ok (.getfield 19, 3) := by decide +kernel
theorem dX6_back_38 : decode cX6_back 38 = .ok (.getfield 99, 3) := by decide +kernel
theorem dX6_back_41 : decode cX6_back 41 = .ok (.ireturn, 1) := by decide +kernel
set_option maxRecDepth 20000 in
theorem ggX6_sheet_X6_isSheet : GoodIn wsX6_sheet wsX6_isSheet := goodIn_r _ [5] (by decide +kernel) (by decide +kernel)
set_option maxRecDepth 20000 in
theorem gX6_sheet_X6_isSheet : GoodIn wsX6_sheet (va_wsS RX6 272 yX6_isSheet wsX6_isSheet) := goodIn_app (goodIn_of _ (by decide +kernel)) ggX6_sheet_X6_isSheet
set_option maxRecDepth 20000 in
theorem ggX6_sheet_X6_isLane : GoodIn wsX6_sheet wsX6_isLane := goodIn_r _ [8] (by decide +kernel) (by decide +kernel)
set_option maxRecDepth 20000 in
theorem gX6_sheet_X6_isLane : GoodIn wsX6_sheet (va_wsS RX6 275 yX6_isLane wsX6_isLane) := goodIn_app (goodIn_of _ (by decide +kernel)) ggX6_sheet_X6_isLane
set_option maxRecDepth 20000 in
theorem ggX6_sheet_X5_renew : GoodIn wsX6_sheet wsX5_renew := goodIn_r _ [13, 14, 15, 16, 17, 18, 19, 20, 21, 34, 35, 36, 37] (by decide +kernel) (by decide +kernel)
set_option maxRecDepth 20000 in
theorem gX6_sheet_X5_renew : GoodIn wsX6_sheet (wsV RX6 278 RX5 yX5_renew wsX5_renew) := goodIn_app (goodIn_of _ (by decide +kernel)) ggX6_sheet_X5_renew
theorem dX6_sheet_0 : decode cX6_sheet 0 = .ok (.iload_n 1, 1) := by decide +kernel
theorem dX6_sheet_1 : decode cX6_sheet 1 = .ok (.invokestatic 272, 3) := by decide +kernel
theorem dX6_sheet_4 : decode cX6_sheet 4 = .ok (.ifCond .eq 16, 3) := by decide +kernel
theorem dX6_sheet_7 : decode cX6_sheet 7 = .ok (.iload_n 2, 1) := by decide +kernel
theorem dX6_sheet_8 : decode cX6_sheet 8 = .ok (.invokestatic 275, 3) := by decide +kernel
theorem dX6_sheet_11 : decode cX6_sheet 11 = .ok (.ifCond .eq 9, 3) := by decide +kernel
theorem dX6_sheet_14 : decode cX6_sheet 14 = .ok (.iload_n 3, 1) := by decide +kernel
theorem dX6_sheet_15 : decode cX6_sheet 15 = .ok (.bipush 40, 2) := by decide +kernel
theorem dX6_sheet_17 : decode cX6_sheet 17 = .ok (.if_icmp .le 5, 3) := by decide +kernel
theorem dX6_sheet_20 : decode cX6_sheet 20 = .ok (.iconst (-1), 1) := by decide +kernel
theorem dX6_sheet_21 : decode cX6_sheet 21 = .ok (.ireturn, 1) := by decide +kernel
theorem dX6_sheet_22 : decode cX6_sheet 22 = .ok (.iload_n 3, 1) := by decide +kernel
theorem dX6_sheet_23 : decode cX6_sheet 23 = .ok (.ifCond .ge 6, 3) := by decide +kernel
theorem dX6_sheet_26 : decode cX6_sheet 26 = .ok (.bipush (-14), 2) := by decide +kernel
theorem dX6_sheet_28 : decode cX6_sheet 28 = .ok (.ireturn, 1) := by decide +kernel
theorem dX6_sheet_29 : decode cX6_sheet 29 = .ok (.aload_n 0, 1) := by decide +kernel
theorem dX6_sheet_30 : decode cX6_sheet 30 = .ok (.getfield 42, 3) := by decide +kernel
theorem dX6_sheet_33 : decode cX6_sheet 33 = .ok (.iload_n 1, 1) := by decide +kernel
theorem dX6_sheet_34 : decode cX6_sheet 34 = .ok (.aaload, 1) := by decide +kernel
theorem dX6_sheet_35 : decode cX6_sheet 35 = .ok (.iload_n 2, 1) := by decide +kernel
theorem dX6_sheet_36 : decode cX6_sheet 36 = .ok (.iload_n 3, 1) := by decide +kernel
theorem dX6_sheet_37 : decode cX6_sheet 37 = .ok (.invokevirtual 278, 3) := by decide +kernel
theorem dX6_sheet_40 : decode cX6_sheet 40 = .ok (.iconst 1, 1) := by decide +kernel
theorem dX6_sheet_41 : decode cX6_sheet 41 = .ok (.ireturn, 1) := by decide +kernel
set_option maxRecDepth 20000 in
theorem ggX6_lay_X6_isSheet : GoodIn wsX6_lay wsX6_isSheet := goodIn_r _ [6] (by decide +kernel) (by decide +kernel)
set_option maxRecDepth 20000 in
theorem gX6_lay_X6_isSheet : GoodIn wsX6_lay (va_wsS RX6 272 yX6_isSheet wsX6_isSheet) := goodIn_app (goodIn_of _ (by decide +kernel)) ggX6_lay_X6_isSheet
set_option maxRecDepth 20000 in
theorem ggX6_lay_X5_faultAt : GoodIn wsX6_lay wsX5_faultAt := goodIn_r _ [11, 12, 13, 14, 32, 33, 34, 35] (by decide +kernel) (by decide +kernel)
set_option maxRecDepth 20000 in
theorem gX6_lay_X5_faultAt : GoodIn wsX6_lay (wsV RX6 284 RX5 yX5_faultAt wsX5_faultAt) := goodIn_app (goodIn_of _ (by decide +kernel)) ggX6_lay_X5_faultAt
set_option maxRecDepth 20000 in
theorem ggX6_lay_X5_put : GoodIn wsX6_lay wsX5_put := goodIn_r _ [18, 19, 13, 32, 33, 34, 35] (by decide +kernel) (by decide +kernel)
set_option maxRecDepth 20000 in
theorem gX6_lay_X5_put : GoodIn wsX6_lay (wsV RX6 287 RX5 yX5_put wsX5_put) := goodIn_app (goodIn_of _ (by decide +kernel)) ggX6_lay_X5_put
theorem dX6_lay_0 : decode cX6_lay 0 = .ok (.iload_n 1, 1) := by decide +kernel
theorem dX6_lay_1 : decode cX6_lay 1 = .ok (.invokestatic 272, 3) := by decide +kernel
theorem dX6_lay_4 : decode cX6_lay 4 = .ok (.ifCond .ne 5, 3) := by decide +kernel
theorem dX6_lay_7 : decode cX6_lay 7 = .ok (.iconst (-1), 1) := by decide +kernel
theorem dX6_lay_8 : decode cX6_lay 8 = .ok (.ireturn, 1) := by decide +kernel
theorem dX6_lay_9 : decode cX6_lay 9 = .ok (.aload_n 0, 1) := by decide +kernel
theorem dX6_lay_10 : decode cX6_lay 10 = .ok (.getfield 42, 3) := by decide +kernel
theorem dX6_lay_13 : decode cX6_lay 13 = .ok (.iload_n 1, 1) := by decide +kernel
theorem dX6_lay_14 : decode cX6_lay 14 = .ok (.aaload, 1) := by decide +kernel
theorem dX6_lay_15 : decode cX6_lay 15 = .ok (.astore 4, 2) := by decide +kernel
theorem dX6_lay_17 : decode cX6_lay 17 = .ok (.aload 4, 2) := by decide +kernel
theorem dX6_lay_19 : decode cX6_lay 19 = .ok (.aload 4, 2) := by decide +kernel
theorem dX6_lay_21 : decode cX6_lay 21 = .ok (.getfield 281, 3) := by decide +kernel
theorem dX6_lay_24 : decode cX6_lay 24 = .ok (.iload_n 2, 1) := by decide +kernel
theorem dX6_lay_25 : decode cX6_lay 25 = .ok (.invokevirtual 284, 3) := by decide +kernel
theorem dX6_lay_28 : decode cX6_lay 28 = .ok (.istore 5, 2) := by decide +kernel
theorem dX6_lay_30 : decode cX6_lay 30 = .ok (.iload 5, 2) := by decide +kernel
theorem dX6_lay_32 : decode cX6_lay 32 = .ok (.ifCond .eq 9, 3) := by decide +kernel
theorem dX6_lay_35 : decode cX6_lay 35 = .ok (.bipush (-10), 2) := by decide +kernel
theorem dX6_lay_37 : decode cX6_lay 37 = .ok (.iload 5, 2) := by decide +kernel
theorem dX6_lay_39 : decode cX6_lay 39 = .ok (.isub, 1) := by decide +kernel
theorem dX6_lay_40 : decode cX6_lay 40 = .ok (.ireturn, 1) := by decide +kernel
theorem dX6_lay_41 : decode cX6_lay 41 = .ok (.aload 4, 2) := by decide +kernel
theorem dX6_lay_43 : decode cX6_lay 43 = .ok (.iload_n 2, 1) := by decide +kernel
theorem dX6_lay_44 : decode cX6_lay 44 = .ok (.iload_n 3, 1) := by decide +kernel
theorem dX6_lay_45 : decode cX6_lay 45 = .ok (.invokevirtual 287, 3) := by decide +kernel
theorem dX6_lay_48 : decode cX6_lay 48 = .ok (.iconst 1, 1) := by decide +kernel
theorem dX6_lay_49 : decode cX6_lay 49 = .ok (.ireturn, 1) := by decide +kernel
set_option maxRecDepth 20000 in
theorem ggX6_read_X6_isSheet : GoodIn wsX6_read wsX6_isSheet := goodIn_r _ [9] (by decide +kernel) (by decide +kernel)
set_option maxRecDepth 20000 in
theorem gX6_read_X6_isSheet : GoodIn wsX6_read (va_wsS RX6 272 yX6_isSheet wsX6_isSheet) := goodIn_app (goodIn_of _ (by decide +kernel)) ggX6_read_X6_isSheet
set_option maxRecDepth 20000 in
theorem ggX6_read_X6_isLane : GoodIn wsX6_read wsX6_isLane := goodIn_r _ [12] (by decide +kernel) (by decide +kernel)
set_option maxRecDepth 20000 in
theorem gX6_read_X6_isLane : GoodIn wsX6_read (va_wsS RX6 275 yX6_isLane wsX6_isLane) := goodIn_app (goodIn_of _ (by decide +kernel)) ggX6_read_X6_isLane
set_option maxRecDepth 20000 in
theorem ggX6_read_X5_faultOfPair : GoodIn wsX6_read wsX5_faultOfPair := goodIn_r _ [17, 18, 19, 20, 16, 21, 22, 23, 24, 59, 60, 61, 62] (by decide +kernel) (by decide +kernel)
set_option maxRecDepth 20000 in
theorem gX6_read_X5_faultOfPair : GoodIn wsX6_read (wsV RX6 290 RX5 yX5_faultOfPair wsX5_faultOfPair) := goodIn_app (goodIn_of _ (by decide +kernel)) ggX6_read_X5_faultOfPair
set_option maxRecDepth 20000 in
theorem ggX6_read_X6_isHedge : GoodIn wsX6_read wsX6_isHedge := goodIn_r _ [27] (by decide +kernel) (by decide +kernel)
set_option maxRecDepth 20000 in
theorem gX6_read_X6_isHedge : GoodIn wsX6_read (va_wsS RX6 120 yX6_isHedge wsX6_isHedge) := goodIn_app (goodIn_of _ (by decide +kernel)) ggX6_read_X6_isHedge
set_option maxRecDepth 20000 in
theorem ggX6_read_X6_isBit : GoodIn wsX6_read wsX6_isBit := goodIn_r _ [30] (by decide +kernel) (by decide +kernel)
set_option maxRecDepth 20000 in
theorem gX6_read_X6_isBit : GoodIn wsX6_read (va_wsS RX6 154 yX6_isBit wsX6_isBit) := goodIn_app (goodIn_of _ (by decide +kernel)) ggX6_read_X6_isBit
set_option maxRecDepth 20000 in
theorem ggX6_read_X2_with : GoodIn wsX6_read wsX2_with := goodIn_r _ [34] (by decide +kernel) (by decide +kernel)
set_option maxRecDepth 20000 in
theorem gX6_read_X2_with : GoodIn wsX6_read (va_wsS RX6 157 yX2_with wsX2_with) := goodIn_app (goodIn_of _ (by decide +kernel)) ggX6_read_X2_with
theorem dX6_read_0 : decode cX6_read 0 = .ok (.iload_n 1, 1) := by decide +kernel
theorem dX6_read_1 : decode cX6_read 1 = .ok (.invokestatic 272, 3) := by decide +kernel
theorem dX6_read_4 : decode cX6_read 4 = .ok (.ifCond .eq 22, 3) := by decide +kernel
theorem dX6_read_7 : decode cX6_read 7 = .ok (.iload_n 2, 1) := by decide +kernel
theorem dX6_read_8 : decode cX6_read 8 = .ok (.invokestatic 275, 3) := by decide +kernel
theorem dX6_read_11 : decode cX6_read 11 = .ok (.ifCond .eq 15, 3) := by decide +kernel
theorem dX6_read_14 : decode cX6_read 14 = .ok (.iload 4, 2) := by decide +kernel
theorem dX6_read_16 : decode cX6_read 16 = .ok (.ifCond .lt 10, 3) := by decide +kernel
theorem dX6_read_19 : decode cX6_read 19 = .ok (.iload 4, 2) := by decide +kernel
theorem dX6_read_21 : decode cX6_read 21 = .ok (.bipush 20, 2) := by decide +kernel
theorem dX6_read_23 : decode cX6_read 23 = .ok (.if_icmp .le 5, 3) := by decide +kernel
theorem dX6_read_26 : decode cX6_read 26 = .ok (.iconst (-1), 1) := by decide +kernel
theorem dX6_read_27 : decode cX6_read 27 = .ok (.ireturn, 1) := by decide +kernel
theorem dX6_read_28 : decode cX6_read 28 = .ok (.aload_n 0, 1) := by decide +kernel
theorem dX6_read_29 : decode cX6_read 29 = .ok (.getfield 42, 3) := by decide +kernel
theorem dX6_read_32 : decode cX6_read 32 = .ok (.iload_n 1, 1) := by decide +kernel
theorem dX6_read_33 : decode cX6_read 33 = .ok (.aaload, 1) := by decide +kernel
theorem dX6_read_34 : decode cX6_read 34 = .ok (.astore 5, 2) := by decide +kernel
theorem dX6_read_36 : decode cX6_read 36 = .ok (.aload_n 0, 1) := by decide +kernel
theorem dX6_read_37 : decode cX6_read 37 = .ok (.getfield 19, 3) := by decide +kernel
theorem dX6_read_40 : decode cX6_read 40 = .ok (.getfield 105, 3) := by decide +kernel
theorem dX6_read_43 : decode cX6_read 43 = .ok (.istore 6, 2) := by decide +kernel
theorem dX6_read_45 : decode cX6_read 45 = .ok (.iconst 0, 1) := by decide +kernel
theorem dX6_read_46 : decode cX6_read 46 = .ok (.istore 7, 2) := by decide +kernel
theorem dX6_read_48 : decode cX6_read 48 = .ok (.iconst 0, 1) := by decide +kernel
theorem dX6_read_49 : decode cX6_read 49 = .ok (.istore 8, 2) := by decide +kernel
theorem dX6_read_51 : decode cX6_read 51 = .ok (.iload 8, 2) := by decide +kernel
theorem dX6_read_53 : decode cX6_read 53 = .ok (.iload 4, 2) := by decide +kernel
theorem dX6_read_55 : decode cX6_read 55 = .ok (.if_icmp .ge 94, 3) := by decide +kernel
theorem dX6_read_58 : decode cX6_read 58 = .ok (.aload 5, 2) := by decide +kernel
theorem dX6_read_60 : decode cX6_read 60 = .ok (.iload_n 2, 1) := by decide +kernel
theorem dX6_read_61 : decode cX6_read 61 = .ok (.iload_n 3, 1) := by decide +kernel
theorem dX6_read_62 : decode cX6_read 62 = .ok (.iconst 2, 1) := by decide +kernel
theorem dX6_read_63 : decode cX6_read 63 = .ok (.iload 8, 2) := by decide +kernel
theorem dX6_read_65 : decode cX6_read 65 = .ok (.imul, 1) := by decide +kernel
theorem dX6_read_66 : decode cX6_read 66 = .ok (.iadd, 1) := by decide +kernel
theorem dX6_read_67 : decode cX6_read 67 = .ok (.invokevirtual 290, 3) := by decide +kernel
theorem dX6_read_70 : decode cX6_read 70 = .ok (.istore 7, 2) := by decide +kernel
theorem dX6_read_72 : decode cX6_read 72 = .ok (.iload 7, 2) := by decide +kernel
theorem dX6_read_74 : decode cX6_read 74 = .ok (.ifCond .eq 6, 3) := by decide +kernel
theorem dX6_read_77 : decode cX6_read 77 = .ok (.goto 72, 3) := by decide +kernel
theorem dX6_read_80 : decode cX6_read 80 = .ok (.aload 5, 2) := by decide +kernel
theorem dX6_read_82 : decode cX6_read 82 = .ok (.getfield 293, 3) := by decide +kernel
theorem dX6_read_85 : decode cX6_read 85 = .ok (.iload_n 3, 1) := by decide +kernel
theorem dX6_read_86 : decode cX6_read 86 = .ok (.iconst 2, 1) := by decide +kernel
theorem dX6_read_87 : decode cX6_read 87 = .ok (.iload 8, 2) := by decide +kernel
theorem dX6_read_89 : decode cX6_read 89 = .ok (.imul, 1) := by decide +kernel
theorem dX6_read_90 : decode cX6_read 90 = .ok (.iadd, 1) := by decide +kernel
theorem dX6_read_91 : decode cX6_read 91 = .ok (.iaload, 1) := by decide +kernel
theorem dX6_read_92 : decode cX6_read 92 = .ok (.istore 9, 2) := by decide +kernel
theorem dX6_read_94 : decode cX6_read 94 = .ok (.aload 5, 2) := by decide +kernel
theorem dX6_read_96 : decode cX6_read 96 = .ok (.getfield 293, 3) := by decide +kernel
theorem dX6_read_99 : decode cX6_read 99 = .ok (.iload_n 3, 1) := by decide +kernel
theorem dX6_read_100 : decode cX6_read 100 = .ok (.iconst 2, 1) := by decide +kernel
theorem dX6_read_101 : decode cX6_read 101 = .ok (.iload 8, 2) := by decide +kernel
theorem dX6_read_103 : decode cX6_read 103 = .ok (.imul, 1) := by decide +kernel
theorem dX6_read_104 : decode cX6_read 104 = .ok (.iadd, 1) := by decide +kernel
theorem dX6_read_105 : decode cX6_read 105 = .ok (.iconst 1, 1) := by decide +kernel
theorem dX6_read_106 : decode cX6_read 106 = .ok (.iadd, 1) := by decide +kernel
theorem dX6_read_107 : decode cX6_read 107 = .ok (.iaload, 1) := by decide +kernel
theorem dX6_read_108 : decode cX6_read 108 = .ok (.istore 10, 2) := by decide +kernel
theorem dX6_read_110 : decode cX6_read 110 = .ok (.iload 9, 2) := by decide +kernel
theorem dX6_read_112 : decode cX6_read 112 = .ok (.invokestatic 120, 3) := by decide +kernel
theorem dX6_read_115 : decode cX6_read 115 = .ok (.ifCond .eq 11, 3) := by decide +kernel
theorem dX6_read_118 : decode cX6_read 118 = .ok (.iload 10, 2) := by decide +kernel
theorem dX6_read_120 : decode cX6_read 120 = .ok (.invokestatic 154, 3) := by decide +kernel
theorem dX6_read_123 : decode cX6_read 123 = .ok (.ifCond .ne 9, 3) := by decide +kernel
theorem dX6_read_126 : decode cX6_read 126 = .ok (.bipush (-20), 2) := by decide +kernel
theorem dX6_read_128 : decode cX6_read 128 = .ok (.iload 8, 2) := by decide +kernel
theorem dX6_read_130 : decode cX6_read 130 = .ok (.isub, 1) := by decide +kernel
theorem dX6_read_131 : decode cX6_read 131 = .ok (.ireturn, 1) := by decide +kernel
theorem dX6_read_132 : decode cX6_read 132 = .ok (.iload 6, 2) := by decide +kernel
theorem dX6_read_134 : decode cX6_read 134 = .ok (.iload 9, 2) := by decide +kernel
theorem dX6_read_136 : decode cX6_read 136 = .ok (.iload 10, 2) := by decide +kernel
theorem dX6_read_138 : decode cX6_read 138 = .ok (.invokestatic 157, 3) := by decide +kernel
theorem dX6_read_141 : decode cX6_read 141 = .ok (.istore 6, 2) := by decide +kernel
theorem dX6_read_143 : decode cX6_read 143 = .ok (.iinc 8 1, 3) := by decide +kernel
theorem dX6_read_146 : decode cX6_read 146 = .ok (.goto (-95), 3) := by decide +kernel
theorem dX6_read_149 : decode cX6_read 149 = .ok (.aload_n 0, 1) := by decide +kernel
theorem dX6_read_150 : decode cX6_read 150 = .ok (.getfield 19, 3) := by decide +kernel
theorem dX6_read_153 : decode cX6_read 153 = .ok (.iload 6, 2) := by decide +kernel
theorem dX6_read_155 : decode cX6_read 155 = .ok (.putfield 105, 3) := by decide +kernel
theorem dX6_read_158 : decode cX6_read 158 = .ok (.aload_n 0, 1) := by decide +kernel
theorem dX6_read_159 : decode cX6_read 159 = .ok (.iload 7, 2) := by decide +kernel
theorem dX6_read_161 : decode cX6_read 161 = .ok (.putfield 64, 3) := by decide +kernel
theorem dX6_read_164 : decode cX6_read 164 = .ok (.iload 8, 2) := by decide +kernel
theorem dX6_read_166 : decode cX6_read 166 = .ok (.ireturn, 1) := by decide +kernel
theorem dX6_torn_0 : decode cX6_torn 0 = .ok (.aload_n 0, 1) := by decide +kernel
theorem dX6_torn_1 : decode cX6_torn 1 = .ok (.getfield 64, 3) := by decide +kernel
theorem dX6_torn_4 : decode cX6_torn 4 = .ok (.ireturn, 1) := by decide +kernel
set_option maxRecDepth 20000 in
theorem ggX6_count_X6_sumOf : GoodIn wsX6_count wsX6_sumOf := goodIn_r _ [17] (by decide +kernel) (by decide +kernel)
set_option maxRecDepth 20000 in
theorem gX6_count_X6_sumOf : GoodIn wsX6_count (va_wsS RX6 301 yX6_sumOf wsX6_sumOf) := goodIn_app (goodIn_of _ (by decide +kernel)) ggX6_count_X6_sumOf
theorem dX6_count_0 : decode cX6_count 0 = .ok (.iload_n 1, 1) := by decide +kernel
theorem dX6_count_1 : decode cX6_count 1 = .ok (.tableswitch 148 0 5 #[39, 47, 77, 85, 112, 130], 39) := by decide +kernel
theorem dX6_count_40 : decode cX6_count 40 = .ok (.aload_n 0, 1) := by decide +kernel
theorem dX6_count_41 : decode cX6_count 41 = .ok (.getfield 49, 3) := by decide +kernel
theorem dX6_count_44 : decode cX6_count 44 = .ok (.getfield 90, 3) := by decide +kernel
theorem dX6_count_47 : decode cX6_count 47 = .ok (.ireturn, 1) := by decide +kernel
theorem dX6_count_48 : decode cX6_count 48 = .ok (.aload_n 0, 1) := by decide +kernel
theorem dX6_count_49 : decode cX6_count 49 = .ok (.getfield 36, 3) := by decide +kernel
theorem dX6_count_52 : decode cX6_count 52 = .ok (.iconst 0, 1) := by decide +kernel
theorem dX6_count_53 : decode cX6_count 53 = .ok (.baload, 1) := by decide +kernel
theorem dX6_count_54 : decode cX6_count 54 = .ok (.ifCond .eq 7, 3) := by decide +kernel
theorem dX6_count_57 : decode cX6_count 57 = .ok (.iconst 1, 1) := by decide +kernel
theorem dX6_count_58 : decode cX6_count 58 = .ok (.goto 4, 3) := by decide +kernel
theorem dX6_count_61 : decode cX6_count 61 = .ok (.iconst 0, 1) := by decide +kernel
theorem dX6_count_62 : decode cX6_count 62 = .ok (.aload_n 0, 1) := by decide +kernel
theorem dX6_count_63 : decode cX6_count 63 = .ok (.getfield 36, 3) := by decide +kernel
theorem dX6_count_66 : decode cX6_count 66 = .ok (.iconst 1, 1) := by decide +kernel
theorem dX6_count_67 : decode cX6_count 67 = .ok (.baload, 1) := by decide +kernel
theorem dX6_count_68 : decode cX6_count 68 = .ok (.ifCond .eq 7, 3) := by decide +kernel
theorem dX6_count_71 : decode cX6_count 71 = .ok (.iconst 1, 1) := by decide +kernel
theorem dX6_count_72 : decode cX6_count 72 = .ok (.goto 4, 3) := by decide +kernel
theorem dX6_count_75 : decode cX6_count 75 = .ok (.iconst 0, 1) := by decide +kernel
theorem dX6_count_76 : decode cX6_count 76 = .ok (.iadd, 1) := by decide +kernel
theorem dX6_count_77 : decode cX6_count 77 = .ok (.ireturn, 1) := by decide +kernel
theorem dX6_count_78 : decode cX6_count 78 = .ok (.aload_n 0, 1) := by decide +kernel
theorem dX6_count_79 : decode cX6_count 79 = .ok (.getfield 10, 3) := by decide +kernel
theorem dX6_count_82 : decode cX6_count 82 = .ok (.getfield 72, 3) := by decide +kernel
theorem dX6_count_85 : decode cX6_count 85 = .ok (.ireturn, 1) := by decide +kernel
theorem dX6_count_86 : decode cX6_count 86 = .ok (.aload_n 0, 1) := by decide +kernel
theorem dX6_count_87 : decode cX6_count 87 = .ok (.getfield 42, 3) := by decide +kernel
theorem dX6_count_90 : decode cX6_count 90 = .ok (.iconst 0, 1) := by decide +kernel
theorem dX6_count_91 : decode cX6_count 91 = .ok (.aaload, 1) := by decide +kernel
theorem dX6_count_92 : decode cX6_count 92 = .ok (.getfield 296, 3) := by decide +kernel
theorem dX6_count_95 : decode cX6_count 95 = .ok (.ifCond .eq 15, 3) := by decide +kernel
theorem dX6_count_98 : decode cX6_count 98 = .ok (.aload_n 0, 1) := by decide +kernel
theorem dX6_count_99 : decode cX6_count 99 = .ok (.getfield 42, 3) := by decide +kernel
theorem dX6_count_102 : decode cX6_count 102 = .ok (.iconst 0, 1) := by decide +kernel
theorem dX6_count_103 : decode cX6_count 103 = .ok (.aaload, 1) := by decide +kernel
theorem dX6_count_104 : decode cX6_count 104 = .ok (.getfield 300, 3) := by decide +kernel
theorem dX6_count_107 : decode cX6_count 107 = .ok (.goto 5, 3) := by decide +kernel
theorem dX6_count_110 : decode cX6_count 110 = .ok (.bipush (-4), 2) := by decide +kernel
theorem dX6_count_112 : decode cX6_count 112 = .ok (.ireturn, 1) := by decide +kernel
theorem dX6_count_113 : decode cX6_count 113 = .ok (.aload_n 0, 1) := by decide +kernel
theorem dX6_count_114 : decode cX6_count 114 = .ok (.getfield 19, 3) := by decide +kernel
theorem dX6_count_117 : decode cX6_count 117 = .ok (.getfield 181, 3) := by decide +kernel
theorem dX6_count_120 : decode cX6_count 120 = .ok (.aload_n 0, 1) := by decide +kernel
theorem dX6_count_121 : decode cX6_count 121 = .ok (.getfield 19, 3) := by decide +kernel
theorem dX6_count_124 : decode cX6_count 124 = .ok (.getfield 96, 3) := by decide +kernel
theorem dX6_count_127 : decode cX6_count 127 = .ok (.invokestatic 301, 3) := by decide +kernel
theorem dX6_count_130 : decode cX6_count 130 = .ok (.ireturn, 1) := by decide +kernel
theorem dX6_count_131 : decode cX6_count 131 = .ok (.aload_n 0, 1) := by decide +kernel
theorem dX6_count_132 : decode cX6_count 132 = .ok (.getfield 19, 3) := by decide +kernel
theorem dX6_count_135 : decode cX6_count 135 = .ok (.getfield 305, 3) := by decide +kernel
theorem dX6_count_138 : decode cX6_count 138 = .ok (.aload_n 0, 1) := by decide +kernel
theorem dX6_count_139 : decode cX6_count 139 = .ok (.getfield 19, 3) := by decide +kernel
theorem dX6_count_142 : decode cX6_count 142 = .ok (.getfield 93, 3) := by decide +kernel
theorem dX6_count_145 : decode cX6_count 145 = .ok (.invokestatic 301, 3) := by decide +kernel
theorem dX6_count_148 : decode cX6_count 148 = .ok (.ireturn, 1) := by decide +kernel
theorem dX6_count_149 : decode cX6_count 149 = .ok (.iconst (-1), 1) := by decide +kernel
theorem dX6_count_150 : decode cX6_count 150 = .ok (.ireturn, 1) := by decide +kernel
theorem dX6_isPlot_0 : decode cX6_isPlot 0 = .ok (.iload_n 0, 1) := by decide +kernel
theorem dX6_isPlot_1 : decode cX6_isPlot 1 = .ok (.ifCond .lt 13, 3) := by decide +kernel
theorem dX6_isPlot_4 : decode cX6_isPlot 4 = .ok (.iload_n 0, 1) := by decide +kernel
theorem dX6_isPlot_5 : decode cX6_isPlot 5 = .ok (.bipush 16, 2) := by decide +kernel
theorem dX6_isPlot_7 : decode cX6_isPlot 7 = .ok (.if_icmp .ge 7, 3) := by decide +kernel
theorem dX6_isPlot_10 : decode cX6_isPlot 10 = .ok (.iconst 1, 1) := by decide +kernel
theorem dX6_isPlot_11 : decode cX6_isPlot 11 = .ok (.goto 4, 3) := by decide +kernel
theorem dX6_isPlot_14 : decode cX6_isPlot 14 = .ok (.iconst 0, 1) := by decide +kernel
theorem dX6_isPlot_15 : decode cX6_isPlot 15 = .ok (.ireturn, 1) := by decide +kernel
theorem dX6_isHedge_0 : decode cX6_isHedge 0 = .ok (.iload_n 0, 1) := by decide +kernel
theorem dX6_isHedge_1 : decode cX6_isHedge 1 = .ok (.ifCond .lt 13, 3) := by decide +kernel
theorem dX6_isHedge_4 : decode cX6_isHedge 4 = .ok (.iload_n 0, 1) := by decide +kernel
theorem dX6_isHedge_5 : decode cX6_isHedge 5 = .ok (.bipush 24, 2) := by decide +kernel
theorem dX6_isHedge_7 : decode cX6_isHedge 7 = .ok (.if_icmp .ge 7, 3) := by decide +kernel
theorem dX6_isHedge_10 : decode cX6_isHedge 10 = .ok (.iconst 1, 1) := by decide +kernel
theorem dX6_isHedge_11 : decode cX6_isHedge 11 = .ok (.goto 4, 3) := by decide +kernel
theorem dX6_isHedge_14 : decode cX6_isHedge 14 = .ok (.iconst 0, 1) := by decide +kernel
theorem dX6_isHedge_15 : decode cX6_isHedge 15 = .ok (.ireturn, 1) := by decide +kernel
theorem dX6_isFood_0 : decode cX6_isFood 0 = .ok (.iload_n 0, 1) := by decide +kernel
theorem dX6_isFood_1 : decode cX6_isFood 1 = .ok (.ifCond .lt 13, 3) := by decide +kernel
theorem dX6_isFood_4 : decode cX6_isFood 4 = .ok (.iload_n 0, 1) := by decide +kernel
theorem dX6_isFood_5 : decode cX6_isFood 5 = .ok (.bipush 60, 2) := by decide +kernel
theorem dX6_isFood_7 : decode cX6_isFood 7 = .ok (.if_icmp .gt 7, 3) := by decide +kernel
theorem dX6_isFood_10 : decode cX6_isFood 10 = .ok (.iconst 1, 1) := by decide +kernel
theorem dX6_isFood_11 : decode cX6_isFood 11 = .ok (.goto 4, 3) := by decide +kernel
theorem dX6_isFood_14 : decode cX6_isFood 14 = .ok (.iconst 0, 1) := by decide +kernel
theorem dX6_isFood_15 : decode cX6_isFood 15 = .ok (.ireturn, 1) := by decide +kernel
theorem dX6_isBit_0 : decode cX6_isBit 0 = .ok (.iload_n 0, 1) := by decide +kernel
theorem dX6_isBit_1 : decode cX6_isBit 1 = .ok (.ifCond .eq 8, 3) := by decide +kernel
theorem dX6_isBit_4 : decode cX6_isBit 4 = .ok (.iload_n 0, 1) := by decide +kernel
theorem dX6_isBit_5 : decode cX6_isBit 5 = .ok (.iconst 1, 1) := by decide +kernel
theorem dX6_isBit_6 : decode cX6_isBit 6 = .ok (.if_icmp .ne 7, 3) := by decide +kernel
theorem dX6_isBit_9 : decode cX6_isBit 9 = .ok (.iconst 1, 1) := by decide +kernel
theorem dX6_isBit_10 : decode cX6_isBit 10 = .ok (.goto 4, 3) := by decide +kernel
theorem dX6_isBit_13 : decode cX6_isBit 13 = .ok (.iconst 0, 1) := by decide +kernel
theorem dX6_isBit_14 : decode cX6_isBit 14 = .ok (.ireturn, 1) := by decide +kernel
theorem dX6_isAhead_0 : decode cX6_isAhead 0 = .ok (.iload_n 0, 1) := by decide +kernel
theorem dX6_isAhead_1 : decode cX6_isAhead 1 = .ok (.ifCond .lt 13, 3) := by decide +kernel
theorem dX6_isAhead_4 : decode cX6_isAhead 4 = .ok (.iload_n 0, 1) := by decide +kernel
theorem dX6_isAhead_5 : decode cX6_isAhead 5 = .ok (.bipush 60, 2) := by decide +kernel
theorem dX6_isAhead_7 : decode cX6_isAhead 7 = .ok (.if_icmp .gt 7, 3) := by decide +kernel
theorem dX6_isAhead_10 : decode cX6_isAhead 10 = .ok (.iconst 1, 1) := by decide +kernel
theorem dX6_isAhead_11 : decode cX6_isAhead 11 = .ok (.goto 4, 3) := by decide +kernel
theorem dX6_isAhead_14 : decode cX6_isAhead 14 = .ok (.iconst 0, 1) := by decide +kernel
theorem dX6_isAhead_15 : decode cX6_isAhead 15 = .ok (.ireturn, 1) := by decide +kernel
theorem dX6_isRainy_0 : decode cX6_isRainy 0 = .ok (.iload_n 0, 1) := by decide +kernel
theorem dX6_isRainy_1 : decode cX6_isRainy 1 = .ok (.ifCond .lt 13, 3) := by decide +kernel
theorem dX6_isRainy_4 : decode cX6_isRainy 4 = .ok (.iload_n 0, 1) := by decide +kernel
theorem dX6_isRainy_5 : decode cX6_isRainy 5 = .ok (.bipush 8, 2) := by decide +kernel
theorem dX6_isRainy_7 : decode cX6_isRainy 7 = .ok (.if_icmp .gt 7, 3) := by decide +kernel
theorem dX6_isRainy_10 : decode cX6_isRainy 10 = .ok (.iconst 1, 1) := by decide +kernel
theorem dX6_isRainy_11 : decode cX6_isRainy 11 = .ok (.goto 4, 3) := by decide +kernel
theorem dX6_isRainy_14 : decode cX6_isRainy 14 = .ok (.iconst 0, 1) := by decide +kernel
theorem dX6_isRainy_15 : decode cX6_isRainy 15 = .ok (.ireturn, 1) := by decide +kernel
theorem dX6_isTenths_0 : decode cX6_isTenths 0 = .ok (.iload_n 0, 1) := by decide +kernel
theorem dX6_isTenths_1 : decode cX6_isTenths 1 = .ok (.ifCond .lt 13, 3) := by decide +kernel
theorem dX6_isTenths_4 : decode cX6_isTenths 4 = .ok (.iload_n 0, 1) := by decide +kernel
theorem dX6_isTenths_5 : decode cX6_isTenths 5 = .ok (.bipush 10, 2) := by decide +kernel
theorem dX6_isTenths_7 : decode cX6_isTenths 7 = .ok (.if_icmp .gt 7, 3) := by decide +kernel
theorem dX6_isTenths_10 : decode cX6_isTenths 10 = .ok (.iconst 1, 1) := by decide +kernel
theorem dX6_isTenths_11 : decode cX6_isTenths 11 = .ok (.goto 4, 3) := by decide +kernel
theorem dX6_isTenths_14 : decode cX6_isTenths 14 = .ok (.iconst 0, 1) := by decide +kernel
theorem dX6_isTenths_15 : decode cX6_isTenths 15 = .ok (.ireturn, 1) := by decide +kernel
theorem dX6_isImage_0 : decode cX6_isImage 0 = .ok (.iload_n 0, 1) := by decide +kernel
theorem dX6_isImage_1 : decode cX6_isImage 1 = .ok (.ifCond .lt 12, 3) := by decide +kernel
theorem dX6_isImage_4 : decode cX6_isImage 4 = .ok (.iload_n 0, 1) := by decide +kernel
theorem dX6_isImage_5 : decode cX6_isImage 5 = .ok (.iconst 2, 1) := by decide +kernel
theorem dX6_isImage_6 : decode cX6_isImage 6 = .ok (.if_icmp .ge 7, 3) := by decide +kernel
theorem dX6_isImage_9 : decode cX6_isImage 9 = .ok (.iconst 1, 1) := by decide +kernel
theorem dX6_isImage_10 : decode cX6_isImage 10 = .ok (.goto 4, 3) := by decide +kernel
theorem dX6_isImage_13 : decode cX6_isImage 13 = .ok (.iconst 0, 1) := by decide +kernel
theorem dX6_isImage_14 : decode cX6_isImage 14 = .ok (.ireturn, 1) := by decide +kernel
theorem dX6_isSheet_0 : decode cX6_isSheet 0 = .ok (.iload_n 0, 1) := by decide +kernel
theorem dX6_isSheet_1 : decode cX6_isSheet 1 = .ok (.ifCond .lt 12, 3) := by decide +kernel
theorem dX6_isSheet_4 : decode cX6_isSheet 4 = .ok (.iload_n 0, 1) := by decide +kernel
theorem dX6_isSheet_5 : decode cX6_isSheet 5 = .ok (.iconst 4, 1) := by decide +kernel
theorem dX6_isSheet_6 : decode cX6_isSheet 6 = .ok (.if_icmp .ge 7, 3) := by decide +kernel
theorem dX6_isSheet_9 : decode cX6_isSheet 9 = .ok (.iconst 1, 1) := by decide +kernel
theorem dX6_isSheet_10 : decode cX6_isSheet 10 = .ok (.goto 4, 3) := by decide +kernel
theorem dX6_isSheet_13 : decode cX6_isSheet 13 = .ok (.iconst 0, 1) := by decide +kernel
theorem dX6_isSheet_14 : decode cX6_isSheet 14 = .ok (.ireturn, 1) := by decide +kernel
theorem dX6_isLane_0 : decode cX6_isLane 0 = .ok (.iload_n 0, 1) := by decide +kernel
theorem dX6_isLane_1 : decode cX6_isLane 1 = .ok (.ifCond .lt 12, 3) := by decide +kernel
theorem dX6_isLane_4 : decode cX6_isLane 4 = .ok (.iload_n 0, 1) := by decide +kernel
theorem dX6_isLane_5 : decode cX6_isLane 5 = .ok (.iconst 2, 1) := by decide +kernel
theorem dX6_isLane_6 : decode cX6_isLane 6 = .ok (.if_icmp .gt 7, 3) := by decide +kernel
theorem dX6_isLane_9 : decode cX6_isLane 9 = .ok (.iconst 1, 1) := by decide +kernel
theorem dX6_isLane_10 : decode cX6_isLane 10 = .ok (.goto 4, 3) := by decide +kernel
theorem dX6_isLane_13 : decode cX6_isLane 13 = .ok (.iconst 0, 1) := by decide +kernel
theorem dX6_isLane_14 : decode cX6_isLane 14 = .ok (.ireturn, 1) := by decide +kernel
theorem dX6_isGardener_0 : decode cX6_isGardener 0 = .ok (.iload_n 1, 1) := by decide +kernel
theorem dX6_isGardener_1 : decode cX6_isGardener 1 = .ok (.ifCond .lt 18, 3) := by decide +kernel
theorem dX6_isGardener_4 : decode cX6_isGardener 4 = .ok (.iload_n 1, 1) := by decide +kernel
theorem dX6_isGardener_5 : decode cX6_isGardener 5 = .ok (.aload_n 0, 1) := by decide +kernel
theorem dX6_isGardener_6 : decode cX6_isGardener 6 = .ok (.getfield 19, 3) := by decide +kernel
theorem dX6_isGardener_9 : decode cX6_isGardener 9 = .ok (.getfield 93, 3) := by decide +kernel
theorem dX6_isGardener_12 : decode cX6_isGardener 12 = .ok (.if_icmp .ge 7, 3) := by decide +kernel
theorem dX6_isGardener_15 : decode cX6_isGardener 15 = .ok (.iconst 1, 1) := by decide +kernel
theorem dX6_isGardener_16 : decode cX6_isGardener 16 = .ok (.goto 4, 3) := by decide +kernel
theorem dX6_isGardener_19 : decode cX6_isGardener 19 = .ok (.iconst 0, 1) := by decide +kernel
theorem dX6_isGardener_20 : decode cX6_isGardener 20 = .ok (.ireturn, 1) := by decide +kernel
theorem dX6_isGuest_0 : decode cX6_isGuest 0 = .ok (.iload_n 1, 1) := by decide +kernel
theorem dX6_isGuest_1 : decode cX6_isGuest 1 = .ok (.ifCond .lt 18, 3) := by decide +kernel
theorem dX6_isGuest_4 : decode cX6_isGuest 4 = .ok (.iload_n 1, 1) := by decide +kernel
theorem dX6_isGuest_5 : decode cX6_isGuest 5 = .ok (.aload_n 0, 1) := by decide +kernel
theorem dX6_isGuest_6 : decode cX6_isGuest 6 = .ok (.getfield 19, 3) := by decide +kernel
theorem dX6_isGuest_9 : decode cX6_isGuest 9 = .ok (.getfield 96, 3) := by decide +kernel
theorem dX6_isGuest_12 : decode cX6_isGuest 12 = .ok (.if_icmp .ge 7, 3) := by decide +kernel
theorem dX6_isGuest_15 : decode cX6_isGuest 15 = .ok (.iconst 1, 1) := by decide +kernel
theorem dX6_isGuest_16 : decode cX6_isGuest 16 = .ok (.goto 4, 3) := by decide +kernel
theorem dX6_isGuest_19 : decode cX6_isGuest 19 = .ok (.iconst 0, 1) := by decide +kernel
theorem dX6_isGuest_20 : decode cX6_isGuest 20 = .ok (.ireturn, 1) := by decide +kernel
theorem dX6_sumOf_0 : decode cX6_sumOf 0 = .ok (.iconst 0, 1) := by decide +kernel
theorem dX6_sumOf_1 : decode cX6_sumOf 1 = .ok (.istore_n 2, 1) := by decide +kernel
theorem dX6_sumOf_2 : decode cX6_sumOf 2 = .ok (.iconst 0, 1) := by decide +kernel
theorem dX6_sumOf_3 : decode cX6_sumOf 3 = .ok (.istore_n 3, 1) := by decide +kernel
theorem dX6_sumOf_4 : decode cX6_sumOf 4 = .ok (.iload_n 3, 1) := by decide +kernel
theorem dX6_sumOf_5 : decode cX6_sumOf 5 = .ok (.iload_n 1, 1) := by decide +kernel
theorem dX6_sumOf_6 : decode cX6_sumOf 6 = .ok (.if_icmp .ge 21, 3) := by decide +kernel
theorem dX6_sumOf_9 : decode cX6_sumOf 9 = .ok (.iload_n 3, 1) := by decide +kernel
theorem dX6_sumOf_10 : decode cX6_sumOf 10 = .ok (.aload_n 0, 1) := by decide +kernel
theorem dX6_sumOf_11 : decode cX6_sumOf 11 = .ok (.arraylength, 1) := by decide +kernel
theorem dX6_sumOf_12 : decode cX6_sumOf 12 = .ok (.if_icmp .ge 15, 3) := by decide +kernel
theorem dX6_sumOf_15 : decode cX6_sumOf 15 = .ok (.iload_n 2, 1) := by decide +kernel
theorem dX6_sumOf_16 : decode cX6_sumOf 16 = .ok (.aload_n 0, 1) := by decide +kernel
theorem dX6_sumOf_17 : decode cX6_sumOf 17 = .ok (.iload_n 3, 1) := by decide +kernel
theorem dX6_sumOf_18 : decode cX6_sumOf 18 = .ok (.iaload, 1) := by decide +kernel
theorem dX6_sumOf_19 : decode cX6_sumOf 19 = .ok (.iadd, 1) := by decide +kernel
theorem dX6_sumOf_20 : decode cX6_sumOf 20 = .ok (.istore_n 2, 1) := by decide +kernel
theorem dX6_sumOf_21 : decode cX6_sumOf 21 = .ok (.iinc 3 1, 3) := by decide +kernel
theorem dX6_sumOf_24 : decode cX6_sumOf 24 = .ok (.goto (-20), 3) := by decide +kernel
theorem dX6_sumOf_27 : decode cX6_sumOf 27 = .ok (.iload_n 2, 1) := by decide +kernel
theorem dX6_sumOf_28 : decode cX6_sumOf 28 = .ok (.ireturn, 1) := by decide +kernel
set_option maxRecDepth 20000 in
theorem ggX6_outsAsItIs_X1_become : GoodIn wsX6_outsAsItIs wsX1_become := goodIn_r _ [7, 8, 9, 10, 11, 12, 13, 14, 15, 16, 17, 18, 19, 97, 98, 99, 100, 101, 102, 103, 104, 105, 106, 107, 108] (by decide +kernel) (by decide +kernel)
set_option maxRecDepth 20000 in
theorem gX6_outsAsItIs_X1_become : GoodIn wsX6_outsAsItIs (wsV RX6 86 RX1 yX1_become wsX1_become) := goodIn_app (goodIn_of _ (by decide +kernel)) ggX6_outsAsItIs_X1_become
set_option maxRecDepth 20000 in
theorem ggX6_outsAsItIs_X1_outsBehind : GoodIn wsX6_outsAsItIs wsX1_outsBehind := goodIn_r _ [23, 24, 25, 26, 6, 27, 12, 28, 29, 30, 31, 13, 19, 32, 33, 34, 35, 11, 36, 37, 38, 39, 8, 10, 15, 16, 40, 41, 42, 43, 14, 44, 45, 46, 47, 48, 49, 50, 51, 52, 53, 54, 55, 56, 57, 58, 59, 60, 61, 62, 63, 18, 17, 9, 64, 65, 66, 67, 68, 69, 70, 71, 72, 73, 74, 75, 76, 77, 78, 79, 80, 81, 82, 83, 84, 97, 98, 99, 100, 101, 102, 103, 104, 105, 106, 107, 108] (by decide +kernel) (by decide +kernel)
set_option maxRecDepth 20000 in
theorem gX6_outsAsItIs_X1_outsBehind : GoodIn wsX6_outsAsItIs (wsV RX6 215 RX1 yX1_outsBehind wsX1_outsBehind) := goodIn_app (goodIn_of _ (by decide +kernel)) ggX6_outsAsItIs_X1_outsBehind
theorem dX6_outsAsItIs_0 : decode cX6_outsAsItIs 0 = .ok (.aload_n 0, 1) := by decide +kernel
theorem dX6_outsAsItIs_1 : decode cX6_outsAsItIs 1 = .ok (.getfield 23, 3) := by decide +kernel
theorem dX6_outsAsItIs_4 : decode cX6_outsAsItIs 4 = .ok (.aload_n 0, 1) := by decide +kernel
theorem dX6_outsAsItIs_5 : decode cX6_outsAsItIs 5 = .ok (.getfield 19, 3) := by decide +kernel
theorem dX6_outsAsItIs_8 : decode cX6_outsAsItIs 8 = .ok (.invokevirtual 86, 3) := by decide +kernel
theorem dX6_outsAsItIs_11 : decode cX6_outsAsItIs 11 = .ok (.aload_n 0, 1) := by decide +kernel
theorem dX6_outsAsItIs_12 : decode cX6_outsAsItIs 12 = .ok (.getfield 23, 3) := by decide +kernel
theorem dX6_outsAsItIs_15 : decode cX6_outsAsItIs 15 = .ok (.iload_n 1, 1) := by decide +kernel
theorem dX6_outsAsItIs_16 : decode cX6_outsAsItIs 16 = .ok (.invokevirtual 215, 3) := by decide +kernel
theorem dX6_outsAsItIs_19 : decode cX6_outsAsItIs 19 = .ok (.ireturn, 1) := by decide +kernel
set_option maxRecDepth 20000 in
theorem ggX6_daysTillOut_X1_passDays : GoodIn wsX6_daysTillOut wsX1_passDays := goodIn_r _ [7, 8, 9, 10, 11, 6, 12, 13, 14, 15, 16, 17, 18, 19, 20, 21, 22, 23, 24, 25, 26, 27, 28, 29, 30, 31, 32, 33, 34, 35, 36, 37, 38, 39, 40, 41, 42, 43, 44, 45, 46, 47, 48, 49, 50, 51, 52, 53, 54, 55, 56, 57, 58, 71, 72, 73, 74, 75, 76, 77, 78, 79, 80, 81, 82] (by decide +kernel) (by decide +kernel)
set_option maxRecDepth 20000 in
theorem gX6_daysTillOut_X1_passDays : GoodIn wsX6_daysTillOut (wsV RX6 188 RX1 yX1_passDays wsX1_passDays) := goodIn_app (goodIn_of _ (by decide +kernel)) ggX6_daysTillOut_X1_passDays
theorem dX6_daysTillOut_0 : decode cX6_daysTillOut 0 = .ok (.iconst 0, 1) := by decide +kernel
theorem dX6_daysTillOut_1 : decode cX6_daysTillOut 1 = .ok (.istore_n 2, 1) := by decide +kernel
theorem dX6_daysTillOut_2 : decode cX6_daysTillOut 2 = .ok (.iload_n 2, 1) := by decide +kernel
theorem dX6_daysTillOut_3 : decode cX6_daysTillOut 3 = .ok (.bipush 60, 2) := by decide +kernel
theorem dX6_daysTillOut_5 : decode cX6_daysTillOut 5 = .ok (.if_icmp .gt 32, 3) := by decide +kernel
theorem dX6_daysTillOut_8 : decode cX6_daysTillOut 8 = .ok (.aload_n 0, 1) := by decide +kernel
theorem dX6_daysTillOut_9 : decode cX6_daysTillOut 9 = .ok (.getfield 23, 3) := by decide +kernel
theorem dX6_daysTillOut_12 : decode cX6_daysTillOut 12 = .ok (.getfield 178, 3) := by decide +kernel
theorem dX6_daysTillOut_15 : decode cX6_daysTillOut 15 = .ok (.iload_n 1, 1) := by decide +kernel
theorem dX6_daysTillOut_16 : decode cX6_daysTillOut 16 = .ok (.iaload, 1) := by decide +kernel
theorem dX6_daysTillOut_17 : decode cX6_daysTillOut 17 = .ok (.iconst 1, 1) := by decide +kernel
theorem dX6_daysTillOut_18 : decode cX6_daysTillOut 18 = .ok (.if_icmp .ne 5, 3) := by decide +kernel
theorem dX6_daysTillOut_21 : decode cX6_daysTillOut 21 = .ok (.iload_n 2, 1) := by decide +kernel
theorem dX6_daysTillOut_22 : decode cX6_daysTillOut 22 = .ok (.ireturn, 1) := by decide +kernel
theorem dX6_daysTillOut_23 : decode cX6_daysTillOut 23 = .ok (.aload_n 0, 1) := by decide +kernel
theorem dX6_daysTillOut_24 : decode cX6_daysTillOut 24 = .ok (.getfield 23, 3) := by decide +kernel
theorem dX6_daysTillOut_27 : decode cX6_daysTillOut 27 = .ok (.iconst 1, 1) := by decide +kernel
theorem dX6_daysTillOut_28 : decode cX6_daysTillOut 28 = .ok (.invokevirtual 188, 3) := by decide +kernel
theorem dX6_daysTillOut_31 : decode cX6_daysTillOut 31 = .ok (.iinc 2 1, 3) := by decide +kernel
theorem dX6_daysTillOut_34 : decode cX6_daysTillOut 34 = .ok (.goto (-32), 3) := by decide +kernel
theorem dX6_daysTillOut_37 : decode cX6_daysTillOut 37 = .ok (.bipush (-4), 2) := by decide +kernel
theorem dX6_daysTillOut_39 : decode cX6_daysTillOut 39 = .ok (.ireturn, 1) := by decide +kernel
set_option maxRecDepth 20000 in
theorem ggX6_isTasteAsSeen_X1_become : GoodIn wsX6_isTasteAsSeen wsX1_become := goodIn_r _ [9, 10, 11, 12, 13, 14, 15, 16, 17, 18, 19, 20, 21, 73, 74, 75, 76, 77, 78, 79, 80, 81, 82, 83, 84] (by decide +kernel) (by decide +kernel)
set_option maxRecDepth 20000 in
theorem gX6_isTasteAsSeen_X1_become : GoodIn wsX6_isTasteAsSeen (wsV RX6 86 RX1 yX1_become wsX1_become) := goodIn_app (goodIn_of _ (by decide +kernel)) ggX6_isTasteAsSeen_X1_become
set_option maxRecDepth 20000 in
theorem ggX6_isTasteAsSeen_X4_fits : GoodIn wsX6_isTasteAsSeen wsX4_fits := goodIn_r _ [26, 27, 28, 29, 30, 31, 32, 33, 34, 35, 8, 36, 13, 37, 38, 39, 40, 10, 12, 17, 18, 41, 42, 43, 44, 14, 45, 46, 47, 48, 16, 49, 50, 51, 52, 53, 54, 55, 56, 57, 58, 59, 60, 85, 86, 87, 88, 89, 90, 73, 74, 75, 76, 77, 78, 79, 80, 81, 82, 83, 84] (by decide +kernel) (by decide +kernel)
set_option maxRecDepth 20000 in
theorem gX6_isTasteAsSeen_X4_fits : GoodIn wsX6_isTasteAsSeen (wsV RX6 248 RX4 yX4_fits wsX4_fits) := goodIn_app (goodIn_of _ (by decide +kernel)) ggX6_isTasteAsSeen_X4_fits
theorem dX6_isTasteAsSeen_0 : decode cX6_isTasteAsSeen 0 = .ok (.aload_n 0, 1) := by decide +kernel
theorem dX6_isTasteAsSeen_1 : decode cX6_isTasteAsSeen 1 = .ok (.getfield 23, 3) := by decide +kernel
theorem dX6_isTasteAsSeen_4 : decode cX6_isTasteAsSeen 4 = .ok (.aload_n 0, 1) := by decide +kernel
theorem dX6_isTasteAsSeen_5 : decode cX6_isTasteAsSeen 5 = .ok (.getfield 19, 3) := by decide +kernel
theorem dX6_isTasteAsSeen_8 : decode cX6_isTasteAsSeen 8 = .ok (.invokevirtual 86, 3) := by decide +kernel
theorem dX6_isTasteAsSeen_11 : decode cX6_isTasteAsSeen 11 = .ok (.aload_n 0, 1) := by decide +kernel
theorem dX6_isTasteAsSeen_12 : decode cX6_isTasteAsSeen 12 = .ok (.getfield 23, 3) := by decide +kernel
theorem dX6_isTasteAsSeen_15 : decode cX6_isTasteAsSeen 15 = .ok (.getfield 308, 3) := by decide +kernel
theorem dX6_isTasteAsSeen_18 : decode cX6_isTasteAsSeen 18 = .ok (.iload_n 1, 1) := by decide +kernel
theorem dX6_isTasteAsSeen_19 : decode cX6_isTasteAsSeen 19 = .ok (.iload_n 2, 1) := by decide +kernel
theorem dX6_isTasteAsSeen_20 : decode cX6_isTasteAsSeen 20 = .ok (.iastore, 1) := by decide +kernel
theorem dX6_isTasteAsSeen_21 : decode cX6_isTasteAsSeen 21 = .ok (.aload_n 0, 1) := by decide +kernel
theorem dX6_isTasteAsSeen_22 : decode cX6_isTasteAsSeen 22 = .ok (.getfield 49, 3) := by decide +kernel
theorem dX6_isTasteAsSeen_25 : decode cX6_isTasteAsSeen 25 = .ok (.aload_n 0, 1) := by decide +kernel
theorem dX6_isTasteAsSeen_26 : decode cX6_isTasteAsSeen 26 = .ok (.getfield 23, 3) := by decide +kernel
theorem dX6_isTasteAsSeen_29 : decode cX6_isTasteAsSeen 29 = .ok (.invokevirtual 248, 3) := by decide +kernel
theorem dX6_isTasteAsSeen_32 : decode cX6_isTasteAsSeen 32 = .ok (.ireturn, 1) := by decide +kernel
set_option maxRecDepth 20000 in
theorem ggX6_chance_X1_become : GoodIn wsX6_chance wsX1_become := goodIn_r _ [9, 10, 11, 12, 13, 14, 15, 16, 17, 18, 19, 20, 21, 98, 99, 100, 101, 102, 103, 104, 105, 106, 107, 108, 109] (by decide +kernel) (by decide +kernel)
set_option maxRecDepth 20000 in
theorem gX6_chance_X1_become : GoodIn wsX6_chance (wsV RX6 86 RX1 yX1_become wsX1_become) := goodIn_app (goodIn_of _ (by decide +kernel)) ggX6_chance_X1_become
set_option maxRecDepth 20000 in
theorem ggX6_chance_X6_weightOfOuts : GoodIn wsX6_chance wsX6_weightOfOuts := goodIn_r _ [25, 26, 27, 28, 8, 29, 15, 21, 30, 31, 32, 33, 34, 35, 36, 5, 6, 7, 9, 10, 11, 12, 13, 14, 16, 17, 18, 19, 20, 37, 38, 39, 40, 41, 42, 43, 44, 45, 46, 47, 48, 49, 50, 51, 52, 53, 54, 55, 22, 23, 24, 56, 57, 58, 59, 60, 61, 62, 63, 64, 65, 66, 67, 68, 69, 70, 71, 72, 73, 74, 75, 76, 77, 78, 79, 80, 81, 82, 98, 99, 100, 101, 102, 103, 104, 105, 106, 107, 108, 109] (by decide +kernel) (by decide +kernel)
set_option maxRecDepth 20000 in
theorem gX6_chance_X6_weightOfOuts : GoodIn wsX6_chance (va_wsS RX6 311 yX6_weightOfOuts wsX6_weightOfOuts) := goodIn_app (goodIn_of _ (by decide +kernel)) ggX6_chance_X6_weightOfOuts
set_option maxRecDepth 20000 in
theorem ggX6_chance_X6_commonDivisor : GoodIn wsX6_chance wsX6_commonDivisor := goodIn_r _ [85] (by decide +kernel) (by decide +kernel)
set_option maxRecDepth 20000 in
theorem gX6_chance_X6_commonDivisor : GoodIn wsX6_chance (va_wsS RX6 317 yX6_commonDivisor wsX6_commonDivisor) := goodIn_app (goodIn_of _ (by decide +kernel)) ggX6_chance_X6_commonDivisor
theorem dX6_chance_0 : decode cX6_chance 0 = .ok (.aload_n 0, 1) := by decide +kernel
theorem dX6_chance_1 : decode cX6_chance 1 = .ok (.getfield 29, 3) := by decide +kernel
theorem dX6_chance_4 : decode cX6_chance 4 = .ok (.iconst 0, 1) := by decide +kernel
theorem dX6_chance_5 : decode cX6_chance 5 = .ok (.aaload, 1) := by decide +kernel
theorem dX6_chance_6 : decode cX6_chance 6 = .ok (.aload_n 0, 1) := by decide +kernel
theorem dX6_chance_7 : decode cX6_chance 7 = .ok (.getfield 19, 3) := by decide +kernel
theorem dX6_chance_10 : decode cX6_chance 10 = .ok (.invokevirtual 86, 3) := by decide +kernel
theorem dX6_chance_13 : decode cX6_chance 13 = .ok (.aload_n 0, 1) := by decide +kernel
theorem dX6_chance_14 : decode cX6_chance 14 = .ok (.getfield 29, 3) := by decide +kernel
theorem dX6_chance_17 : decode cX6_chance 17 = .ok (.iconst 0, 1) := by decide +kernel
theorem dX6_chance_18 : decode cX6_chance 18 = .ok (.iload_n 3, 1) := by decide +kernel
theorem dX6_chance_19 : decode cX6_chance 19 = .ok (.iload_n 1, 1) := by decide +kernel
theorem dX6_chance_20 : decode cX6_chance 20 = .ok (.iload_n 2, 1) := by decide +kernel
theorem dX6_chance_21 : decode cX6_chance 21 = .ok (.invokestatic 311, 3) := by decide +kernel
theorem dX6_chance_24 : decode cX6_chance 24 = .ok (.lstore 5, 2) := by decide +kernel
theorem dX6_chance_26 : decode cX6_chance 26 = .ok (.lconst 1, 1) := by decide +kernel
theorem dX6_chance_27 : decode cX6_chance 27 = .ok (.lstore 7, 2) := by decide +kernel
theorem dX6_chance_29 : decode cX6_chance 29 = .ok (.iconst 0, 1) := by decide +kernel
theorem dX6_chance_30 : decode cX6_chance 30 = .ok (.istore 9, 2) := by decide +kernel
theorem dX6_chance_32 : decode cX6_chance 32 = .ok (.iload 9, 2) := by decide +kernel
theorem dX6_chance_34 : decode cX6_chance 34 = .ok (.iload_n 3, 1) := by decide +kernel
theorem dX6_chance_35 : decode cX6_chance 35 = .ok (.if_icmp .ge 17, 3) := by decide +kernel
theorem dX6_chance_38 : decode cX6_chance 38 = .ok (.lload 7, 2) := by decide +kernel
theorem dX6_chance_40 : decode cX6_chance 40 = .ok (.ldc2_w 315, 3) := by decide +kernel
theorem dX6_chance_43 : decode cX6_chance 43 = .ok (.lmul, 1) := by decide +kernel
theorem dX6_chance_44 : decode cX6_chance 44 = .ok (.lstore 7, 2) := by decide +kernel
theorem dX6_chance_46 : decode cX6_chance 46 = .ok (.iinc 9 1, 3) := by decide +kernel
theorem dX6_chance_49 : decode cX6_chance 49 = .ok (.goto (-17), 3) := by decide +kernel
theorem dX6_chance_52 : decode cX6_chance 52 = .ok (.lload 5, 2) := by decide +kernel
theorem dX6_chance_54 : decode cX6_chance 54 = .ok (.lload 7, 2) := by decide +kernel
theorem dX6_chance_56 : decode cX6_chance 56 = .ok (.invokestatic 317, 3) := by decide +kernel
theorem dX6_chance_59 : decode cX6_chance 59 = .ok (.lstore 9, 2) := by decide +kernel
theorem dX6_chance_61 : decode cX6_chance 61 = .ok (.lload 9, 2) := by decide +kernel
theorem dX6_chance_63 : decode cX6_chance 63 = .ok (.lconst 0, 1) := by decide +kernel
theorem dX6_chance_64 : decode cX6_chance 64 = .ok (.lcmp, 1) := by decide +kernel
theorem dX6_chance_65 : decode cX6_chance 65 = .ok (.ifCond .gt 7, 3) := by decide +kernel
theorem dX6_chance_68 : decode cX6_chance 68 = .ok (.ldc2_w 239, 3) := by decide +kernel
theorem dX6_chance_71 : decode cX6_chance 71 = .ok (.lreturn, 1) := by decide +kernel
theorem dX6_chance_72 : decode cX6_chance 72 = .ok (.iload 4, 2) := by decide +kernel
theorem dX6_chance_74 : decode cX6_chance 74 = .ok (.ifCond .ne 8, 3) := by decide +kernel
theorem dX6_chance_77 : decode cX6_chance 77 = .ok (.lload 5, 2) := by decide +kernel
theorem dX6_chance_79 : decode cX6_chance 79 = .ok (.goto 5, 3) := by decide +kernel
theorem dX6_chance_82 : decode cX6_chance 82 = .ok (.lload 7, 2) := by decide +kernel
theorem dX6_chance_84 : decode cX6_chance 84 = .ok (.lload 9, 2) := by decide +kernel
theorem dX6_chance_86 : decode cX6_chance 86 = .ok (.ldiv, 1) := by decide +kernel
theorem dX6_chance_87 : decode cX6_chance 87 = .ok (.lreturn, 1) := by decide +kernel
set_option maxRecDepth 20000 in
theorem ggX6_weightOfOuts_X1_whoIs : GoodIn wsX6_weightOfOuts wsX1_whoIs := goodIn_r _ [5, 6, 7, 78, 79, 80, 81, 82, 83, 84, 85, 86, 87, 88, 89] (by decide +kernel) (by decide +kernel)
set_option maxRecDepth 20000 in
theorem gX6_weightOfOuts_X1_whoIs : GoodIn wsX6_weightOfOuts (wsV RX6 114 RX1 yX1_whoIs wsX1_whoIs) := goodIn_app (goodIn_of _ (by decide +kernel)) ggX6_weightOfOuts_X1_whoIs
set_option maxRecDepth 20000 in
theorem ggX6_weightOfOuts_J6_bitCount_0f7a4 : GoodIn wsX6_weightOfOuts wsJ6_bitCount_0f7a4 := goodIn_r _ [11, 12, 13, 14] (by decide +kernel) (by decide +kernel)
set_option maxRecDepth 20000 in
theorem gX6_weightOfOuts_J6_bitCount_0f7a4 : GoodIn wsX6_weightOfOuts (va_wsS RX6 108 yJ6_bitCount_0f7a4 wsJ6_bitCount_0f7a4) := goodIn_app (goodIn_of _ (by decide +kernel)) ggX6_weightOfOuts_J6_bitCount_0f7a4
set_option maxRecDepth 20000 in
theorem ggX6_weightOfOuts_X1_become : GoodIn wsX6_weightOfOuts wsX1_become := goodIn_r _ [18, 19, 20, 21, 22, 23, 6, 24, 25, 26, 27, 28, 7, 78, 79, 80, 81, 82, 83, 84, 85, 86, 87, 88, 89] (by decide +kernel) (by decide +kernel)
set_option maxRecDepth 20000 in
theorem gX6_weightOfOuts_X1_become : GoodIn wsX6_weightOfOuts (wsV RX6 86 RX1 yX1_become wsX1_become) := goodIn_app (goodIn_of _ (by decide +kernel)) ggX6_weightOfOuts_X1_become
set_option maxRecDepth 20000 in
theorem ggX6_weightOfOuts_X1_passDayOfGuests : GoodIn wsX6_weightOfOuts wsX1_passDayOfGuests := goodIn_r _ [32, 22, 33, 34, 35, 4, 36, 6, 7, 28, 27, 19, 20, 37, 38, 39, 40, 41, 42, 43, 44, 45, 10, 46, 47, 78, 79, 80, 81, 82, 83, 84, 85, 86, 87, 88, 89] (by decide +kernel) (by decide +kernel)
set_option maxRecDepth 20000 in
theorem gX6_weightOfOuts_X1_passDayOfGuests : GoodIn wsX6_weightOfOuts (wsV RX6 321 RX1 yX1_passDayOfGuests wsX1_passDayOfGuests) := goodIn_app (goodIn_of _ (by decide +kernel)) ggX6_weightOfOuts_X1_passDayOfGuests
set_option maxRecDepth 20000 in
theorem ggX6_weightOfOuts_X6_weightOfOuts : GoodIn wsX6_weightOfOuts wsX6_weightOfOuts := goodIn_r _ [0, 1, 2, 3, 4, 5, 6, 7, 8, 9, 10, 11, 12, 13, 14, 15, 16, 17, 18, 19, 20, 21, 22, 23, 24, 25, 26, 27, 28, 29, 30, 31, 32, 33, 34, 35, 36, 37, 38, 39, 40, 41, 42, 43, 44, 45, 46, 47, 48, 49, 50, 51, 52, 53, 54, 55, 56, 57, 58, 59, 60, 61, 62, 63, 64, 65, 66, 67, 68, 69, 70, 71, 72, 73, 74, 75, 76, 77, 78, 79, 80, 81, 82, 83, 84, 85, 86, 87, 88, 89] (by decide +kernel) (by decide +kernel)
set_option maxRecDepth 20000 in
theorem gX6_weightOfOuts_X6_weightOfOuts : GoodIn wsX6_weightOfOuts (va_wsS RX6 311 yX6_weightOfOuts wsX6_weightOfOuts) := goodIn_app (goodIn_of _ (by decide +kernel)) ggX6_weightOfOuts_X6_weightOfOuts
set_option maxRecDepth 20000 in
theorem ggX6_weightOfOuts_X1_passDays : GoodIn wsX6_weightOfOuts wsX1_passDays := goodIn_r _ [54, 22, 55, 56, 57, 4, 58, 19, 21, 25, 26, 59, 60, 61, 62, 23, 63, 64, 65, 66, 24, 67, 68, 69, 70, 71, 72, 73, 74, 75, 76, 39, 77, 33, 34, 35, 36, 6, 7, 28, 27, 20, 37, 38, 40, 41, 42, 43, 44, 45, 10, 46, 47, 78, 79, 80, 81, 82, 83, 84, 85, 86, 87, 88, 89] (by decide +kernel) (by decide +kernel)
set_option maxRecDepth 20000 in
theorem gX6_weightOfOuts_X1_passDays : GoodIn wsX6_weightOfOuts (wsV RX6 188 RX1 yX1_passDays wsX1_passDays) := goodIn_app (goodIn_of _ (by decide +kernel)) ggX6_weightOfOuts_X1_passDays
theorem dX6_weightOfOuts_0 : decode cX6_weightOfOuts 0 = .ok (.iload_n 1, 1) := by decide +kernel
theorem dX6_weightOfOuts_1 : decode cX6_weightOfOuts 1 = .ok (.iload_n 2, 1) := by decide +kernel
theorem dX6_weightOfOuts_2 : decode cX6_weightOfOuts 2 = .ok (.if_icmp .ge 11, 3) := by decide +kernel
theorem dX6_weightOfOuts_5 : decode cX6_weightOfOuts 5 = .ok (.iload_n 1, 1) := by decide +kernel
theorem dX6_weightOfOuts_6 : decode cX6_weightOfOuts 6 = .ok (.iconst 1, 1) := by decide +kernel
theorem dX6_weightOfOuts_7 : decode cX6_weightOfOuts 7 = .ok (.iadd, 1) := by decide +kernel
theorem dX6_weightOfOuts_8 : decode cX6_weightOfOuts 8 = .ok (.aload_n 0, 1) := by decide +kernel
theorem dX6_weightOfOuts_9 : decode cX6_weightOfOuts 9 = .ok (.arraylength, 1) := by decide +kernel
theorem dX6_weightOfOuts_10 : decode cX6_weightOfOuts 10 = .ok (.if_icmp .lt 18, 3) := by decide +kernel
theorem dX6_weightOfOuts_13 : decode cX6_weightOfOuts 13 = .ok (.aload_n 0, 1) := by decide +kernel
theorem dX6_weightOfOuts_14 : decode cX6_weightOfOuts 14 = .ok (.iload_n 1, 1) := by decide +kernel
theorem dX6_weightOfOuts_15 : decode cX6_weightOfOuts 15 = .ok (.aaload, 1) := by decide +kernel
theorem dX6_weightOfOuts_16 : decode cX6_weightOfOuts 16 = .ok (.iconst 1, 1) := by decide +kernel
theorem dX6_weightOfOuts_17 : decode cX6_weightOfOuts 17 = .ok (.invokevirtual 114, 3) := by decide +kernel
theorem dX6_weightOfOuts_20 : decode cX6_weightOfOuts 20 = .ok (.iload 4, 2) := by decide +kernel
theorem dX6_weightOfOuts_22 : decode cX6_weightOfOuts 22 = .ok (.iand, 1) := by decide +kernel
theorem dX6_weightOfOuts_23 : decode cX6_weightOfOuts 23 = .ok (.invokestatic 108, 3) := by decide +kernel
theorem dX6_weightOfOuts_26 : decode cX6_weightOfOuts 26 = .ok (.i2l, 1) := by decide +kernel
theorem dX6_weightOfOuts_27 : decode cX6_weightOfOuts 27 = .ok (.lreturn, 1) := by decide +kernel
theorem dX6_weightOfOuts_28 : decode cX6_weightOfOuts 28 = .ok (.aload_n 0, 1) := by decide +kernel
theorem dX6_weightOfOuts_29 : decode cX6_weightOfOuts 29 = .ok (.iload_n 1, 1) := by decide +kernel
theorem dX6_weightOfOuts_30 : decode cX6_weightOfOuts 30 = .ok (.iconst 1, 1) := by decide +kernel
theorem dX6_weightOfOuts_31 : decode cX6_weightOfOuts 31 = .ok (.iadd, 1) := by decide +kernel
theorem dX6_weightOfOuts_32 : decode cX6_weightOfOuts 32 = .ok (.aaload, 1) := by decide +kernel
theorem dX6_weightOfOuts_33 : decode cX6_weightOfOuts 33 = .ok (.astore 5, 2) := by decide +kernel
theorem dX6_weightOfOuts_35 : decode cX6_weightOfOuts 35 = .ok (.lconst 0, 1) := by decide +kernel
theorem dX6_weightOfOuts_36 : decode cX6_weightOfOuts 36 = .ok (.lstore 6, 2) := by decide +kernel
theorem dX6_weightOfOuts_38 : decode cX6_weightOfOuts 38 = .ok (.iload_n 3, 1) := by decide +kernel
theorem dX6_weightOfOuts_39 : decode cX6_weightOfOuts 39 = .ok (.ifCond .le 35, 3) := by decide +kernel
theorem dX6_weightOfOuts_42 : decode cX6_weightOfOuts 42 = .ok (.aload 5, 2) := by decide +kernel
theorem dX6_weightOfOuts_44 : decode cX6_weightOfOuts 44 = .ok (.aload_n 0, 1) := by decide +kernel
theorem dX6_weightOfOuts_45 : decode cX6_weightOfOuts 45 = .ok (.iload_n 1, 1) := by decide +kernel
theorem dX6_weightOfOuts_46 : decode cX6_weightOfOuts 46 = .ok (.aaload, 1) := by decide +kernel
theorem dX6_weightOfOuts_47 : decode cX6_weightOfOuts 47 = .ok (.invokevirtual 86, 3) := by decide +kernel
theorem dX6_weightOfOuts_50 : decode cX6_weightOfOuts 50 = .ok (.aload 5, 2) := by decide +kernel
theorem dX6_weightOfOuts_52 : decode cX6_weightOfOuts 52 = .ok (.invokevirtual 321, 3) := by decide +kernel
theorem dX6_weightOfOuts_55 : decode cX6_weightOfOuts 55 = .ok (.lload 6, 2) := by decide +kernel
theorem dX6_weightOfOuts_57 : decode cX6_weightOfOuts 57 = .ok (.iload_n 3, 1) := by decide +kernel
theorem dX6_weightOfOuts_58 : decode cX6_weightOfOuts 58 = .ok (.i2l, 1) := by decide +kernel
theorem dX6_weightOfOuts_59 : decode cX6_weightOfOuts 59 = .ok (.aload_n 0, 1) := by decide +kernel
theorem dX6_weightOfOuts_60 : decode cX6_weightOfOuts 60 = .ok (.iload_n 1, 1) := by decide +kernel
theorem dX6_weightOfOuts_61 : decode cX6_weightOfOuts 61 = .ok (.iconst 1, 1) := by decide +kernel
theorem dX6_weightOfOuts_62 : decode cX6_weightOfOuts 62 = .ok (.iadd, 1) := by decide +kernel
theorem dX6_weightOfOuts_63 : decode cX6_weightOfOuts 63 = .ok (.iload_n 2, 1) := by decide +kernel
theorem dX6_weightOfOuts_64 : decode cX6_weightOfOuts 64 = .ok (.iload_n 3, 1) := by decide +kernel
theorem dX6_weightOfOuts_65 : decode cX6_weightOfOuts 65 = .ok (.iload 4, 2) := by decide +kernel
theorem dX6_weightOfOuts_67 : decode cX6_weightOfOuts 67 = .ok (.invokestatic 311, 3) := by decide +kernel
theorem dX6_weightOfOuts_70 : decode cX6_weightOfOuts 70 = .ok (.lmul, 1) := by decide +kernel
theorem dX6_weightOfOuts_71 : decode cX6_weightOfOuts 71 = .ok (.ladd, 1) := by decide +kernel
theorem dX6_weightOfOuts_72 : decode cX6_weightOfOuts 72 = .ok (.lstore 6, 2) := by decide +kernel
theorem dX6_weightOfOuts_74 : decode cX6_weightOfOuts 74 = .ok (.iload_n 3, 1) := by decide +kernel
theorem dX6_weightOfOuts_75 : decode cX6_weightOfOuts 75 = .ok (.bipush 10, 2) := by decide +kernel
theorem dX6_weightOfOuts_77 : decode cX6_weightOfOuts 77 = .ok (.if_icmp .ge 39, 3) := by decide +kernel
theorem dX6_weightOfOuts_80 : decode cX6_weightOfOuts 80 = .ok (.aload 5, 2) := by decide +kernel
theorem dX6_weightOfOuts_82 : decode cX6_weightOfOuts 82 = .ok (.aload_n 0, 1) := by decide +kernel
theorem dX6_weightOfOuts_83 : decode cX6_weightOfOuts 83 = .ok (.iload_n 1, 1) := by decide +kernel
theorem dX6_weightOfOuts_84 : decode cX6_weightOfOuts 84 = .ok (.aaload, 1) := by decide +kernel
theorem dX6_weightOfOuts_85 : decode cX6_weightOfOuts 85 = .ok (.invokevirtual 86, 3) := by decide +kernel
theorem dX6_weightOfOuts_88 : decode cX6_weightOfOuts 88 = .ok (.aload 5, 2) := by decide +kernel
theorem dX6_weightOfOuts_90 : decode cX6_weightOfOuts 90 = .ok (.iconst 1, 1) := by decide +kernel
theorem dX6_weightOfOuts_91 : decode cX6_weightOfOuts 91 = .ok (.invokevirtual 188, 3) := by decide +kernel
theorem dX6_weightOfOuts_94 : decode cX6_weightOfOuts 94 = .ok (.lload 6, 2) := by decide +kernel
theorem dX6_weightOfOuts_96 : decode cX6_weightOfOuts 96 = .ok (.bipush 10, 2) := by decide +kernel
theorem dX6_weightOfOuts_98 : decode cX6_weightOfOuts 98 = .ok (.iload_n 3, 1) := by decide +kernel
theorem dX6_weightOfOuts_99 : decode cX6_weightOfOuts 99 = .ok (.isub, 1) := by decide +kernel
theorem dX6_weightOfOuts_100 : decode cX6_weightOfOuts 100 = .ok (.i2l, 1) := by decide +kernel
theorem dX6_weightOfOuts_101 : decode cX6_weightOfOuts 101 = .ok (.aload_n 0, 1) := by decide +kernel
theorem dX6_weightOfOuts_102 : decode cX6_weightOfOuts 102 = .ok (.iload_n 1, 1) := by decide +kernel
theorem dX6_weightOfOuts_103 : decode cX6_weightOfOuts 103 = .ok (.iconst 1, 1) := by decide +kernel
theorem dX6_weightOfOuts_104 : decode cX6_weightOfOuts 104 = .ok (.iadd, 1) := by decide +kernel
theorem dX6_weightOfOuts_105 : decode cX6_weightOfOuts 105 = .ok (.iload_n 2, 1) := by decide +kernel
theorem dX6_weightOfOuts_106 : decode cX6_weightOfOuts 106 = .ok (.iload_n 3, 1) := by decide +kernel
theorem dX6_weightOfOuts_107 : decode cX6_weightOfOuts 107 = .ok (.iload 4, 2) := by decide +kernel
theorem dX6_weightOfOuts_109 : decode cX6_weightOfOuts 109 = .ok (.invokestatic 311, 3) := by decide +kernel
theorem dX6_weightOfOuts_112 : decode cX6_weightOfOuts 112 = .ok (.lmul, 1) := by decide +kernel
theorem dX6_weightOfOuts_113 : decode cX6_weightOfOuts 113 = .ok (.ladd, 1) := by decide +kernel
theorem dX6_weightOfOuts_114 : decode cX6_weightOfOuts 114 = .ok (.lstore 6, 2) := by decide +kernel
theorem dX6_weightOfOuts_116 : decode cX6_weightOfOuts 116 = .ok (.lload 6, 2) := by decide +kernel
theorem dX6_weightOfOuts_118 : decode cX6_weightOfOuts 118 = .ok (.lreturn, 1) := by decide +kernel
theorem dX6_commonDivisor_0 : decode cX6_commonDivisor 0 = .ok (.lload_n 0, 1) := by decide +kernel
theorem dX6_commonDivisor_1 : decode cX6_commonDivisor 1 = .ok (.lstore 4, 2) := by decide +kernel
theorem dX6_commonDivisor_3 : decode cX6_commonDivisor 3 = .ok (.lload_n 2, 1) := by decide +kernel
theorem dX6_commonDivisor_4 : decode cX6_commonDivisor 4 = .ok (.lstore 6, 2) := by decide +kernel
theorem dX6_commonDivisor_6 : decode cX6_commonDivisor 6 = .ok (.iconst 0, 1) := by decide +kernel
theorem dX6_commonDivisor_7 : decode cX6_commonDivisor 7 = .ok (.istore 8, 2) := by decide +kernel
theorem dX6_commonDivisor_9 : decode cX6_commonDivisor 9 = .ok (.iload 8, 2) := by decide +kernel
theorem dX6_commonDivisor_11 : decode cX6_commonDivisor 11 = .ok (.bipush 100, 2) := by decide +kernel
theorem dX6_commonDivisor_13 : decode cX6_commonDivisor 13 = .ok (.if_icmp .ge 31, 3) := by decide +kernel
theorem dX6_commonDivisor_16 : decode cX6_commonDivisor 16 = .ok (.lload 6, 2) := by decide +kernel
theorem dX6_commonDivisor_18 : decode cX6_commonDivisor 18 = .ok (.lconst 0, 1) := by decide +kernel
theorem dX6_commonDivisor_19 : decode cX6_commonDivisor 19 = .ok (.lcmp, 1) := by decide +kernel
theorem dX6_commonDivisor_20 : decode cX6_commonDivisor 20 = .ok (.ifCond .eq 24, 3) := by decide +kernel
theorem dX6_commonDivisor_23 : decode cX6_commonDivisor 23 = .ok (.lload 4, 2) := by decide +kernel
theorem dX6_commonDivisor_25 : decode cX6_commonDivisor 25 = .ok (.lload 6, 2) := by decide +kernel
theorem dX6_commonDivisor_27 : decode cX6_commonDivisor 27 = .ok (.lrem, 1) := by decide +kernel
theorem dX6_commonDivisor_28 : decode cX6_commonDivisor 28 = .ok (.lstore 9, 2) := by decide +kernel
theorem dX6_commonDivisor_30 : decode cX6_commonDivisor 30 = .ok (.lload 6, 2) := by decide +kernel
theorem dX6_commonDivisor_32 : decode cX6_commonDivisor 32 = .ok (.lstore 4, 2) := by decide +kernel
theorem dX6_commonDivisor_34 : decode cX6_commonDivisor 34 = .ok (.lload 9, 2) := by decide +kernel
theorem dX6_commonDivisor_36 : decode cX6_commonDivisor 36 = .ok (.lstore 6, 2) := by decide +kernel
theorem dX6_commonDivisor_38 : decode cX6_commonDivisor 38 = .ok (.iinc 8 1, 3) := by decide +kernel
theorem dX6_commonDivisor_41 : decode cX6_commonDivisor 41 = .ok (.goto (-32), 3) := by decide +kernel
theorem dX6_commonDivisor_44 : decode cX6_commonDivisor 44 = .ok (.lload 4, 2) := by decide +kernel
theorem dX6_commonDivisor_46 : decode cX6_commonDivisor 46 = .ok (.lreturn, 1) := by decide +kernel
theorem dX7_init_0 : decode cX7_init 0 = .ok (.aload_n 0, 1) := by decide +kernel
theorem dX7_init_1 : decode cX7_init 1 = .ok (.invokespecial 1, 3) := by decide +kernel
theorem dX7_init_4 : decode cX7_init 4 = .ok (.aload_n 0, 1) := by decide +kernel
theorem dX7_init_5 : decode cX7_init 5 = .ok (.sipush 318, 3) := by decide +kernel
theorem dX7_init_8 : decode cX7_init 8 = .ok (.newarray .int, 2) := by decide +kernel
theorem dX7_init_10 : decode cX7_init 10 = .ok (.putfield 7, 3) := by decide +kernel
theorem dX7_init_13 : decode cX7_init 13 = .ok (.aload_n 0, 1) := by decide +kernel
theorem dX7_init_14 : decode cX7_init 14 = .ok (.bipush 53, 2) := by decide +kernel
theorem dX7_init_16 : decode cX7_init 16 = .ok (.newarray .int, 2) := by decide +kernel
theorem dX7_init_18 : decode cX7_init 18 = .ok (.putfield 13, 3) := by decide +kernel
theorem dX7_init_21 : decode cX7_init 21 = .ok (.aload_n 0, 1) := by decide +kernel
theorem dX7_init_22 : decode cX7_init 22 = .ok (.sipush 160, 3) := by decide +kernel
theorem dX7_init_25 : decode cX7_init 25 = .ok (.newarray .int, 2) := by decide +kernel
theorem dX7_init_27 : decode cX7_init 27 = .ok (.putfield 16, 3) := by decide +kernel
theorem dX7_init_30 : decode cX7_init 30 = .ok (.aload_n 0, 1) := by decide +kernel
theorem dX7_init_31 : decode cX7_init 31 = .ok (.bipush 8, 2) := by decide +kernel
theorem dX7_init_33 : decode cX7_init 33 = .ok (.newarray .int, 2) := by decide +kernel
theorem dX7_init_35 : decode cX7_init 35 = .ok (.dup, 1) := by decide +kernel
theorem dX7_init_36 : decode cX7_init 36 = .ok (.iconst 0, 1) := by decide +kernel
theorem dX7_init_37 : decode cX7_init 37 = .ok (.iconst 0, 1) := by decide +kernel
theorem dX7_init_38 : decode cX7_init 38 = .ok (.iastore, 1) := by decide +kernel
theorem dX7_init_39 : decode cX7_init 39 = .ok (.dup, 1) := by decide +kernel
theorem dX7_init_40 : decode cX7_init 40 = .ok (.iconst 1, 1) := by decide +kernel
theorem dX7_init_41 : decode cX7_init 41 = .ok (.iconst 5, 1) := by decide +kernel
theorem dX7_init_42 : decode cX7_init 42 = .ok (.iastore, 1) := by decide +kernel
theorem dX7_init_43 : decode cX7_init 43 = .ok (.dup, 1) := by decide +kernel
theorem dX7_init_44 : decode cX7_init 44 = .ok (.iconst 2, 1) := by decide +kernel
theorem dX7_init_45 : decode cX7_init 45 = .ok (.bipush 10, 2) := by decide +kernel
theorem dX7_init_47 : decode cX7_init 47 = .ok (.iastore, 1) := by decide +kernel
theorem dX7_init_48 : decode cX7_init 48 = .ok (.dup, 1) := by decide +kernel
theorem dX7_init_49 : decode cX7_init 49 = .ok (.iconst 3, 1) := by decide +kernel
theorem dX7_init_50 : decode cX7_init 50 = .ok (.bipush 15, 2) := by decide +kernel
theorem dX7_init_52 : decode cX7_init 52 = .ok (.iastore, 1) := by decide +kernel
theorem dX7_init_53 : decode cX7_init 53 = .ok (.dup, 1) := by decide +kernel
theorem dX7_init_54 : decode cX7_init 54 = .ok (.iconst 4, 1) := by decide +kernel
theorem dX7_init_55 : decode cX7_init 55 = .ok (.bipush 19, 2) := by decide +kernel
theorem dX7_init_57 : decode cX7_init 57 = .ok (.iastore, 1) := by decide +kernel
theorem dX7_init_58 : decode cX7_init 58 = .ok (.dup, 1) := by decide +kernel
theorem dX7_init_59 : decode cX7_init 59 = .ok (.iconst 5, 1) := by decide +kernel
theorem dX7_init_60 : decode cX7_init 60 = .ok (.bipush 24, 2) := by decide +kernel
theorem dX7_init_62 : decode cX7_init 62 = .ok (.iastore, 1) := by decide +kernel
theorem dX7_init_63 : decode cX7_init 63 = .ok (.dup, 1) := by decide +kernel
theorem dX7_init_64 : decode cX7_init 64 = .ok (.bipush 6, 2) := by decide +kernel
theorem dX7_init_66 : decode cX7_init 66 = .ok (.bipush 29, 2) := by decide +kernel
theorem dX7_init_68 : decode cX7_init 68 = .ok (.iastore, 1) := by decide +kernel
theorem dX7_init_69 : decode cX7_init 69 = .ok (.dup, 1) := by decide +kernel
theorem dX7_init_70 : decode cX7_init 70 = .ok (.bipush 7, 2) := by decide +kernel
theorem dX7_init_72 : decode cX7_init 72 = .ok (.bipush 33, 2) := by decide +kernel
theorem dX7_init_74 : decode cX7_init 74 = .ok (.iastore, 1) := by decide +kernel
theorem dX7_init_75 : decode cX7_init 75 = .ok (.putfield 19, 3) := by decide +kernel
theorem dX7_init_78 : decode cX7_init 78 = .ok (.aload_n 0, 1) := by decide +kernel
theorem dX7_init_79 : decode cX7_init 79 = .ok (.bipush 33, 2) := by decide +kernel
theorem dX7_init_81 : decode cX7_init 81 = .ok (.newarray .int, 2) := by decide +kernel
theorem dX7_init_83 : decode cX7_init 83 = .ok (.dup, 1) := by decide +kernel
theorem dX7_init_84 : decode cX7_init 84 = .ok (.iconst 0, 1) := by decide +kernel
theorem dX7_init_85 : decode cX7_init 85 = .ok (.bipush 112, 2) := by decide +kernel
theorem dX7_init_87 : decode cX7_init 87 = .ok (.iastore, 1) := by decide +kernel
theorem dX7_init_88 : decode cX7_init 88 = .ok (.dup, 1) := by decide +kernel
theorem dX7_init_89 : decode cX7_init 89 = .ok (.iconst 1, 1) := by decide +kernel
theorem dX7_init_90 : decode cX7_init 90 = .ok (.bipush 108, 2) := by decide +kernel
theorem dX7_init_92 : decode cX7_init 92 = .ok (.iastore, 1) := by decide +kernel
theorem dX7_init_93 : decode cX7_init 93 = .ok (.dup, 1) := by decide +kernel
theorem dX7_init_94 : decode cX7_init 94 = .ok (.iconst 2, 1) := by decide +kernel
theorem dX7_init_95 : decode cX7_init 95 = .ok (.bipush 97, 2) := by decide +kernel
theorem dX7_init_97 : decode cX7_init 97 = .ok (.iastore, 1) := by decide +kernel
theorem dX7_init_98 : decode cX7_init 98 = .ok (.dup, 1) := by decide +kernel
theorem dX7_init_99 : decode cX7_init 99 = .ok (.iconst 3, 1) := by decide +kernel
theorem dX7_init_100 : decode cX7_init 100 = .ok (.bipush 105, 2) := by decide +kernel
theorem dX7_init_102 : decode cX7_init 102 = .ok (.iastore, 1) := by decide +kernel
theorem dX7_init_103 : decode cX7_init 103 = .ok (.dup, 1) := by decide +kernel
theorem dX7_init_104 : decode cX7_init 104 = .ok (.iconst 4, 1) := by decide +kernel
theorem dX7_init_105 : decode cX7_init 105 = .ok (.bipush 110, 2) := by decide +kernel
theorem dX7_init_107 : decode cX7_init 107 = .ok (.iastore, 1) := by decide +kernel
theorem dX7_init_108 : decode cX7_init 108 = .ok (.dup, 1) := by decide +kernel
theorem dX7_init_109 : decode cX7_init 109 = .ok (.iconst 5, 1) := by decide +kernel
theorem dX7_init_110 : decode cX7_init 110 = .ok (.bipush 115, 2) := by decide +kernel
theorem dX7_init_112 : decode cX7_init 112 = .ok (.iastore, 1) := by decide +kernel
theorem dX7_init_113 : decode cX7_init 113 = .ok (.dup, 1) := by decide +kernel
theorem dX7_init_114 : decode cX7_init 114 = .ok (.bipush 6, 2) := by decide +kernel
theorem dX7_init_116 : decode cX7_init 116 = .ok (.bipush 112, 2) := by decide +kernel
theorem dX7_init_118 : decode cX7_init 118 = .ok (.iastore, 1) := by decide +kernel
theorem dX7_init_119 : decode cX7_init 119 = .ok (.dup, 1) := by decide +kernel
theorem dX7_init_120 : decode cX7_init 120 = .ok (.bipush 7, 2) := by decide +kernel
theorem dX7_init_122 : decode cX7_init 122 = .ok (.bipush 105, 2) := by decide +kernel
theorem dX7_init_124 : decode cX7_init 124 = .ok (.iastore, 1) := by decide +kernel
theorem dX7_init_125 : decode cX7_init 125 = .ok (.dup, 1) := by decide +kernel
theorem dX7_init_126 : decode cX7_init 126 = .ok (.bipush 8, 2) := by decide +kernel
theorem dX7_init_128 : decode cX7_init 128 = .ok (.bipush 116, 2) := by decide +kernel
theorem dX7_init_130 : decode cX7_init 130 = .ok (.iastore, 1) := by decide +kernel
theorem dX7_init_131 : decode cX7_init 131 = .ok (.dup, 1) := by decide +kernel
theorem dX7_init_132 : decode cX7_init 132 = .ok (.bipush 9, 2) := by decide +kernel
theorem dX7_init_134 : decode cX7_init 134 = .ok (.bipush 101, 2) := by decide +kernel
theorem dX7_init_136 : decode cX7_init 136 = .ok (.iastore, 1) := by decide +kernel
theorem dX7_init_137 : decode cX7_init 137 = .ok (.dup, 1) := by decide +kernel
theorem dX7_init_138 : decode cX7_init 138 = .ok (.bipush 10, 2) := by decide +kernel
theorem dX7_init_140 : decode cX7_init 140 = .ok (.bipush 99, 2) := by decide +kernel
theorem dX7_init_142 : decode cX7_init 142 = .ok (.iastore, 1) := by decide +kernel
theorem dX7_init_143 : decode cX7_init 143 = .ok (.dup, 1) := by decide +kernel
theorem dX7_init_144 : decode cX7_init 144 = .ok (.bipush 11, 2) := by decide +kernel
theorem dX7_init_146 : decode cX7_init 146 = .ok (.bipush 108, 2) := by decide +kernel
theorem dX7_init_148 : decode cX7_init 148 = .ok (.iastore, 1) := by decide +kernel
theorem dX7_init_149 : decode cX7_init 149 = .ok (.dup, 1) := by decide +kernel
theorem dX7_init_150 : decode cX7_init 150 = .ok (.bipush 12, 2) := by decide +kernel
theorem dX7_init_152 : decode cX7_init 152 = .ok (.bipush 111, 2) := by decide +kernel
theorem dX7_init_154 : decode cX7_init 154 = .ok (.iastore, 1) := by decide +kernel
theorem dX7_init_155 : decode cX7_init 155 = .ok (.dup, 1) := by decide +kernel
theorem dX7_init_156 : decode cX7_init 156 = .ok (.bipush 13, 2) := by decide +kernel
theorem dX7_init_158 : decode cX7_init 158 = .ok (.bipush 115, 2) := by decide +kernel
theorem dX7_init_160 : decode cX7_init 160 = .ok (.iastore, 1) := by decide +kernel
theorem dX7_init_161 : decode cX7_init 161 = .ok (.dup, 1) := by decide +kernel
theorem dX7_init_162 : decode cX7_init 162 = .ok (.bipush 14, 2) := by decide +kernel
theorem dX7_init_164 : decode cX7_init 164 = .ok (.bipush 101, 2) := by decide +kernel
theorem dX7_init_166 : decode cX7_init 166 = .ok (.iastore, 1) := by decide +kernel
theorem dX7_init_167 : decode cX7_init 167 = .ok (.dup, 1) := by decide +kernel
theorem dX7_init_168 : decode cX7_init 168 = .ok (.bipush 15, 2) := by decide +kernel
theorem dX7_init_170 : decode cX7_init 170 = .ok (.bipush 119, 2) := by decide +kernel
theorem dX7_init_172 : decode cX7_init 172 = .ok (.iastore, 1) := by decide +kernel
theorem dX7_init_173 : decode cX7_init 173 = .ok (.dup, 1) := by decide +kernel
theorem dX7_init_174 : decode cX7_init 174 = .ok (.bipush 16, 2) := by decide +kernel
theorem dX7_init_176 : decode cX7_init 176 = .ok (.bipush 105, 2) := by decide +kernel
theorem dX7_init_178 : decode cX7_init 178 = .ok (.iastore, 1) := by decide +kernel
theorem dX7_init_179 : decode cX7_init 179 = .ok (.dup, 1) := by decide +kernel
theorem dX7_init_180 : decode cX7_init 180 = .ok (.bipush 17, 2) := by decide +kernel
theorem dX7_init_182 : decode cX7_init 182 = .ok (.bipush 100, 2) := by decide +kernel
theorem dX7_init_184 : decode cX7_init 184 = .ok (.iastore, 1) := by decide +kernel
theorem dX7_init_185 : decode cX7_init 185 = .ok (.dup, 1) := by decide +kernel
theorem dX7_init_186 : decode cX7_init 186 = .ok (.bipush 18, 2) := by decide +kernel
theorem dX7_init_188 : decode cX7_init 188 = .ok (.bipush 101, 2) := by decide +kernel
theorem dX7_init_190 : decode cX7_init 190 = .ok (.iastore, 1) := by decide +kernel
theorem dX7_init_191 : decode cX7_init 191 = .ok (.dup, 1) := by decide +kernel
theorem dX7_init_192 : decode cX7_init 192 = .ok (.bipush 19, 2) := by decide +kernel
theorem dX7_init_194 : decode cX7_init 194 = .ok (.bipush 103, 2) := by decide +kernel
theorem dX7_init_196 : decode cX7_init 196 = .ok (.iastore, 1) := by decide +kernel
theorem dX7_init_197 : decode cX7_init 197 = .ok (.dup, 1) := by decide +kernel
theorem dX7_init_198 : decode cX7_init 198 = .ok (.bipush 20, 2) := by decide +kernel
theorem dX7_init_200 : decode cX7_init 200 = .ok (.bipush 117, 2) := by decide +kernel
theorem dX7_init_202 : decode cX7_init 202 = .ok (.iastore, 1) := by decide +kernel
theorem dX7_init_203 : decode cX7_init 203 = .ok (.dup, 1) := by decide +kernel
theorem dX7_init_204 : decode cX7_init 204 = .ok (.bipush 21, 2) := by decide +kernel
theorem dX7_init_206 : decode cX7_init 206 = .ok (.bipush 101, 2) := by decide +kernel
theorem dX7_init_208 : decode cX7_init 208 = .ok (.iastore, 1) := by decide +kernel
theorem dX7_init_209 : decode cX7_init 209 = .ok (.dup, 1) := by decide +kernel
theorem dX7_init_210 : decode cX7_init 210 = .ok (.bipush 22, 2) := by decide +kernel
theorem dX7_init_212 : decode cX7_init 212 = .ok (.bipush 115, 2) := by decide +kernel
theorem dX7_init_214 : decode cX7_init 214 = .ok (.iastore, 1) := by decide +kernel
theorem dX7_init_215 : decode cX7_init 215 = .ok (.dup, 1) := by decide +kernel
theorem dX7_init_216 : decode cX7_init 216 = .ok (.bipush 23, 2) := by decide +kernel
theorem dX7_init_218 : decode cX7_init 218 = .ok (.bipush 116, 2) := by decide +kernel
theorem dX7_init_220 : decode cX7_init 220 = .ok (.iastore, 1) := by decide +kernel
theorem dX7_init_221 : decode cX7_init 221 = .ok (.dup, 1) := by decide +kernel
theorem dX7_init_222 : decode cX7_init 222 = .ok (.bipush 24, 2) := by decide +kernel
theorem dX7_init_224 : decode cX7_init 224 = .ok (.bipush 104, 2) := by decide +kernel
theorem dX7_init_226 : decode cX7_init 226 = .ok (.iastore, 1) := by decide +kernel
theorem dX7_init_227 : decode cX7_init 227 = .ok (.dup, 1) := by decide +kernel
theorem dX7_init_228 : decode cX7_init 228 = .ok (.bipush 25, 2) := by decide +kernel
theorem dX7_init_230 : decode cX7_init 230 = .ok (.bipush 101, 2) := by decide +kernel
theorem dX7_init_232 : decode cX7_init 232 = .ok (.iastore, 1) := by decide +kernel
theorem dX7_init_233 : decode cX7_init 233 = .ok (.dup, 1) := by decide +kernel
theorem dX7_init_234 : decode cX7_init 234 = .ok (.bipush 26, 2) := by decide +kernel
theorem dX7_init_236 : decode cX7_init 236 = .ok (.bipush 100, 2) := by decide +kernel
theorem dX7_init_238 : decode cX7_init 238 = .ok (.iastore, 1) := by decide +kernel
theorem dX7_init_239 : decode cX7_init 239 = .ok (.dup, 1) := by decide +kernel
theorem dX7_init_240 : decode cX7_init 240 = .ok (.bipush 27, 2) := by decide +kernel
theorem dX7_init_242 : decode cX7_init 242 = .ok (.bipush 103, 2) := by decide +kernel
theorem dX7_init_244 : decode cX7_init 244 = .ok (.iastore, 1) := by decide +kernel
theorem dX7_init_245 : decode cX7_init 245 = .ok (.dup, 1) := by decide +kernel
theorem dX7_init_246 : decode cX7_init 246 = .ok (.bipush 28, 2) := by decide +kernel
theorem dX7_init_248 : decode cX7_init 248 = .ok (.bipush 101, 2) := by decide +kernel
theorem dX7_init_250 : decode cX7_init 250 = .ok (.iastore, 1) := by decide +kernel
theorem dX7_init_251 : decode cX7_init 251 = .ok (.dup, 1) := by decide +kernel
theorem dX7_init_252 : decode cX7_init 252 = .ok (.bipush 29, 2) := by decide +kernel
theorem dX7_init_254 : decode cX7_init 254 = .ok (.bipush 103, 2) := by decide +kernel
theorem dX7_init_256 : decode cX7_init 256 = .ok (.iastore, 1) := by decide +kernel
theorem dX7_init_257 : decode cX7_init 257 = .ok (.dup, 1) := by decide +kernel
theorem dX7_init_258 : decode cX7_init 258 = .ok (.bipush 30, 2) := by decide +kernel
theorem dX7_init_260 : decode cX7_init 260 = .ok (.bipush 97, 2) := by decide +kernel
theorem dX7_init_262 : decode cX7_init 262 = .ok (.iastore, 1) := by decide +kernel
theorem dX7_init_263 : decode cX7_init 263 = .ok (.dup, 1) := by decide +kernel
theorem dX7_init_264 : decode cX7_init 264 = .ok (.bipush 31, 2) := by decide +kernel
theorem dX7_init_266 : decode cX7_init 266 = .ok (.bipush 116, 2) := by decide +kernel
theorem dX7_init_268 : decode cX7_init 268 = .ok (.iastore, 1) := by decide +kernel
theorem dX7_init_269 : decode cX7_init 269 = .ok (.dup, 1) := by decide +kernel
theorem dX7_init_270 : decode cX7_init 270 = .ok (.bipush 32, 2) := by decide +kernel
theorem dX7_init_272 : decode cX7_init 272 = .ok (.bipush 101, 2) := by decide +kernel
theorem dX7_init_274 : decode cX7_init 274 = .ok (.iastore, 1) := by decide +kernel
theorem dX7_init_275 : decode cX7_init 275 = .ok (.putfield 22, 3) := by decide +kernel
theorem dX7_init_278 : decode cX7_init 278 = .ok (.aload_n 0, 1) := by decide +kernel
theorem dX7_init_279 : decode cX7_init 279 = .ok (.bipush 16, 2) := by decide +kernel
theorem dX7_init_281 : decode cX7_init 281 = .ok (.newarray .int, 2) := by decide +kernel
theorem dX7_init_283 : decode cX7_init 283 = .ok (.putfield 25, 3) := by decide +kernel
theorem dX7_init_286 : decode cX7_init 286 = .ok (.aload_n 0, 1) := by decide +kernel
theorem dX7_init_287 : decode cX7_init 287 = .ok (.bipush (-4), 2) := by decide +kernel
theorem dX7_init_289 : decode cX7_init 289 = .ok (.putfield 28, 3) := by decide +kernel
theorem dX7_init_292 : decode cX7_init 292 = .ok (.aload_n 0, 1) := by decide +kernel
theorem dX7_init_293 : decode cX7_init 293 = .ok (.bipush 18, 2) := by decide +kernel
theorem dX7_init_295 : decode cX7_init 295 = .ok (.newarray .int, 2) := by decide +kernel
theorem dX7_init_297 : decode cX7_init 297 = .ok (.putfield 32, 3) := by decide +kernel
theorem dX7_init_300 : decode cX7_init 300 = .ok (.aload_n 0, 1) := by decide +kernel
theorem dX7_init_301 : decode cX7_init 301 = .ok (.sipush 504, 3) := by decide +kernel
theorem dX7_init_304 : decode cX7_init 304 = .ok (.newarray .int, 2) := by decide +kernel
theorem dX7_init_306 : decode cX7_init 306 = .ok (.putfield 35, 3) := by decide +kernel
theorem dX7_init_309 : decode cX7_init 309 = .ok (.aload_n 0, 1) := by decide +kernel
theorem dX7_init_310 : decode cX7_init 310 = .ok (.iconst 2, 1) := by decide +kernel
theorem dX7_init_311 : decode cX7_init 311 = .ok (.newarray .boolean, 2) := by decide +kernel
theorem dX7_init_313 : decode cX7_init 313 = .ok (.putfield 38, 3) := by decide +kernel
theorem dX7_init_316 : decode cX7_init 316 = .ok (.aload_n 0, 1) := by decide +kernel
theorem dX7_init_317 : decode cX7_init 317 = .ok (.iconst 4, 1) := by decide +kernel
theorem dX7_init_318 : decode cX7_init 318 = .ok (.newarray .int, 2) := by decide +kernel
theorem dX7_init_320 : decode cX7_init 320 = .ok (.dup, 1) := by decide +kernel
theorem dX7_init_321 : decode cX7_init 321 = .ok (.iconst 0, 1) := by decide +kernel
theorem dX7_init_322 : decode cX7_init 322 = .ok (.bipush (-4), 2) := by decide +kernel
theorem dX7_init_324 : decode cX7_init 324 = .ok (.iastore, 1) := by decide +kernel
theorem dX7_init_325 : decode cX7_init 325 = .ok (.dup, 1) := by decide +kernel
theorem dX7_init_326 : decode cX7_init 326 = .ok (.iconst 1, 1) := by decide +kernel
theorem dX7_init_327 : decode cX7_init 327 = .ok (.bipush (-4), 2) := by decide +kernel
theorem dX7_init_329 : decode cX7_init 329 = .ok (.iastore, 1) := by decide +kernel
theorem dX7_init_330 : decode cX7_init 330 = .ok (.dup, 1) := by decide +kernel
theorem dX7_init_331 : decode cX7_init 331 = .ok (.iconst 2, 1) := by decide +kernel
theorem dX7_init_332 : decode cX7_init 332 = .ok (.bipush (-4), 2) := by decide +kernel
theorem dX7_init_334 : decode cX7_init 334 = .ok (.iastore, 1) := by decide +kernel
theorem dX7_init_335 : decode cX7_init 335 = .ok (.dup, 1) := by decide +kernel
theorem dX7_init_336 : decode cX7_init 336 = .ok (.iconst 3, 1) := by decide +kernel
theorem dX7_init_337 : decode cX7_init 337 = .ok (.bipush (-4), 2) := by decide +kernel
theorem dX7_init_339 : decode cX7_init 339 = .ok (.iastore, 1) := by decide +kernel
theorem dX7_init_340 : decode cX7_init 340 = .ok (.putfield 42, 3) := by decide +kernel
theorem dX7_init_343 : decode cX7_init 343 = .ok (.aload_n 0, 1) := by decide +kernel
theorem dX7_init_344 : decode cX7_init 344 = .ok (.iconst 4, 1) := by decide +kernel
theorem dX7_init_345 : decode cX7_init 345 = .ok (.newarray .int, 2) := by decide +kernel
theorem dX7_init_347 : decode cX7_init 347 = .ok (.putfield 45, 3) := by decide +kernel
theorem dX7_init_350 : decode cX7_init 350 = .ok (.aload_n 0, 1) := by decide +kernel
theorem dX7_init_351 : decode cX7_init 351 = .ok (.sipush 160, 3) := by decide +kernel
theorem dX7_init_354 : decode cX7_init 354 = .ok (.newarray .int, 2) := by decide +kernel
theorem dX7_init_356 : decode cX7_init 356 = .ok (.putfield 48, 3) := by decide +kernel
theorem dX7_init_359 : decode cX7_init 359 = .ok (.return_, 1) := by decide +kernel
theorem dX7_in_0 : decode cX7_in 0 = .ok (.lload_n 0, 1) := by decide +kernel
theorem dX7_in_1 : decode cX7_in 1 = .ok (.lload_n 2, 1) := by decide +kernel
theorem dX7_in_2 : decode cX7_in 2 = .ok (.lcmp, 1) := by decide +kernel
theorem dX7_in_3 : decode cX7_in 3 = .ok (.ifCond .lt 14, 3) := by decide +kernel
theorem dX7_in_6 : decode cX7_in 6 = .ok (.lload_n 0, 1) := by decide +kernel
theorem dX7_in_7 : decode cX7_in 7 = .ok (.lload 4, 2) := by decide +kernel
theorem dX7_in_9 : decode cX7_in 9 = .ok (.lcmp, 1) := by decide +kernel
theorem dX7_in_10 : decode cX7_in 10 = .ok (.ifCond .gt 7, 3) := by decide +kernel
theorem dX7_in_13 : decode cX7_in 13 = .ok (.iconst 1, 1) := by decide +kernel
theorem dX7_in_14 : decode cX7_in 14 = .ok (.goto 4, 3) := by decide +kernel
theorem dX7_in_17 : decode cX7_in 17 = .ok (.iconst 0, 1) := by decide +kernel
theorem dX7_in_18 : decode cX7_in 18 = .ok (.ireturn, 1) := by decide +kernel
set_option maxRecDepth 20000 in
theorem ggX7_feed_X7_in : GoodIn wsX7_feed wsX7_in := goodIn_r _ [7] (by decide +kernel) (by decide +kernel)
set_option maxRecDepth 20000 in
theorem gX7_feed_X7_in : GoodIn wsX7_feed (va_wsS RX7 53 yX7_in wsX7_in) := goodIn_app (goodIn_of _ (by decide +kernel)) ggX7_feed_X7_in
theorem dX7_feed_0 : decode cX7_feed 0 = .ok (.iload_n 1, 1) := by decide +kernel
theorem dX7_feed_1 : decode cX7_feed 1 = .ok (.i2l, 1) := by decide +kernel
theorem dX7_feed_2 : decode cX7_feed 2 = .ok (.lconst 0, 1) := by decide +kernel
theorem dX7_feed_3 : decode cX7_feed 3 = .ok (.ldc2_w 51, 3) := by decide +kernel
theorem dX7_feed_6 : decode cX7_feed 6 = .ok (.invokestatic 53, 3) := by decide +kernel
theorem dX7_feed_9 : decode cX7_feed 9 = .ok (.ifCond .ne 5, 3) := by decide +kernel
theorem dX7_feed_12 : decode cX7_feed 12 = .ok (.iconst (-1), 1) := by decide +kernel
theorem dX7_feed_13 : decode cX7_feed 13 = .ok (.ireturn, 1) := by decide +kernel
theorem dX7_feed_14 : decode cX7_feed 14 = .ok (.aload_n 0, 1) := by decide +kernel
theorem dX7_feed_15 : decode cX7_feed 15 = .ok (.getfield 57, 3) := by decide +kernel
theorem dX7_feed_18 : decode cX7_feed 18 = .ok (.sipush 160, 3) := by decide +kernel
theorem dX7_feed_21 : decode cX7_feed 21 = .ok (.if_icmp .ne 6, 3) := by decide +kernel
theorem dX7_feed_24 : decode cX7_feed 24 = .ok (.bipush (-3), 2) := by decide +kernel
theorem dX7_feed_26 : decode cX7_feed 26 = .ok (.ireturn, 1) := by decide +kernel
theorem dX7_feed_27 : decode cX7_feed 27 = .ok (.aload_n 0, 1) := by decide +kernel
theorem dX7_feed_28 : decode cX7_feed 28 = .ok (.getfield 16, 3) := by decide +kernel
theorem dX7_feed_31 : decode cX7_feed 31 = .ok (.aload_n 0, 1) := by decide +kernel
theorem dX7_feed_32 : decode cX7_feed 32 = .ok (.getfield 57, 3) := by decide +kernel
theorem dX7_feed_35 : decode cX7_feed 35 = .ok (.iload_n 1, 1) := by decide +kernel
theorem dX7_feed_36 : decode cX7_feed 36 = .ok (.iastore, 1) := by decide +kernel
theorem dX7_feed_37 : decode cX7_feed 37 = .ok (.aload_n 0, 1) := by decide +kernel
theorem dX7_feed_38 : decode cX7_feed 38 = .ok (.dup, 1) := by decide +kernel
theorem dX7_feed_39 : decode cX7_feed 39 = .ok (.getfield 57, 3) := by decide +kernel
theorem dX7_feed_42 : decode cX7_feed 42 = .ok (.iconst 1, 1) := by decide +kernel
theorem dX7_feed_43 : decode cX7_feed 43 = .ok (.iadd, 1) := by decide +kernel
theorem dX7_feed_44 : decode cX7_feed 44 = .ok (.putfield 57, 3) := by decide +kernel
theorem dX7_feed_47 : decode cX7_feed 47 = .ok (.aload_n 0, 1) := by decide +kernel
theorem dX7_feed_48 : decode cX7_feed 48 = .ok (.getfield 57, 3) := by decide +kernel
theorem dX7_feed_51 : decode cX7_feed 51 = .ok (.ireturn, 1) := by decide +kernel
set_option maxRecDepth 20000 in
theorem ggX7_end_X7_in : GoodIn wsX7_end wsX7_in := goodIn_r _ [5] (by decide +kernel) (by decide +kernel)
set_option maxRecDepth 20000 in
theorem gX7_end_X7_in : GoodIn wsX7_end (va_wsS RX7 53 yX7_in wsX7_in) := goodIn_app (goodIn_of _ (by decide +kernel)) ggX7_end_X7_in
theorem dX7_end_0 : decode cX7_end 0 = .ok (.iload_n 1, 1) := by decide +kernel
theorem dX7_end_1 : decode cX7_end 1 = .ok (.i2l, 1) := by decide +kernel
theorem dX7_end_2 : decode cX7_end 2 = .ok (.lconst 0, 1) := by decide +kernel
theorem dX7_end_3 : decode cX7_end 3 = .ok (.aload_n 0, 1) := by decide +kernel
theorem dX7_end_4 : decode cX7_end 4 = .ok (.getfield 57, 3) := by decide +kernel
theorem dX7_end_7 : decode cX7_end 7 = .ok (.i2l, 1) := by decide +kernel
theorem dX7_end_8 : decode cX7_end 8 = .ok (.invokestatic 53, 3) := by decide +kernel
theorem dX7_end_11 : decode cX7_end 11 = .ok (.ifCond .ne 5, 3) := by decide +kernel
theorem dX7_end_14 : decode cX7_end 14 = .ok (.iconst (-1), 1) := by decide +kernel
theorem dX7_end_15 : decode cX7_end 15 = .ok (.ireturn, 1) := by decide +kernel
theorem dX7_end_16 : decode cX7_end 16 = .ok (.aload_n 0, 1) := by decide +kernel
theorem dX7_end_17 : decode cX7_end 17 = .ok (.getfield 57, 3) := by decide +kernel
theorem dX7_end_20 : decode cX7_end 20 = .ok (.istore_n 2, 1) := by decide +kernel
theorem dX7_end_21 : decode cX7_end 21 = .ok (.aload_n 0, 1) := by decide +kernel
theorem dX7_end_22 : decode cX7_end 22 = .ok (.iload_n 1, 1) := by decide +kernel
theorem dX7_end_23 : decode cX7_end 23 = .ok (.putfield 57, 3) := by decide +kernel
theorem dX7_end_26 : decode cX7_end 26 = .ok (.iload_n 2, 1) := by decide +kernel
theorem dX7_end_27 : decode cX7_end 27 = .ok (.ireturn, 1) := by decide +kernel
theorem dX7_byteAt_0 : decode cX7_byteAt 0 = .ok (.iload_n 1, 1) := by decide +kernel
theorem dX7_byteAt_1 : decode cX7_byteAt 1 = .ok (.aload_n 0, 1) := by decide +kernel
theorem dX7_byteAt_2 : decode cX7_byteAt 2 = .ok (.getfield 57, 3) := by decide +kernel
theorem dX7_byteAt_5 : decode cX7_byteAt 5 = .ok (.if_icmp .ge 12, 3) := by decide +kernel
theorem dX7_byteAt_8 : decode cX7_byteAt 8 = .ok (.aload_n 0, 1) := by decide +kernel
theorem dX7_byteAt_9 : decode cX7_byteAt 9 = .ok (.getfield 16, 3) := by decide +kernel
theorem dX7_byteAt_12 : decode cX7_byteAt 12 = .ok (.iload_n 1, 1) := by decide +kernel
theorem dX7_byteAt_13 : decode cX7_byteAt 13 = .ok (.iaload, 1) := by decide +kernel
theorem dX7_byteAt_14 : decode cX7_byteAt 14 = .ok (.goto 5, 3) := by decide +kernel
theorem dX7_byteAt_17 : decode cX7_byteAt 17 = .ok (.bipush (-4), 2) := by decide +kernel
theorem dX7_byteAt_19 : decode cX7_byteAt 19 = .ok (.ireturn, 1) := by decide +kernel
theorem dX7_fails_0 : decode cX7_fails 0 = .ok (.aload_n 0, 1) := by decide +kernel
theorem dX7_fails_1 : decode cX7_fails 1 = .ok (.getfield 60, 3) := by decide +kernel
theorem dX7_fails_4 : decode cX7_fails 4 = .ok (.ifCond .ne 16, 3) := by decide +kernel
theorem dX7_fails_7 : decode cX7_fails 7 = .ok (.aload_n 0, 1) := by decide +kernel
theorem dX7_fails_8 : decode cX7_fails 8 = .ok (.iload_n 1, 1) := by decide +kernel
theorem dX7_fails_9 : decode cX7_fails 9 = .ok (.putfield 60, 3) := by decide +kernel
theorem dX7_fails_12 : decode cX7_fails 12 = .ok (.aload_n 0, 1) := by decide +kernel
theorem dX7_fails_13 : decode cX7_fails 13 = .ok (.aload_n 0, 1) := by decide +kernel
theorem dX7_fails_14 : decode cX7_fails 14 = .ok (.getfield 63, 3) := by decide +kernel
theorem dX7_fails_17 : decode cX7_fails 17 = .ok (.putfield 66, 3) := by decide +kernel
theorem dX7_fails_20 : decode cX7_fails 20 = .ok (.return_, 1) := by decide +kernel
set_option maxRecDepth 20000 in
theorem ggX7_nameHere_X7_byteAt : GoodIn wsX7_nameHere wsX7_byteAt := goodIn_r _ [10, 11, 12, 13, 14, 15, 16, 17, 18, 19, 20, 21, 22, 23, 24, 25, 26, 27, 28, 29, 30, 31, 32, 33, 34, 35, 36, 37] (by decide +kernel) (by decide +kernel)
set_option maxRecDepth 20000 in
theorem gX7_nameHere_X7_byteAt : GoodIn wsX7_nameHere (wsV RX7 75 RX7 yX7_byteAt wsX7_byteAt) := goodIn_app (goodIn_of _ (by decide +kernel)) ggX7_nameHere_X7_byteAt
theorem dX7_nameHere_0 : decode cX7_nameHere 0 = .ok (.iconst 0, 1) := by decide +kernel
theorem dX7_nameHere_1 : decode cX7_nameHere 1 = .ok (.istore_n 1, 1) := by decide +kernel
theorem dX7_nameHere_2 : decode cX7_nameHere 2 = .ok (.iload_n 1, 1) := by decide +kernel
theorem dX7_nameHere_3 : decode cX7_nameHere 3 = .ok (.bipush 7, 2) := by decide +kernel
theorem dX7_nameHere_5 : decode cX7_nameHere 5 = .ok (.if_icmp .ge 113, 3) := by decide +kernel
theorem dX7_nameHere_8 : decode cX7_nameHere 8 = .ok (.aload_n 0, 1) := by decide +kernel
theorem dX7_nameHere_9 : decode cX7_nameHere 9 = .ok (.getfield 69, 3) := by decide +kernel
theorem dX7_nameHere_12 : decode cX7_nameHere 12 = .ok (.iconst 1, 1) := by decide +kernel
theorem dX7_nameHere_13 : decode cX7_nameHere 13 = .ok (.if_icmp .ne 105, 3) := by decide +kernel
theorem dX7_nameHere_16 : decode cX7_nameHere 16 = .ok (.aload_n 0, 1) := by decide +kernel
theorem dX7_nameHere_17 : decode cX7_nameHere 17 = .ok (.getfield 72, 3) := by decide +kernel
theorem dX7_nameHere_20 : decode cX7_nameHere 20 = .ok (.aload_n 0, 1) := by decide +kernel
theorem dX7_nameHere_21 : decode cX7_nameHere 21 = .ok (.getfield 63, 3) := by decide +kernel
theorem dX7_nameHere_24 : decode cX7_nameHere 24 = .ok (.isub, 1) := by decide +kernel
theorem dX7_nameHere_25 : decode cX7_nameHere 25 = .ok (.aload_n 0, 1) := by decide +kernel
theorem dX7_nameHere_26 : decode cX7_nameHere 26 = .ok (.getfield 19, 3) := by decide +kernel
theorem dX7_nameHere_29 : decode cX7_nameHere 29 = .ok (.iload_n 1, 1) := by decide +kernel
theorem dX7_nameHere_30 : decode cX7_nameHere 30 = .ok (.iconst 1, 1) := by decide +kernel
theorem dX7_nameHere_31 : decode cX7_nameHere 31 = .ok (.iadd, 1) := by decide +kernel
theorem dX7_nameHere_32 : decode cX7_nameHere 32 = .ok (.iaload, 1) := by decide +kernel
theorem dX7_nameHere_33 : decode cX7_nameHere 33 = .ok (.aload_n 0, 1) := by decide +kernel
theorem dX7_nameHere_34 : decode cX7_nameHere 34 = .ok (.getfield 19, 3) := by decide +kernel
theorem dX7_nameHere_37 : decode cX7_nameHere 37 = .ok (.iload_n 1, 1) := by decide +kernel
theorem dX7_nameHere_38 : decode cX7_nameHere 38 = .ok (.iaload, 1) := by decide +kernel
theorem dX7_nameHere_39 : decode cX7_nameHere 39 = .ok (.isub, 1) := by decide +kernel
theorem dX7_nameHere_40 : decode cX7_nameHere 40 = .ok (.if_icmp .ne 7, 3) := by decide +kernel
theorem dX7_nameHere_43 : decode cX7_nameHere 43 = .ok (.iconst 1, 1) := by decide +kernel
theorem dX7_nameHere_44 : decode cX7_nameHere 44 = .ok (.goto 4, 3) := by decide +kernel
theorem dX7_nameHere_47 : decode cX7_nameHere 47 = .ok (.iconst 0, 1) := by decide +kernel
theorem dX7_nameHere_48 : decode cX7_nameHere 48 = .ok (.istore_n 2, 1) := by decide +kernel
theorem dX7_nameHere_49 : decode cX7_nameHere 49 = .ok (.iconst 0, 1) := by decide +kernel
theorem dX7_nameHere_50 : decode cX7_nameHere 50 = .ok (.istore_n 3, 1) := by decide +kernel
theorem dX7_nameHere_51 : decode cX7_nameHere 51 = .ok (.iload_n 2, 1) := by decide +kernel
theorem dX7_nameHere_52 : decode cX7_nameHere 52 = .ok (.ifCond .eq 54, 3) := by decide +kernel
theorem dX7_nameHere_55 : decode cX7_nameHere 55 = .ok (.iload_n 3, 1) := by decide +kernel
theorem dX7_nameHere_56 : decode cX7_nameHere 56 = .ok (.aload_n 0, 1) := by decide +kernel
theorem dX7_nameHere_57 : decode cX7_nameHere 57 = .ok (.getfield 72, 3) := by decide +kernel
theorem dX7_nameHere_60 : decode cX7_nameHere 60 = .ok (.aload_n 0, 1) := by decide +kernel
theorem dX7_nameHere_61 : decode cX7_nameHere 61 = .ok (.getfield 63, 3) := by decide +kernel
theorem dX7_nameHere_64 : decode cX7_nameHere 64 = .ok (.isub, 1) := by decide +kernel
theorem dX7_nameHere_65 : decode cX7_nameHere 65 = .ok (.if_icmp .ge 41, 3) := by decide +kernel
theorem dX7_nameHere_68 : decode cX7_nameHere 68 = .ok (.aload_n 0, 1) := by decide +kernel
theorem dX7_nameHere_69 : decode cX7_nameHere 69 = .ok (.aload_n 0, 1) := by decide +kernel
theorem dX7_nameHere_70 : decode cX7_nameHere 70 = .ok (.getfield 63, 3) := by decide +kernel
theorem dX7_nameHere_73 : decode cX7_nameHere 73 = .ok (.iload_n 3, 1) := by decide +kernel
theorem dX7_nameHere_74 : decode cX7_nameHere 74 = .ok (.iadd, 1) := by decide +kernel
theorem dX7_nameHere_75 : decode cX7_nameHere 75 = .ok (.invokevirtual 75, 3) := by decide +kernel
theorem dX7_nameHere_78 : decode cX7_nameHere 78 = .ok (.aload_n 0, 1) := by decide +kernel
theorem dX7_nameHere_79 : decode cX7_nameHere 79 = .ok (.getfield 22, 3) := by decide +kernel
theorem dX7_nameHere_82 : decode cX7_nameHere 82 = .ok (.aload_n 0, 1) := by decide +kernel
theorem dX7_nameHere_83 : decode cX7_nameHere 83 = .ok (.getfield 19, 3) := by decide +kernel
theorem dX7_nameHere_86 : decode cX7_nameHere 86 = .ok (.iload_n 1, 1) := by decide +kernel
theorem dX7_nameHere_87 : decode cX7_nameHere 87 = .ok (.iaload, 1) := by decide +kernel
theorem dX7_nameHere_88 : decode cX7_nameHere 88 = .ok (.iload_n 3, 1) := by decide +kernel
theorem dX7_nameHere_89 : decode cX7_nameHere 89 = .ok (.iadd, 1) := by decide +kernel
theorem dX7_nameHere_90 : decode cX7_nameHere 90 = .ok (.iaload, 1) := by decide +kernel
theorem dX7_nameHere_91 : decode cX7_nameHere 91 = .ok (.if_icmp .ne 7, 3) := by decide +kernel
theorem dX7_nameHere_94 : decode cX7_nameHere 94 = .ok (.iconst 1, 1) := by decide +kernel
theorem dX7_nameHere_95 : decode cX7_nameHere 95 = .ok (.goto 4, 3) := by decide +kernel
theorem dX7_nameHere_98 : decode cX7_nameHere 98 = .ok (.iconst 0, 1) := by decide +kernel
theorem dX7_nameHere_99 : decode cX7_nameHere 99 = .ok (.istore_n 2, 1) := by decide +kernel
theorem dX7_nameHere_100 : decode cX7_nameHere 100 = .ok (.iinc 3 1, 3) := by decide +kernel
theorem dX7_nameHere_103 : decode cX7_nameHere 103 = .ok (.goto (-52), 3) := by decide +kernel
theorem dX7_nameHere_106 : decode cX7_nameHere 106 = .ok (.iload_n 2, 1) := by decide +kernel
theorem dX7_nameHere_107 : decode cX7_nameHere 107 = .ok (.ifCond .eq 5, 3) := by decide +kernel
theorem dX7_nameHere_110 : decode cX7_nameHere 110 = .ok (.iload_n 1, 1) := by decide +kernel
theorem dX7_nameHere_111 : decode cX7_nameHere 111 = .ok (.ireturn, 1) := by decide +kernel
theorem dX7_nameHere_112 : decode cX7_nameHere 112 = .ok (.iinc 1 1, 3) := by decide +kernel
theorem dX7_nameHere_115 : decode cX7_nameHere 115 = .ok (.goto (-113), 3) := by decide +kernel
theorem dX7_nameHere_118 : decode cX7_nameHere 118 = .ok (.bipush (-4), 2) := by decide +kernel
theorem dX7_nameHere_120 : decode cX7_nameHere 120 = .ok (.ireturn, 1) := by decide +kernel
set_option maxRecDepth 20000 in
theorem ggX7_step_X7_byteAt : GoodIn wsX7_step wsX7_byteAt := goodIn_r _ [14, 15, 16, 25, 26, 27, 28, 29, 30, 31, 32, 33, 34, 35, 36, 37, 38, 39, 40, 41, 42, 43, 44, 45, 46, 47, 48, 49] (by decide +kernel) (by decide +kernel)
set_option maxRecDepth 20000 in
theorem gX7_step_X7_byteAt : GoodIn wsX7_step (wsV RX7 75 RX7 yX7_byteAt wsX7_byteAt) := goodIn_app (goodIn_of _ (by decide +kernel)) ggX7_step_X7_byteAt
set_option maxRecDepth 20000 in
theorem ggX7_step_X7_in : GoodIn wsX7_step wsX7_in := goodIn_r _ [19] (by decide +kernel) (by decide +kernel)
set_option maxRecDepth 20000 in
theorem gX7_step_X7_in : GoodIn wsX7_step (va_wsS RX7 53 yX7_in wsX7_in) := goodIn_app (goodIn_of _ (by decide +kernel)) ggX7_step_X7_in
set_option maxRecDepth 20000 in
theorem ggX7_step_X7_fails : GoodIn wsX7_step wsX7_fails := goodIn_r _ [23, 1, 3, 24, 25, 26, 27, 28, 29, 30, 31, 32, 33, 34, 35, 36, 37, 38, 39, 40, 41, 42, 43, 44, 45, 46, 47, 48, 49] (by decide +kernel) (by decide +kernel)
set_option maxRecDepth 20000 in
theorem gX7_step_X7_fails : GoodIn wsX7_step (wsV RX7 90 RX7 yX7_fails wsX7_fails) := goodIn_app (goodIn_of _ (by decide +kernel)) ggX7_step_X7_fails
theorem dX7_step_0 : decode cX7_step 0 = .ok (.aload_n 0, 1) := by decide +kernel
theorem dX7_step_1 : decode cX7_step 1 = .ok (.getfield 60, 3) := by decide +kernel
theorem dX7_step_4 : decode cX7_step 4 = .ok (.ifCond .le 4, 3) := by decide +kernel
theorem dX7_step_7 : decode cX7_step 7 = .ok (.return_, 1) := by decide +kernel
theorem dX7_step_8 : decode cX7_step 8 = .ok (.aload_n 0, 1) := by decide +kernel
theorem dX7_step_9 : decode cX7_step 9 = .ok (.aload_n 0, 1) := by decide +kernel
theorem dX7_step_10 : decode cX7_step 10 = .ok (.getfield 72, 3) := by decide +kernel
theorem dX7_step_13 : decode cX7_step 13 = .ok (.invokevirtual 75, 3) := by decide +kernel
theorem dX7_step_16 : decode cX7_step 16 = .ok (.bipush 32, 2) := by decide +kernel
theorem dX7_step_18 : decode cX7_step 18 = .ok (.if_icmp .ne 16, 3) := by decide +kernel
theorem dX7_step_21 : decode cX7_step 21 = .ok (.aload_n 0, 1) := by decide +kernel
theorem dX7_step_22 : decode cX7_step 22 = .ok (.dup, 1) := by decide +kernel
theorem dX7_step_23 : decode cX7_step 23 = .ok (.getfield 72, 3) := by decide +kernel
theorem dX7_step_26 : decode cX7_step 26 = .ok (.iconst 1, 1) := by decide +kernel
theorem dX7_step_27 : decode cX7_step 27 = .ok (.iadd, 1) := by decide +kernel
theorem dX7_step_28 : decode cX7_step 28 = .ok (.putfield 72, 3) := by decide +kernel
theorem dX7_step_31 : decode cX7_step 31 = .ok (.goto (-23), 3) := by decide +kernel
theorem dX7_step_34 : decode cX7_step 34 = .ok (.aload_n 0, 1) := by decide +kernel
theorem dX7_step_35 : decode cX7_step 35 = .ok (.aload_n 0, 1) := by decide +kernel
theorem dX7_step_36 : decode cX7_step 36 = .ok (.getfield 72, 3) := by decide +kernel
theorem dX7_step_39 : decode cX7_step 39 = .ok (.putfield 63, 3) := by decide +kernel
theorem dX7_step_42 : decode cX7_step 42 = .ok (.aload_n 0, 1) := by decide +kernel
theorem dX7_step_43 : decode cX7_step 43 = .ok (.aload_n 0, 1) := by decide +kernel
theorem dX7_step_44 : decode cX7_step 44 = .ok (.getfield 72, 3) := by decide +kernel
theorem dX7_step_47 : decode cX7_step 47 = .ok (.invokevirtual 75, 3) := by decide +kernel
theorem dX7_step_50 : decode cX7_step 50 = .ok (.istore_n 1, 1) := by decide +kernel
theorem dX7_step_51 : decode cX7_step 51 = .ok (.aload_n 0, 1) := by decide +kernel
theorem dX7_step_52 : decode cX7_step 52 = .ok (.iconst 0, 1) := by decide +kernel
theorem dX7_step_53 : decode cX7_step 53 = .ok (.putfield 79, 3) := by decide +kernel
theorem dX7_step_56 : decode cX7_step 56 = .ok (.iload_n 1, 1) := by decide +kernel
theorem dX7_step_57 : decode cX7_step 57 = .ok (.bipush (-4), 2) := by decide +kernel
theorem dX7_step_59 : decode cX7_step 59 = .ok (.if_icmp .ne 11, 3) := by decide +kernel
theorem dX7_step_62 : decode cX7_step 62 = .ok (.aload_n 0, 1) := by decide +kernel
theorem dX7_step_63 : decode cX7_step 63 = .ok (.iconst 0, 1) := by decide +kernel
theorem dX7_step_64 : decode cX7_step 64 = .ok (.putfield 69, 3) := by decide +kernel
theorem dX7_step_67 : decode cX7_step 67 = .ok (.goto 202, 3) := by decide +kernel
theorem dX7_step_70 : decode cX7_step 70 = .ok (.iload_n 1, 1) := by decide +kernel
theorem dX7_step_71 : decode cX7_step 71 = .ok (.i2l, 1) := by decide +kernel
theorem dX7_step_72 : decode cX7_step 72 = .ok (.ldc2_w 82, 3) := by decide +kernel
theorem dX7_step_75 : decode cX7_step 75 = .ok (.ldc2_w 84, 3) := by decide +kernel
theorem dX7_step_78 : decode cX7_step 78 = .ok (.invokestatic 53, 3) := by decide +kernel
theorem dX7_step_81 : decode cX7_step 81 = .ok (.ifCond .eq 45, 3) := by decide +kernel
theorem dX7_step_84 : decode cX7_step 84 = .ok (.aload_n 0, 1) := by decide +kernel
theorem dX7_step_85 : decode cX7_step 85 = .ok (.aload_n 0, 1) := by decide +kernel
theorem dX7_step_86 : decode cX7_step 86 = .ok (.getfield 72, 3) := by decide +kernel
theorem dX7_step_89 : decode cX7_step 89 = .ok (.invokevirtual 75, 3) := by decide +kernel
theorem dX7_step_92 : decode cX7_step 92 = .ok (.i2l, 1) := by decide +kernel
theorem dX7_step_93 : decode cX7_step 93 = .ok (.ldc2_w 82, 3) := by decide +kernel
theorem dX7_step_96 : decode cX7_step 96 = .ok (.ldc2_w 84, 3) := by decide +kernel
theorem dX7_step_99 : decode cX7_step 99 = .ok (.invokestatic 53, 3) := by decide +kernel
theorem dX7_step_102 : decode cX7_step 102 = .ok (.ifCond .eq 16, 3) := by decide +kernel
theorem dX7_step_105 : decode cX7_step 105 = .ok (.aload_n 0, 1) := by decide +kernel
theorem dX7_step_106 : decode cX7_step 106 = .ok (.dup, 1) := by decide +kernel
theorem dX7_step_107 : decode cX7_step 107 = .ok (.getfield 72, 3) := by decide +kernel
theorem dX7_step_110 : decode cX7_step 110 = .ok (.iconst 1, 1) := by decide +kernel
theorem dX7_step_111 : decode cX7_step 111 = .ok (.iadd, 1) := by decide +kernel
theorem dX7_step_112 : decode cX7_step 112 = .ok (.putfield 72, 3) := by decide +kernel
theorem dX7_step_115 : decode cX7_step 115 = .ok (.goto (-31), 3) := by decide +kernel
theorem dX7_step_118 : decode cX7_step 118 = .ok (.aload_n 0, 1) := by decide +kernel
theorem dX7_step_119 : decode cX7_step 119 = .ok (.iconst 1, 1) := by decide +kernel
theorem dX7_step_120 : decode cX7_step 120 = .ok (.putfield 69, 3) := by decide +kernel
theorem dX7_step_123 : decode cX7_step 123 = .ok (.goto 146, 3) := by decide +kernel
theorem dX7_step_126 : decode cX7_step 126 = .ok (.iload_n 1, 1) := by decide +kernel
theorem dX7_step_127 : decode cX7_step 127 = .ok (.i2l, 1) := by decide +kernel
theorem dX7_step_128 : decode cX7_step 128 = .ok (.ldc2_w 86, 3) := by decide +kernel
theorem dX7_step_131 : decode cX7_step 131 = .ok (.ldc2_w 88, 3) := by decide +kernel
theorem dX7_step_134 : decode cX7_step 134 = .ok (.invokestatic 53, 3) := by decide +kernel
theorem dX7_step_137 : decode cX7_step 137 = .ok (.ifCond .eq 106, 3) := by decide +kernel
theorem dX7_step_140 : decode cX7_step 140 = .ok (.aload_n 0, 1) := by decide +kernel
theorem dX7_step_141 : decode cX7_step 141 = .ok (.aload_n 0, 1) := by decide +kernel
theorem dX7_step_142 : decode cX7_step 142 = .ok (.getfield 72, 3) := by decide +kernel
theorem dX7_step_145 : decode cX7_step 145 = .ok (.invokevirtual 75, 3) := by decide +kernel
theorem dX7_step_148 : decode cX7_step 148 = .ok (.i2l, 1) := by decide +kernel
theorem dX7_step_149 : decode cX7_step 149 = .ok (.ldc2_w 86, 3) := by decide +kernel
theorem dX7_step_152 : decode cX7_step 152 = .ok (.ldc2_w 88, 3) := by decide +kernel
theorem dX7_step_155 : decode cX7_step 155 = .ok (.invokestatic 53, 3) := by decide +kernel
theorem dX7_step_158 : decode cX7_step 158 = .ok (.ifCond .eq 59, 3) := by decide +kernel
theorem dX7_step_161 : decode cX7_step 161 = .ok (.aload_n 0, 1) := by decide +kernel
theorem dX7_step_162 : decode cX7_step 162 = .ok (.aload_n 0, 1) := by decide +kernel
theorem dX7_step_163 : decode cX7_step 163 = .ok (.getfield 72, 3) := by decide +kernel
theorem dX7_step_166 : decode cX7_step 166 = .ok (.aload_n 0, 1) := by decide +kernel
theorem dX7_step_167 : decode cX7_step 167 = .ok (.getfield 63, 3) := by decide +kernel
theorem dX7_step_170 : decode cX7_step 170 = .ok (.isub, 1) := by decide +kernel
theorem dX7_step_171 : decode cX7_step 171 = .ok (.iconst 2, 1) := by decide +kernel
theorem dX7_step_172 : decode cX7_step 172 = .ok (.if_icmp .ge 25, 3) := by decide +kernel
theorem dX7_step_175 : decode cX7_step 175 = .ok (.bipush 10, 2) := by decide +kernel
theorem dX7_step_177 : decode cX7_step 177 = .ok (.aload_n 0, 1) := by decide +kernel
theorem dX7_step_178 : decode cX7_step 178 = .ok (.getfield 79, 3) := by decide +kernel
theorem dX7_step_181 : decode cX7_step 181 = .ok (.imul, 1) := by decide +kernel
theorem dX7_step_182 : decode cX7_step 182 = .ok (.aload_n 0, 1) := by decide +kernel
theorem dX7_step_183 : decode cX7_step 183 = .ok (.aload_n 0, 1) := by decide +kernel
theorem dX7_step_184 : decode cX7_step 184 = .ok (.getfield 72, 3) := by decide +kernel
theorem dX7_step_187 : decode cX7_step 187 = .ok (.invokevirtual 75, 3) := by decide +kernel
theorem dX7_step_190 : decode cX7_step 190 = .ok (.iadd, 1) := by decide +kernel
theorem dX7_step_191 : decode cX7_step 191 = .ok (.bipush 48, 2) := by decide +kernel
theorem dX7_step_193 : decode cX7_step 193 = .ok (.isub, 1) := by decide +kernel
theorem dX7_step_194 : decode cX7_step 194 = .ok (.goto 7, 3) := by decide +kernel
theorem dX7_step_197 : decode cX7_step 197 = .ok (.aload_n 0, 1) := by decide +kernel
theorem dX7_step_198 : decode cX7_step 198 = .ok (.getfield 79, 3) := by decide +kernel
theorem dX7_step_201 : decode cX7_step 201 = .ok (.putfield 79, 3) := by decide +kernel
theorem dX7_step_204 : decode cX7_step 204 = .ok (.aload_n 0, 1) := by decide +kernel
theorem dX7_step_205 : decode cX7_step 205 = .ok (.dup, 1) := by decide +kernel
theorem dX7_step_206 : decode cX7_step 206 = .ok (.getfield 72, 3) := by decide +kernel
theorem dX7_step_209 : decode cX7_step 209 = .ok (.iconst 1, 1) := by decide +kernel
theorem dX7_step_210 : decode cX7_step 210 = .ok (.iadd, 1) := by decide +kernel
theorem dX7_step_211 : decode cX7_step 211 = .ok (.putfield 72, 3) := by decide +kernel
theorem dX7_step_214 : decode cX7_step 214 = .ok (.goto (-74), 3) := by decide +kernel
theorem dX7_step_217 : decode cX7_step 217 = .ok (.aload_n 0, 1) := by decide +kernel
theorem dX7_step_218 : decode cX7_step 218 = .ok (.iconst 2, 1) := by decide +kernel
theorem dX7_step_219 : decode cX7_step 219 = .ok (.putfield 69, 3) := by decide +kernel
theorem dX7_step_222 : decode cX7_step 222 = .ok (.aload_n 0, 1) := by decide +kernel
theorem dX7_step_223 : decode cX7_step 223 = .ok (.getfield 72, 3) := by decide +kernel
theorem dX7_step_226 : decode cX7_step 226 = .ok (.aload_n 0, 1) := by decide +kernel
theorem dX7_step_227 : decode cX7_step 227 = .ok (.getfield 63, 3) := by decide +kernel
theorem dX7_step_230 : decode cX7_step 230 = .ok (.isub, 1) := by decide +kernel
theorem dX7_step_231 : decode cX7_step 231 = .ok (.iconst 2, 1) := by decide +kernel
theorem dX7_step_232 : decode cX7_step 232 = .ok (.if_icmp .le 37, 3) := by decide +kernel
theorem dX7_step_235 : decode cX7_step 235 = .ok (.aload_n 0, 1) := by decide +kernel
theorem dX7_step_236 : decode cX7_step 236 = .ok (.iconst 1, 1) := by decide +kernel
theorem dX7_step_237 : decode cX7_step 237 = .ok (.invokevirtual 90, 3) := by decide +kernel
theorem dX7_step_240 : decode cX7_step 240 = .ok (.goto 29, 3) := by decide +kernel
theorem dX7_step_243 : decode cX7_step 243 = .ok (.aload_n 0, 1) := by decide +kernel
theorem dX7_step_244 : decode cX7_step 244 = .ok (.iconst 3, 1) := by decide +kernel
theorem dX7_step_245 : decode cX7_step 245 = .ok (.putfield 69, 3) := by decide +kernel
theorem dX7_step_248 : decode cX7_step 248 = .ok (.aload_n 0, 1) := by decide +kernel
theorem dX7_step_249 : decode cX7_step 249 = .ok (.dup, 1) := by decide +kernel
theorem dX7_step_250 : decode cX7_step 250 = .ok (.getfield 72, 3) := by decide +kernel
theorem dX7_step_253 : decode cX7_step 253 = .ok (.iconst 1, 1) := by decide +kernel
theorem dX7_step_254 : decode cX7_step 254 = .ok (.iadd, 1) := by decide +kernel
theorem dX7_step_255 : decode cX7_step 255 = .ok (.putfield 72, 3) := by decide +kernel
theorem dX7_step_258 : decode cX7_step 258 = .ok (.iload_n 1, 1) := by decide +kernel
theorem dX7_step_259 : decode cX7_step 259 = .ok (.bipush 59, 2) := by decide +kernel
theorem dX7_step_261 : decode cX7_step 261 = .ok (.if_icmp .eq 8, 3) := by decide +kernel
theorem dX7_step_264 : decode cX7_step 264 = .ok (.aload_n 0, 1) := by decide +kernel
theorem dX7_step_265 : decode cX7_step 265 = .ok (.iconst 1, 1) := by decide +kernel
theorem dX7_step_266 : decode cX7_step 266 = .ok (.invokevirtual 90, 3) := by decide +kernel
theorem dX7_step_269 : decode cX7_step 269 = .ok (.return_, 1) := by decide +kernel
set_option maxRecDepth 20000 in
theorem ggX7_number_X7_fails : GoodIn wsX7_number wsX7_fails := goodIn_r _ [8, 1, 9, 10, 29, 30, 31, 32, 33, 34, 35, 36, 37, 38, 39, 40, 41, 42, 43, 44, 45, 46, 47, 48, 49, 50, 51, 52, 53] (by decide +kernel) (by decide +kernel)
set_option maxRecDepth 20000 in
theorem gX7_number_X7_fails : GoodIn wsX7_number (wsV RX7 90 RX7 yX7_fails wsX7_fails) := goodIn_app (goodIn_of _ (by decide +kernel)) ggX7_number_X7_fails
set_option maxRecDepth 20000 in
theorem ggX7_number_X7_in : GoodIn wsX7_number wsX7_in := goodIn_r _ [13] (by decide +kernel) (by decide +kernel)
set_option maxRecDepth 20000 in
theorem gX7_number_X7_in : GoodIn wsX7_number (va_wsS RX7 53 yX7_in wsX7_in) := goodIn_app (goodIn_of _ (by decide +kernel)) ggX7_number_X7_in
set_option maxRecDepth 20000 in
theorem ggX7_number_X7_step : GoodIn wsX7_number wsX7_step := goodIn_r _ [17, 1, 18, 9, 3, 2, 19, 20, 21, 22, 23, 24, 25, 7, 26, 27, 28, 11, 12, 13, 4, 5, 6, 8, 10, 29, 30, 31, 32, 33, 34, 35, 36, 37, 38, 39, 40, 41, 42, 43, 44, 45, 46, 47, 48, 49, 50, 51, 52, 53] (by decide +kernel) (by decide +kernel)
set_option maxRecDepth 20000 in
theorem gX7_number_X7_step : GoodIn wsX7_number (wsV RX7 94 RX7 yX7_step wsX7_step) := goodIn_app (goodIn_of _ (by decide +kernel)) ggX7_number_X7_step
theorem dX7_number_0 : decode cX7_number 0 = .ok (.aload_n 0, 1) := by decide +kernel
theorem dX7_number_1 : decode cX7_number 1 = .ok (.getfield 60, 3) := by decide +kernel
theorem dX7_number_4 : decode cX7_number 4 = .ok (.ifCond .ne 16, 3) := by decide +kernel
theorem dX7_number_7 : decode cX7_number 7 = .ok (.aload_n 0, 1) := by decide +kernel
theorem dX7_number_8 : decode cX7_number 8 = .ok (.getfield 69, 3) := by decide +kernel
theorem dX7_number_11 : decode cX7_number 11 = .ok (.iconst 2, 1) := by decide +kernel
theorem dX7_number_12 : decode cX7_number 12 = .ok (.if_icmp .eq 8, 3) := by decide +kernel
theorem dX7_number_15 : decode cX7_number 15 = .ok (.aload_n 0, 1) := by decide +kernel
theorem dX7_number_16 : decode cX7_number 16 = .ok (.iconst 2, 1) := by decide +kernel
theorem dX7_number_17 : decode cX7_number 17 = .ok (.invokevirtual 90, 3) := by decide +kernel
theorem dX7_number_20 : decode cX7_number 20 = .ok (.aload_n 0, 1) := by decide +kernel
theorem dX7_number_21 : decode cX7_number 21 = .ok (.getfield 60, 3) := by decide +kernel
theorem dX7_number_24 : decode cX7_number 24 = .ok (.ifCond .ne 23, 3) := by decide +kernel
theorem dX7_number_27 : decode cX7_number 27 = .ok (.aload_n 0, 1) := by decide +kernel
theorem dX7_number_28 : decode cX7_number 28 = .ok (.getfield 79, 3) := by decide +kernel
theorem dX7_number_31 : decode cX7_number 31 = .ok (.i2l, 1) := by decide +kernel
theorem dX7_number_32 : decode cX7_number 32 = .ok (.iload_n 1, 1) := by decide +kernel
theorem dX7_number_33 : decode cX7_number 33 = .ok (.i2l, 1) := by decide +kernel
theorem dX7_number_34 : decode cX7_number 34 = .ok (.iload_n 2, 1) := by decide +kernel
theorem dX7_number_35 : decode cX7_number 35 = .ok (.i2l, 1) := by decide +kernel
theorem dX7_number_36 : decode cX7_number 36 = .ok (.invokestatic 53, 3) := by decide +kernel
theorem dX7_number_39 : decode cX7_number 39 = .ok (.ifCond .ne 8, 3) := by decide +kernel
theorem dX7_number_42 : decode cX7_number 42 = .ok (.aload_n 0, 1) := by decide +kernel
theorem dX7_number_43 : decode cX7_number 43 = .ok (.iconst 3, 1) := by decide +kernel
theorem dX7_number_44 : decode cX7_number 44 = .ok (.invokevirtual 90, 3) := by decide +kernel
theorem dX7_number_47 : decode cX7_number 47 = .ok (.aload_n 0, 1) := by decide +kernel
theorem dX7_number_48 : decode cX7_number 48 = .ok (.getfield 60, 3) := by decide +kernel
theorem dX7_number_51 : decode cX7_number 51 = .ok (.ifCond .ne 10, 3) := by decide +kernel
theorem dX7_number_54 : decode cX7_number 54 = .ok (.aload_n 0, 1) := by decide +kernel
theorem dX7_number_55 : decode cX7_number 55 = .ok (.getfield 79, 3) := by decide +kernel
theorem dX7_number_58 : decode cX7_number 58 = .ok (.goto 4, 3) := by decide +kernel
theorem dX7_number_61 : decode cX7_number 61 = .ok (.iload_n 1, 1) := by decide +kernel
theorem dX7_number_62 : decode cX7_number 62 = .ok (.istore_n 3, 1) := by decide +kernel
theorem dX7_number_63 : decode cX7_number 63 = .ok (.aload_n 0, 1) := by decide +kernel
theorem dX7_number_64 : decode cX7_number 64 = .ok (.invokevirtual 94, 3) := by decide +kernel
theorem dX7_number_67 : decode cX7_number 67 = .ok (.iload_n 3, 1) := by decide +kernel
theorem dX7_number_68 : decode cX7_number 68 = .ok (.ireturn, 1) := by decide +kernel
set_option maxRecDepth 20000 in
theorem ggX7_readHedges_X7_in : GoodIn wsX7_readHedges wsX7_in := goodIn_r _ [10] (by decide +kernel) (by decide +kernel)
set_option maxRecDepth 20000 in
theorem gX7_readHedges_X7_in : GoodIn wsX7_readHedges (va_wsS RX7 53 yX7_in wsX7_in) := goodIn_app (goodIn_of _ (by decide +kernel)) ggX7_readHedges_X7_in
set_option maxRecDepth 20000 in
theorem ggX7_readHedges_X7_fails : GoodIn wsX7_readHedges wsX7_fails := goodIn_r _ [14, 1, 15, 16, 36, 37, 38, 39, 40, 41, 42, 43, 44, 45, 46, 47, 48, 49, 50, 51, 52, 53, 54, 55, 56, 57, 58, 59, 60] (by decide +kernel) (by decide +kernel)
set_option maxRecDepth 20000 in
theorem gX7_readHedges_X7_fails : GoodIn wsX7_readHedges (wsV RX7 90 RX7 yX7_fails wsX7_fails) := goodIn_app (goodIn_of _ (by decide +kernel)) ggX7_readHedges_X7_fails
set_option maxRecDepth 20000 in
theorem ggX7_readHedges_X7_number : GoodIn wsX7_readHedges wsX7_number := goodIn_r _ [20, 1, 2, 3, 11, 12, 13, 9, 14, 15, 16, 7, 8, 10, 21, 22, 23, 24, 25, 26, 27, 28, 29, 30, 31, 32, 33, 34, 35, 36, 37, 38, 39, 40, 41, 42, 43, 44, 45, 46, 47, 48, 49, 50, 51, 52, 53, 54, 55, 56, 57, 58, 59, 60] (by decide +kernel) (by decide +kernel)
set_option maxRecDepth 20000 in
theorem gX7_readHedges_X7_number : GoodIn wsX7_readHedges (wsV RX7 102 RX7 yX7_number wsX7_number) := goodIn_app (goodIn_of _ (by decide +kernel)) ggX7_readHedges_X7_number
theorem dX7_readHedges_0 : decode cX7_readHedges 0 = .ok (.aload_n 0, 1) := by decide +kernel
theorem dX7_readHedges_1 : decode cX7_readHedges 1 = .ok (.getfield 60, 3) := by decide +kernel
theorem dX7_readHedges_4 : decode cX7_readHedges 4 = .ok (.ifCond .ne 76, 3) := by decide +kernel
theorem dX7_readHedges_7 : decode cX7_readHedges 7 = .ok (.aload_n 0, 1) := by decide +kernel
theorem dX7_readHedges_8 : decode cX7_readHedges 8 = .ok (.getfield 69, 3) := by decide +kernel
theorem dX7_readHedges_11 : decode cX7_readHedges 11 = .ok (.iconst 2, 1) := by decide +kernel
theorem dX7_readHedges_12 : decode cX7_readHedges 12 = .ok (.if_icmp .ne 68, 3) := by decide +kernel
theorem dX7_readHedges_15 : decode cX7_readHedges 15 = .ok (.aload_n 0, 1) := by decide +kernel
theorem dX7_readHedges_16 : decode cX7_readHedges 16 = .ok (.getfield 79, 3) := by decide +kernel
theorem dX7_readHedges_19 : decode cX7_readHedges 19 = .ok (.i2l, 1) := by decide +kernel
theorem dX7_readHedges_20 : decode cX7_readHedges 20 = .ok (.lconst 0, 1) := by decide +kernel
theorem dX7_readHedges_21 : decode cX7_readHedges 21 = .ok (.ldc2_w 97, 3) := by decide +kernel
theorem dX7_readHedges_24 : decode cX7_readHedges 24 = .ok (.invokestatic 53, 3) := by decide +kernel
theorem dX7_readHedges_27 : decode cX7_readHedges 27 = .ok (.ifCond .eq 23, 3) := by decide +kernel
theorem dX7_readHedges_30 : decode cX7_readHedges 30 = .ok (.aload_n 0, 1) := by decide +kernel
theorem dX7_readHedges_31 : decode cX7_readHedges 31 = .ok (.getfield 99, 3) := by decide +kernel
theorem dX7_readHedges_34 : decode cX7_readHedges 34 = .ok (.aload_n 0, 1) := by decide +kernel
theorem dX7_readHedges_35 : decode cX7_readHedges 35 = .ok (.getfield 79, 3) := by decide +kernel
theorem dX7_readHedges_38 : decode cX7_readHedges 38 = .ok (.ishr, 1) := by decide +kernel
theorem dX7_readHedges_39 : decode cX7_readHedges 39 = .ok (.iconst 1, 1) := by decide +kernel
theorem dX7_readHedges_40 : decode cX7_readHedges 40 = .ok (.iand, 1) := by decide +kernel
theorem dX7_readHedges_41 : decode cX7_readHedges 41 = .ok (.iconst 1, 1) := by decide +kernel
theorem dX7_readHedges_42 : decode cX7_readHedges 42 = .ok (.if_icmp .ne 8, 3) := by decide +kernel
theorem dX7_readHedges_45 : decode cX7_readHedges 45 = .ok (.aload_n 0, 1) := by decide +kernel
theorem dX7_readHedges_46 : decode cX7_readHedges 46 = .ok (.iconst 4, 1) := by decide +kernel
theorem dX7_readHedges_47 : decode cX7_readHedges 47 = .ok (.invokevirtual 90, 3) := by decide +kernel
theorem dX7_readHedges_50 : decode cX7_readHedges 50 = .ok (.aload_n 0, 1) := by decide +kernel
theorem dX7_readHedges_51 : decode cX7_readHedges 51 = .ok (.iconst 0, 1) := by decide +kernel
theorem dX7_readHedges_52 : decode cX7_readHedges 52 = .ok (.bipush 23, 2) := by decide +kernel
theorem dX7_readHedges_54 : decode cX7_readHedges 54 = .ok (.invokevirtual 102, 3) := by decide +kernel
theorem dX7_readHedges_57 : decode cX7_readHedges 57 = .ok (.istore_n 1, 1) := by decide +kernel
theorem dX7_readHedges_58 : decode cX7_readHedges 58 = .ok (.aload_n 0, 1) := by decide +kernel
theorem dX7_readHedges_59 : decode cX7_readHedges 59 = .ok (.dup, 1) := by decide +kernel
theorem dX7_readHedges_60 : decode cX7_readHedges 60 = .ok (.getfield 99, 3) := by decide +kernel
theorem dX7_readHedges_63 : decode cX7_readHedges 63 = .ok (.iconst 1, 1) := by decide +kernel
theorem dX7_readHedges_64 : decode cX7_readHedges 64 = .ok (.iload_n 1, 1) := by decide +kernel
theorem dX7_readHedges_65 : decode cX7_readHedges 65 = .ok (.ishl, 1) := by decide +kernel
theorem dX7_readHedges_66 : decode cX7_readHedges 66 = .ok (.ior, 1) := by decide +kernel
theorem dX7_readHedges_67 : decode cX7_readHedges 67 = .ok (.putfield 99, 3) := by decide +kernel
theorem dX7_readHedges_70 : decode cX7_readHedges 70 = .ok (.aload_n 0, 1) := by decide +kernel
theorem dX7_readHedges_71 : decode cX7_readHedges 71 = .ok (.getfield 13, 3) := by decide +kernel
theorem dX7_readHedges_74 : decode cX7_readHedges 74 = .ok (.iload_n 1, 1) := by decide +kernel
theorem dX7_readHedges_75 : decode cX7_readHedges 75 = .ok (.iconst 1, 1) := by decide +kernel
theorem dX7_readHedges_76 : decode cX7_readHedges 76 = .ok (.iastore, 1) := by decide +kernel
theorem dX7_readHedges_77 : decode cX7_readHedges 77 = .ok (.goto (-77), 3) := by decide +kernel
theorem dX7_readHedges_80 : decode cX7_readHedges 80 = .ok (.return_, 1) := by decide +kernel
set_option maxRecDepth 20000 in
theorem ggX7_readMore_X7_number : GoodIn wsX7_readMore wsX7_number := goodIn_r _ [6, 7, 8, 9, 10, 11, 12, 5, 13, 14, 15, 16, 17, 18, 19, 20, 21, 22, 23, 24, 25, 26, 27, 28, 29, 30, 31, 32, 33, 40, 41, 42, 43, 44, 45, 46, 47, 48, 49, 50, 51, 52, 53, 54, 55, 56, 57, 58, 59, 60, 61, 62, 63, 64] (by decide +kernel) (by decide +kernel)
set_option maxRecDepth 20000 in
theorem gX7_readMore_X7_number : GoodIn wsX7_readMore (wsV RX7 102 RX7 yX7_number wsX7_number) := goodIn_app (goodIn_of _ (by decide +kernel)) ggX7_readMore_X7_number
set_option maxRecDepth 20000 in
theorem ggX7_readMore_X7_readHedges : GoodIn wsX7_readMore wsX7_readHedges := goodIn_r _ [37, 7, 8, 9, 38, 39, 1, 16, 17, 5, 18, 10, 11, 12, 13, 14, 15, 2, 3, 4, 6, 19, 20, 21, 22, 23, 24, 25, 26, 27, 28, 29, 30, 31, 32, 33, 40, 41, 42, 43, 44, 45, 46, 47, 48, 49, 50, 51, 52, 53, 54, 55, 56, 57, 58, 59, 60, 61, 62, 63, 64] (by decide +kernel) (by decide +kernel)
set_option maxRecDepth 20000 in
theorem gX7_readMore_X7_readHedges : GoodIn wsX7_readMore (wsV RX7 106 RX7 yX7_readHedges wsX7_readHedges) := goodIn_app (goodIn_of _ (by decide +kernel)) ggX7_readMore_X7_readHedges
theorem dX7_readMore_0 : decode cX7_readMore 0 = .ok (.iload_n 1, 1) := by decide +kernel
theorem dX7_readMore_1 : decode cX7_readMore 1 = .ok (.iconst 3, 1) := by decide +kernel
theorem dX7_readMore_2 : decode cX7_readMore 2 = .ok (.if_icmp .gt 67, 3) := by decide +kernel
theorem dX7_readMore_5 : decode cX7_readMore 5 = .ok (.aload_n 0, 1) := by decide +kernel
theorem dX7_readMore_6 : decode cX7_readMore 6 = .ok (.getfield 13, 3) := by decide +kernel
theorem dX7_readMore_9 : decode cX7_readMore 9 = .ok (.bipush 37, 2) := by decide +kernel
theorem dX7_readMore_11 : decode cX7_readMore 11 = .ok (.iaload, 1) := by decide +kernel
theorem dX7_readMore_12 : decode cX7_readMore 12 = .ok (.istore_n 2, 1) := by decide +kernel
theorem dX7_readMore_13 : decode cX7_readMore 13 = .ok (.aload_n 0, 1) := by decide +kernel
theorem dX7_readMore_14 : decode cX7_readMore 14 = .ok (.getfield 13, 3) := by decide +kernel
theorem dX7_readMore_17 : decode cX7_readMore 17 = .ok (.bipush 25, 2) := by decide +kernel
theorem dX7_readMore_19 : decode cX7_readMore 19 = .ok (.iload_n 2, 1) := by decide +kernel
theorem dX7_readMore_20 : decode cX7_readMore 20 = .ok (.iadd, 1) := by decide +kernel
theorem dX7_readMore_21 : decode cX7_readMore 21 = .ok (.iload_n 1, 1) := by decide +kernel
theorem dX7_readMore_22 : decode cX7_readMore 22 = .ok (.iastore, 1) := by decide +kernel
theorem dX7_readMore_23 : decode cX7_readMore 23 = .ok (.aload_n 0, 1) := by decide +kernel
theorem dX7_readMore_24 : decode cX7_readMore 24 = .ok (.getfield 13, 3) := by decide +kernel
theorem dX7_readMore_27 : decode cX7_readMore 27 = .ok (.bipush 29, 2) := by decide +kernel
theorem dX7_readMore_29 : decode cX7_readMore 29 = .ok (.iload_n 2, 1) := by decide +kernel
theorem dX7_readMore_30 : decode cX7_readMore 30 = .ok (.iadd, 1) := by decide +kernel
theorem dX7_readMore_31 : decode cX7_readMore 31 = .ok (.aload_n 0, 1) := by decide +kernel
theorem dX7_readMore_32 : decode cX7_readMore 32 = .ok (.iconst 0, 1) := by decide +kernel
theorem dX7_readMore_33 : decode cX7_readMore 33 = .ok (.bipush 23, 2) := by decide +kernel
theorem dX7_readMore_35 : decode cX7_readMore 35 = .ok (.invokevirtual 102, 3) := by decide +kernel
theorem dX7_readMore_38 : decode cX7_readMore 38 = .ok (.iastore, 1) := by decide +kernel
theorem dX7_readMore_39 : decode cX7_readMore 39 = .ok (.aload_n 0, 1) := by decide +kernel
theorem dX7_readMore_40 : decode cX7_readMore 40 = .ok (.getfield 13, 3) := by decide +kernel
theorem dX7_readMore_43 : decode cX7_readMore 43 = .ok (.bipush 33, 2) := by decide +kernel
theorem dX7_readMore_45 : decode cX7_readMore 45 = .ok (.iload_n 2, 1) := by decide +kernel
theorem dX7_readMore_46 : decode cX7_readMore 46 = .ok (.iadd, 1) := by decide +kernel
theorem dX7_readMore_47 : decode cX7_readMore 47 = .ok (.aload_n 0, 1) := by decide +kernel
theorem dX7_readMore_48 : decode cX7_readMore 48 = .ok (.iconst 0, 1) := by decide +kernel
theorem dX7_readMore_49 : decode cX7_readMore 49 = .ok (.bipush 9, 2) := by decide +kernel
theorem dX7_readMore_51 : decode cX7_readMore 51 = .ok (.invokevirtual 102, 3) := by decide +kernel
theorem dX7_readMore_54 : decode cX7_readMore 54 = .ok (.iastore, 1) := by decide +kernel
theorem dX7_readMore_55 : decode cX7_readMore 55 = .ok (.aload_n 0, 1) := by decide +kernel
theorem dX7_readMore_56 : decode cX7_readMore 56 = .ok (.getfield 13, 3) := by decide +kernel
theorem dX7_readMore_59 : decode cX7_readMore 59 = .ok (.bipush 37, 2) := by decide +kernel
theorem dX7_readMore_61 : decode cX7_readMore 61 = .ok (.dup2, 1) := by decide +kernel
theorem dX7_readMore_62 : decode cX7_readMore 62 = .ok (.iaload, 1) := by decide +kernel
theorem dX7_readMore_63 : decode cX7_readMore 63 = .ok (.iconst 1, 1) := by decide +kernel
theorem dX7_readMore_64 : decode cX7_readMore 64 = .ok (.iadd, 1) := by decide +kernel
theorem dX7_readMore_65 : decode cX7_readMore 65 = .ok (.iastore, 1) := by decide +kernel
theorem dX7_readMore_66 : decode cX7_readMore 66 = .ok (.goto 88, 3) := by decide +kernel
theorem dX7_readMore_69 : decode cX7_readMore 69 = .ok (.iload_n 1, 1) := by decide +kernel
theorem dX7_readMore_70 : decode cX7_readMore 70 = .ok (.iconst 4, 1) := by decide +kernel
theorem dX7_readMore_71 : decode cX7_readMore 71 = .ok (.if_icmp .ne 57, 3) := by decide +kernel
theorem dX7_readMore_74 : decode cX7_readMore 74 = .ok (.aload_n 0, 1) := by decide +kernel
theorem dX7_readMore_75 : decode cX7_readMore 75 = .ok (.getfield 13, 3) := by decide +kernel
theorem dX7_readMore_78 : decode cX7_readMore 78 = .ok (.bipush 51, 2) := by decide +kernel
theorem dX7_readMore_80 : decode cX7_readMore 80 = .ok (.iaload, 1) := by decide +kernel
theorem dX7_readMore_81 : decode cX7_readMore 81 = .ok (.istore_n 2, 1) := by decide +kernel
theorem dX7_readMore_82 : decode cX7_readMore 82 = .ok (.aload_n 0, 1) := by decide +kernel
theorem dX7_readMore_83 : decode cX7_readMore 83 = .ok (.getfield 13, 3) := by decide +kernel
theorem dX7_readMore_86 : decode cX7_readMore 86 = .ok (.bipush 39, 2) := by decide +kernel
theorem dX7_readMore_88 : decode cX7_readMore 88 = .ok (.iload_n 2, 1) := by decide +kernel
theorem dX7_readMore_89 : decode cX7_readMore 89 = .ok (.iadd, 1) := by decide +kernel
theorem dX7_readMore_90 : decode cX7_readMore 90 = .ok (.aload_n 0, 1) := by decide +kernel
theorem dX7_readMore_91 : decode cX7_readMore 91 = .ok (.iconst 0, 1) := by decide +kernel
theorem dX7_readMore_92 : decode cX7_readMore 92 = .ok (.bipush 15, 2) := by decide +kernel
theorem dX7_readMore_94 : decode cX7_readMore 94 = .ok (.invokevirtual 102, 3) := by decide +kernel
theorem dX7_readMore_97 : decode cX7_readMore 97 = .ok (.iastore, 1) := by decide +kernel
theorem dX7_readMore_98 : decode cX7_readMore 98 = .ok (.aload_n 0, 1) := by decide +kernel
theorem dX7_readMore_99 : decode cX7_readMore 99 = .ok (.getfield 13, 3) := by decide +kernel
theorem dX7_readMore_102 : decode cX7_readMore 102 = .ok (.bipush 43, 2) := by decide +kernel
theorem dX7_readMore_104 : decode cX7_readMore 104 = .ok (.iload_n 2, 1) := by decide +kernel
theorem dX7_readMore_105 : decode cX7_readMore 105 = .ok (.iadd, 1) := by decide +kernel
theorem dX7_readMore_106 : decode cX7_readMore 106 = .ok (.aload_n 0, 1) := by decide +kernel
theorem dX7_readMore_107 : decode cX7_readMore 107 = .ok (.iconst 0, 1) := by decide +kernel
theorem dX7_readMore_108 : decode cX7_readMore 108 = .ok (.bipush 60, 2) := by decide +kernel
theorem dX7_readMore_110 : decode cX7_readMore 110 = .ok (.invokevirtual 102, 3) := by decide +kernel
theorem dX7_readMore_113 : decode cX7_readMore 113 = .ok (.iastore, 1) := by decide +kernel
theorem dX7_readMore_114 : decode cX7_readMore 114 = .ok (.aload_n 0, 1) := by decide +kernel
theorem dX7_readMore_115 : decode cX7_readMore 115 = .ok (.getfield 13, 3) := by decide +kernel
theorem dX7_readMore_118 : decode cX7_readMore 118 = .ok (.bipush 51, 2) := by decide +kernel
theorem dX7_readMore_120 : decode cX7_readMore 120 = .ok (.dup2, 1) := by decide +kernel
theorem dX7_readMore_121 : decode cX7_readMore 121 = .ok (.iaload, 1) := by decide +kernel
theorem dX7_readMore_122 : decode cX7_readMore 122 = .ok (.iconst 1, 1) := by decide +kernel
theorem dX7_readMore_123 : decode cX7_readMore 123 = .ok (.iadd, 1) := by decide +kernel
theorem dX7_readMore_124 : decode cX7_readMore 124 = .ok (.iastore, 1) := by decide +kernel
theorem dX7_readMore_125 : decode cX7_readMore 125 = .ok (.goto 29, 3) := by decide +kernel
theorem dX7_readMore_128 : decode cX7_readMore 128 = .ok (.iload_n 1, 1) := by decide +kernel
theorem dX7_readMore_129 : decode cX7_readMore 129 = .ok (.iconst 5, 1) := by decide +kernel
theorem dX7_readMore_130 : decode cX7_readMore 130 = .ok (.if_icmp .ne 10, 3) := by decide +kernel
theorem dX7_readMore_133 : decode cX7_readMore 133 = .ok (.aload_n 0, 1) := by decide +kernel
theorem dX7_readMore_134 : decode cX7_readMore 134 = .ok (.invokevirtual 106, 3) := by decide +kernel
theorem dX7_readMore_137 : decode cX7_readMore 137 = .ok (.goto 17, 3) := by decide +kernel
theorem dX7_readMore_140 : decode cX7_readMore 140 = .ok (.aload_n 0, 1) := by decide +kernel
theorem dX7_readMore_141 : decode cX7_readMore 141 = .ok (.getfield 13, 3) := by decide +kernel
theorem dX7_readMore_144 : decode cX7_readMore 144 = .ok (.bipush 24, 2) := by decide +kernel
theorem dX7_readMore_146 : decode cX7_readMore 146 = .ok (.aload_n 0, 1) := by decide +kernel
theorem dX7_readMore_147 : decode cX7_readMore 147 = .ok (.iconst 0, 1) := by decide +kernel
theorem dX7_readMore_148 : decode cX7_readMore 148 = .ok (.bipush 15, 2) := by decide +kernel
theorem dX7_readMore_150 : decode cX7_readMore 150 = .ok (.invokevirtual 102, 3) := by decide +kernel
theorem dX7_readMore_153 : decode cX7_readMore 153 = .ok (.iastore, 1) := by decide +kernel
theorem dX7_readMore_154 : decode cX7_readMore 154 = .ok (.return_, 1) := by decide +kernel
set_option maxRecDepth 20000 in
theorem ggX7_readLine_X7_nameHere : GoodIn wsX7_readLine wsX7_nameHere := goodIn_r _ [10, 5, 11, 12, 13, 14, 15, 16, 17, 9, 18, 19, 20, 52, 53, 54, 55, 56, 57, 58, 59, 60, 61, 62, 63, 64, 65, 66, 67, 68, 69, 70, 71, 72, 73, 74, 75, 76] (by decide +kernel) (by decide +kernel)
set_option maxRecDepth 20000 in
theorem gX7_readLine_X7_nameHere : GoodIn wsX7_readLine (wsV RX7 109 RX7 yX7_nameHere wsX7_nameHere) := goodIn_app (goodIn_of _ (by decide +kernel)) ggX7_readLine_X7_nameHere
set_option maxRecDepth 20000 in
theorem ggX7_readLine_X7_in : GoodIn wsX7_readLine wsX7_in := goodIn_r _ [23] (by decide +kernel) (by decide +kernel)
set_option maxRecDepth 20000 in
theorem gX7_readLine_X7_in : GoodIn wsX7_readLine (va_wsS RX7 53 yX7_in wsX7_in) := goodIn_app (goodIn_of _ (by decide +kernel)) ggX7_readLine_X7_in
set_option maxRecDepth 20000 in
theorem ggX7_readLine_X7_fails : GoodIn wsX7_readLine wsX7_fails := goodIn_r _ [27, 4, 12, 28, 52, 53, 54, 55, 56, 57, 58, 59, 60, 61, 62, 63, 64, 65, 66, 67, 68, 69, 70, 71, 72, 73, 74, 75, 76] (by decide +kernel) (by decide +kernel)
set_option maxRecDepth 20000 in
theorem gX7_readLine_X7_fails : GoodIn wsX7_readLine (wsV RX7 90 RX7 yX7_fails wsX7_fails) := goodIn_app (goodIn_of _ (by decide +kernel)) ggX7_readLine_X7_fails
set_option maxRecDepth 20000 in
theorem ggX7_readLine_X7_step : GoodIn wsX7_readLine wsX7_step := goodIn_r _ [32, 4, 11, 12, 33, 5, 34, 35, 36, 37, 15, 16, 17, 9, 18, 19, 20, 21, 22, 23, 24, 25, 26, 27, 28, 52, 53, 54, 55, 56, 57, 58, 59, 60, 61, 62, 63, 64, 65, 66, 67, 68, 69, 70, 71, 72, 73, 74, 75, 76] (by decide +kernel) (by decide +kernel)
set_option maxRecDepth 20000 in
theorem gX7_readLine_X7_step : GoodIn wsX7_readLine (wsV RX7 94 RX7 yX7_step wsX7_step) := goodIn_app (goodIn_of _ (by decide +kernel)) ggX7_readLine_X7_step
set_option maxRecDepth 20000 in
theorem ggX7_readLine_X7_readMore : GoodIn wsX7_readLine wsX7_readMore := goodIn_r _ [41, 2, 42, 43, 44, 9, 45, 4, 5, 33, 24, 25, 26, 27, 12, 28, 21, 22, 23, 29, 30, 31, 32, 11, 34, 35, 36, 37, 15, 16, 17, 18, 19, 20, 46, 47, 48, 49, 50, 51, 52, 53, 54, 55, 56, 57, 58, 59, 60, 61, 62, 63, 64, 65, 66, 67, 68, 69, 70, 71, 72, 73, 74, 75, 76] (by decide +kernel) (by decide +kernel)
set_option maxRecDepth 20000 in
theorem gX7_readLine_X7_readMore : GoodIn wsX7_readLine (wsV RX7 119 RX7 yX7_readMore wsX7_readMore) := goodIn_app (goodIn_of _ (by decide +kernel)) ggX7_readLine_X7_readMore
theorem dX7_readLine_0 : decode cX7_readLine 0 = .ok (.aload_n 0, 1) := by decide +kernel
theorem dX7_readLine_1 : decode cX7_readLine 1 = .ok (.invokevirtual 109, 3) := by decide +kernel
theorem dX7_readLine_4 : decode cX7_readLine 4 = .ok (.istore_n 1, 1) := by decide +kernel
theorem dX7_readLine_5 : decode cX7_readLine 5 = .ok (.iload_n 1, 1) := by decide +kernel
theorem dX7_readLine_6 : decode cX7_readLine 6 = .ok (.i2l, 1) := by decide +kernel
theorem dX7_readLine_7 : decode cX7_readLine 7 = .ok (.lconst 0, 1) := by decide +kernel
theorem dX7_readLine_8 : decode cX7_readLine 8 = .ok (.ldc2_w 113, 3) := by decide +kernel
theorem dX7_readLine_11 : decode cX7_readLine 11 = .ok (.invokestatic 53, 3) := by decide +kernel
theorem dX7_readLine_14 : decode cX7_readLine 14 = .ok (.ifCond .ne 9, 3) := by decide +kernel
theorem dX7_readLine_17 : decode cX7_readLine 17 = .ok (.aload_n 0, 1) := by decide +kernel
theorem dX7_readLine_18 : decode cX7_readLine 18 = .ok (.iconst 2, 1) := by decide +kernel
theorem dX7_readLine_19 : decode cX7_readLine 19 = .ok (.invokevirtual 90, 3) := by decide +kernel
theorem dX7_readLine_22 : decode cX7_readLine 22 = .ok (.return_, 1) := by decide +kernel
theorem dX7_readLine_23 : decode cX7_readLine 23 = .ok (.iload_n 1, 1) := by decide +kernel
theorem dX7_readLine_24 : decode cX7_readLine 24 = .ok (.iconst 3, 1) := by decide +kernel
theorem dX7_readLine_25 : decode cX7_readLine 25 = .ok (.if_icmp .gt 14, 3) := by decide +kernel
theorem dX7_readLine_28 : decode cX7_readLine 28 = .ok (.aload_n 0, 1) := by decide +kernel
theorem dX7_readLine_29 : decode cX7_readLine 29 = .ok (.getfield 13, 3) := by decide +kernel
theorem dX7_readLine_32 : decode cX7_readLine 32 = .ok (.bipush 37, 2) := by decide +kernel
theorem dX7_readLine_34 : decode cX7_readLine 34 = .ok (.iaload, 1) := by decide +kernel
theorem dX7_readLine_35 : decode cX7_readLine 35 = .ok (.iconst 4, 1) := by decide +kernel
theorem dX7_readLine_36 : decode cX7_readLine 36 = .ok (.if_icmp .eq 19, 3) := by decide +kernel
theorem dX7_readLine_39 : decode cX7_readLine 39 = .ok (.iload_n 1, 1) := by decide +kernel
theorem dX7_readLine_40 : decode cX7_readLine 40 = .ok (.iconst 4, 1) := by decide +kernel
theorem dX7_readLine_41 : decode cX7_readLine 41 = .ok (.if_icmp .ne 19, 3) := by decide +kernel
theorem dX7_readLine_44 : decode cX7_readLine 44 = .ok (.aload_n 0, 1) := by decide +kernel
theorem dX7_readLine_45 : decode cX7_readLine 45 = .ok (.getfield 13, 3) := by decide +kernel
theorem dX7_readLine_48 : decode cX7_readLine 48 = .ok (.bipush 51, 2) := by decide +kernel
theorem dX7_readLine_50 : decode cX7_readLine 50 = .ok (.iaload, 1) := by decide +kernel
theorem dX7_readLine_51 : decode cX7_readLine 51 = .ok (.iconst 4, 1) := by decide +kernel
theorem dX7_readLine_52 : decode cX7_readLine 52 = .ok (.if_icmp .ne 8, 3) := by decide +kernel
theorem dX7_readLine_55 : decode cX7_readLine 55 = .ok (.aload_n 0, 1) := by decide +kernel
theorem dX7_readLine_56 : decode cX7_readLine 56 = .ok (.iconst 5, 1) := by decide +kernel
theorem dX7_readLine_57 : decode cX7_readLine 57 = .ok (.invokevirtual 90, 3) := by decide +kernel
theorem dX7_readLine_60 : decode cX7_readLine 60 = .ok (.iload_n 1, 1) := by decide +kernel
theorem dX7_readLine_61 : decode cX7_readLine 61 = .ok (.bipush 6, 2) := by decide +kernel
theorem dX7_readLine_63 : decode cX7_readLine 63 = .ok (.if_icmp .ne 15, 3) := by decide +kernel
theorem dX7_readLine_66 : decode cX7_readLine 66 = .ok (.aload_n 0, 1) := by decide +kernel
theorem dX7_readLine_67 : decode cX7_readLine 67 = .ok (.getfield 115, 3) := by decide +kernel
theorem dX7_readLine_70 : decode cX7_readLine 70 = .ok (.ifCond .eq 8, 3) := by decide +kernel
theorem dX7_readLine_73 : decode cX7_readLine 73 = .ok (.aload_n 0, 1) := by decide +kernel
theorem dX7_readLine_74 : decode cX7_readLine 74 = .ok (.iconst 4, 1) := by decide +kernel
theorem dX7_readLine_75 : decode cX7_readLine 75 = .ok (.invokevirtual 90, 3) := by decide +kernel
theorem dX7_readLine_78 : decode cX7_readLine 78 = .ok (.aload_n 0, 1) := by decide +kernel
theorem dX7_readLine_79 : decode cX7_readLine 79 = .ok (.aload_n 0, 1) := by decide +kernel
theorem dX7_readLine_80 : decode cX7_readLine 80 = .ok (.getfield 115, 3) := by decide +kernel
theorem dX7_readLine_83 : decode cX7_readLine 83 = .ok (.ifCond .ne 9, 3) := by decide +kernel
theorem dX7_readLine_86 : decode cX7_readLine 86 = .ok (.iload_n 1, 1) := by decide +kernel
theorem dX7_readLine_87 : decode cX7_readLine 87 = .ok (.bipush 6, 2) := by decide +kernel
theorem dX7_readLine_89 : decode cX7_readLine 89 = .ok (.if_icmp .ne 7, 3) := by decide +kernel
theorem dX7_readLine_92 : decode cX7_readLine 92 = .ok (.iconst 1, 1) := by decide +kernel
theorem dX7_readLine_93 : decode cX7_readLine 93 = .ok (.goto 4, 3) := by decide +kernel
theorem dX7_readLine_96 : decode cX7_readLine 96 = .ok (.iconst 0, 1) := by decide +kernel
theorem dX7_readLine_97 : decode cX7_readLine 97 = .ok (.putfield 115, 3) := by decide +kernel
theorem dX7_readLine_100 : decode cX7_readLine 100 = .ok (.aload_n 0, 1) := by decide +kernel
theorem dX7_readLine_101 : decode cX7_readLine 101 = .ok (.invokevirtual 94, 3) := by decide +kernel
theorem dX7_readLine_104 : decode cX7_readLine 104 = .ok (.aload_n 0, 1) := by decide +kernel
theorem dX7_readLine_105 : decode cX7_readLine 105 = .ok (.getfield 60, 3) := by decide +kernel
theorem dX7_readLine_108 : decode cX7_readLine 108 = .ok (.ifCond .le 4, 3) := by decide +kernel
theorem dX7_readLine_111 : decode cX7_readLine 111 = .ok (.return_, 1) := by decide +kernel
theorem dX7_readLine_112 : decode cX7_readLine 112 = .ok (.aload_n 0, 1) := by decide +kernel
theorem dX7_readLine_113 : decode cX7_readLine 113 = .ok (.iload_n 1, 1) := by decide +kernel
theorem dX7_readLine_114 : decode cX7_readLine 114 = .ok (.invokevirtual 119, 3) := by decide +kernel
theorem dX7_readLine_117 : decode cX7_readLine 117 = .ok (.aload_n 0, 1) := by decide +kernel
theorem dX7_readLine_118 : decode cX7_readLine 118 = .ok (.getfield 60, 3) := by decide +kernel
theorem dX7_readLine_121 : decode cX7_readLine 121 = .ok (.ifCond .ne 16, 3) := by decide +kernel
theorem dX7_readLine_124 : decode cX7_readLine 124 = .ok (.aload_n 0, 1) := by decide +kernel
theorem dX7_readLine_125 : decode cX7_readLine 125 = .ok (.getfield 69, 3) := by decide +kernel
theorem dX7_readLine_128 : decode cX7_readLine 128 = .ok (.iconst 3, 1) := by decide +kernel
theorem dX7_readLine_129 : decode cX7_readLine 129 = .ok (.if_icmp .eq 8, 3) := by decide +kernel
theorem dX7_readLine_132 : decode cX7_readLine 132 = .ok (.aload_n 0, 1) := by decide +kernel
theorem dX7_readLine_133 : decode cX7_readLine 133 = .ok (.iconst 2, 1) := by decide +kernel
theorem dX7_readLine_134 : decode cX7_readLine 134 = .ok (.invokevirtual 90, 3) := by decide +kernel
theorem dX7_readLine_137 : decode cX7_readLine 137 = .ok (.aload_n 0, 1) := by decide +kernel
theorem dX7_readLine_138 : decode cX7_readLine 138 = .ok (.invokevirtual 94, 3) := by decide +kernel
theorem dX7_readLine_141 : decode cX7_readLine 141 = .ok (.return_, 1) := by decide +kernel
set_option maxRecDepth 20000 in
theorem ggX7_text_X7_step : GoodIn wsX7_text wsX7_step := goodIn_r _ [17, 1, 2, 18, 19, 6, 20, 21, 22, 23, 24, 25, 26, 16, 27, 7, 28, 29, 30, 31, 32, 33, 34, 35, 9, 60, 61, 62, 63, 64, 65, 66, 67, 68, 69, 70, 71, 72, 73, 74, 75, 76, 77, 78, 79, 80, 81, 82, 83, 84] (by decide +kernel) (by decide +kernel)
set_option maxRecDepth 20000 in
theorem gX7_text_X7_step : GoodIn wsX7_text (wsV RX7 94 RX7 yX7_step wsX7_step) := goodIn_app (goodIn_of _ (by decide +kernel)) ggX7_text_X7_step
set_option maxRecDepth 20000 in
theorem ggX7_text_X7_readLine : GoodIn wsX7_text wsX7_readLine := goodIn_r _ [39, 40, 5, 4, 1, 6, 41, 42, 43, 16, 44, 2, 18, 45, 46, 24, 25, 26, 27, 7, 28, 29, 30, 31, 32, 33, 34, 35, 9, 13, 14, 15, 17, 19, 20, 21, 22, 23, 47, 48, 49, 50, 51, 52, 53, 54, 55, 56, 57, 58, 59, 3, 60, 61, 62, 63, 64, 65, 66, 67, 68, 69, 70, 71, 72, 73, 74, 75, 76, 77, 78, 79, 80, 81, 82, 83, 84] (by decide +kernel) (by decide +kernel)
set_option maxRecDepth 20000 in
theorem gX7_text_X7_readLine : GoodIn wsX7_text (wsV RX7 122 RX7 yX7_readLine wsX7_readLine) := goodIn_app (goodIn_of _ (by decide +kernel)) ggX7_text_X7_readLine
theorem dX7_text_0 : decode cX7_text 0 = .ok (.aload_n 0, 1) := by decide +kernel
theorem dX7_text_1 : decode cX7_text 1 = .ok (.iconst 0, 1) := by decide +kernel
theorem dX7_text_2 : decode cX7_text 2 = .ok (.putfield 60, 3) := by decide +kernel
theorem dX7_text_5 : decode cX7_text 5 = .ok (.aload_n 0, 1) := by decide +kernel
theorem dX7_text_6 : decode cX7_text 6 = .ok (.iconst 0, 1) := by decide +kernel
theorem dX7_text_7 : decode cX7_text 7 = .ok (.putfield 72, 3) := by decide +kernel
theorem dX7_text_10 : decode cX7_text 10 = .ok (.aload_n 0, 1) := by decide +kernel
theorem dX7_text_11 : decode cX7_text 11 = .ok (.iconst 0, 1) := by decide +kernel
theorem dX7_text_12 : decode cX7_text 12 = .ok (.putfield 99, 3) := by decide +kernel
theorem dX7_text_15 : decode cX7_text 15 = .ok (.aload_n 0, 1) := by decide +kernel
theorem dX7_text_16 : decode cX7_text 16 = .ok (.iconst 0, 1) := by decide +kernel
theorem dX7_text_17 : decode cX7_text 17 = .ok (.putfield 115, 3) := by decide +kernel
theorem dX7_text_20 : decode cX7_text 20 = .ok (.iconst 0, 1) := by decide +kernel
theorem dX7_text_21 : decode cX7_text 21 = .ok (.istore_n 1, 1) := by decide +kernel
theorem dX7_text_22 : decode cX7_text 22 = .ok (.iconst 0, 1) := by decide +kernel
theorem dX7_text_23 : decode cX7_text 23 = .ok (.istore_n 2, 1) := by decide +kernel
theorem dX7_text_24 : decode cX7_text 24 = .ok (.iload_n 2, 1) := by decide +kernel
theorem dX7_text_25 : decode cX7_text 25 = .ok (.bipush 53, 2) := by decide +kernel
theorem dX7_text_27 : decode cX7_text 27 = .ok (.if_icmp .ge 16, 3) := by decide +kernel
theorem dX7_text_30 : decode cX7_text 30 = .ok (.aload_n 0, 1) := by decide +kernel
theorem dX7_text_31 : decode cX7_text 31 = .ok (.getfield 13, 3) := by decide +kernel
theorem dX7_text_34 : decode cX7_text 34 = .ok (.iload_n 2, 1) := by decide +kernel
theorem dX7_text_35 : decode cX7_text 35 = .ok (.iconst 0, 1) := by decide +kernel
theorem dX7_text_36 : decode cX7_text 36 = .ok (.iastore, 1) := by decide +kernel
theorem dX7_text_37 : decode cX7_text 37 = .ok (.iinc 2 1, 3) := by decide +kernel
theorem dX7_text_40 : decode cX7_text 40 = .ok (.goto (-16), 3) := by decide +kernel
theorem dX7_text_43 : decode cX7_text 43 = .ok (.aload_n 0, 1) := by decide +kernel
theorem dX7_text_44 : decode cX7_text 44 = .ok (.invokevirtual 94, 3) := by decide +kernel
theorem dX7_text_47 : decode cX7_text 47 = .ok (.aload_n 0, 1) := by decide +kernel
theorem dX7_text_48 : decode cX7_text 48 = .ok (.getfield 60, 3) := by decide +kernel
theorem dX7_text_51 : decode cX7_text 51 = .ok (.ifCond .ne 20, 3) := by decide +kernel
theorem dX7_text_54 : decode cX7_text 54 = .ok (.aload_n 0, 1) := by decide +kernel
theorem dX7_text_55 : decode cX7_text 55 = .ok (.getfield 69, 3) := by decide +kernel
theorem dX7_text_58 : decode cX7_text 58 = .ok (.ifCond .eq 13, 3) := by decide +kernel
theorem dX7_text_61 : decode cX7_text 61 = .ok (.aload_n 0, 1) := by decide +kernel
theorem dX7_text_62 : decode cX7_text 62 = .ok (.invokevirtual 122, 3) := by decide +kernel
theorem dX7_text_65 : decode cX7_text 65 = .ok (.iinc 1 1, 3) := by decide +kernel
theorem dX7_text_68 : decode cX7_text 68 = .ok (.goto (-21), 3) := by decide +kernel
theorem dX7_text_71 : decode cX7_text 71 = .ok (.aload_n 0, 1) := by decide +kernel
theorem dX7_text_72 : decode cX7_text 72 = .ok (.iconst 0, 1) := by decide +kernel
theorem dX7_text_73 : decode cX7_text 73 = .ok (.putfield 57, 3) := by decide +kernel
theorem dX7_text_76 : decode cX7_text 76 = .ok (.aload_n 0, 1) := by decide +kernel
theorem dX7_text_77 : decode cX7_text 77 = .ok (.aload_n 0, 1) := by decide +kernel
theorem dX7_text_78 : decode cX7_text 78 = .ok (.getfield 60, 3) := by decide +kernel
theorem dX7_text_81 : decode cX7_text 81 = .ok (.putfield 125, 3) := by decide +kernel
theorem dX7_text_84 : decode cX7_text 84 = .ok (.aload_n 0, 1) := by decide +kernel
theorem dX7_text_85 : decode cX7_text 85 = .ok (.getfield 60, 3) := by decide +kernel
theorem dX7_text_88 : decode cX7_text 88 = .ok (.ifCond .le 11, 3) := by decide +kernel
theorem dX7_text_91 : decode cX7_text 91 = .ok (.bipush (-10), 2) := by decide +kernel
theorem dX7_text_93 : decode cX7_text 93 = .ok (.aload_n 0, 1) := by decide +kernel
theorem dX7_text_94 : decode cX7_text 94 = .ok (.getfield 66, 3) := by decide +kernel
theorem dX7_text_97 : decode cX7_text 97 = .ok (.isub, 1) := by decide +kernel
theorem dX7_text_98 : decode cX7_text 98 = .ok (.ireturn, 1) := by decide +kernel
theorem dX7_text_99 : decode cX7_text 99 = .ok (.iconst 0, 1) := by decide +kernel
theorem dX7_text_100 : decode cX7_text 100 = .ok (.istore_n 2, 1) := by decide +kernel
theorem dX7_text_101 : decode cX7_text 101 = .ok (.iload_n 2, 1) := by decide +kernel
theorem dX7_text_102 : decode cX7_text 102 = .ok (.bipush 53, 2) := by decide +kernel
theorem dX7_text_104 : decode cX7_text 104 = .ok (.if_icmp .ge 21, 3) := by decide +kernel
theorem dX7_text_107 : decode cX7_text 107 = .ok (.aload_n 0, 1) := by decide +kernel
theorem dX7_text_108 : decode cX7_text 108 = .ok (.getfield 7, 3) := by decide +kernel
theorem dX7_text_111 : decode cX7_text 111 = .ok (.iload_n 2, 1) := by decide +kernel
theorem dX7_text_112 : decode cX7_text 112 = .ok (.aload_n 0, 1) := by decide +kernel
theorem dX7_text_113 : decode cX7_text 113 = .ok (.getfield 13, 3) := by decide +kernel
theorem dX7_text_116 : decode cX7_text 116 = .ok (.iload_n 2, 1) := by decide +kernel
theorem dX7_text_117 : decode cX7_text 117 = .ok (.iaload, 1) := by decide +kernel
theorem dX7_text_118 : decode cX7_text 118 = .ok (.iastore, 1) := by decide +kernel
theorem dX7_text_119 : decode cX7_text 119 = .ok (.iinc 2 1, 3) := by decide +kernel
theorem dX7_text_122 : decode cX7_text 122 = .ok (.goto (-21), 3) := by decide +kernel
theorem dX7_text_125 : decode cX7_text 125 = .ok (.aload_n 0, 1) := by decide +kernel
theorem dX7_text_126 : decode cX7_text 126 = .ok (.iconst 0, 1) := by decide +kernel
theorem dX7_text_127 : decode cX7_text 127 = .ok (.putfield 128, 3) := by decide +kernel
theorem dX7_text_130 : decode cX7_text 130 = .ok (.aload_n 0, 1) := by decide +kernel
theorem dX7_text_131 : decode cX7_text 131 = .ok (.getfield 38, 3) := by decide +kernel
theorem dX7_text_134 : decode cX7_text 134 = .ok (.iconst 0, 1) := by decide +kernel
theorem dX7_text_135 : decode cX7_text 135 = .ok (.iconst 0, 1) := by decide +kernel
theorem dX7_text_136 : decode cX7_text 136 = .ok (.bastore, 1) := by decide +kernel
theorem dX7_text_137 : decode cX7_text 137 = .ok (.aload_n 0, 1) := by decide +kernel
theorem dX7_text_138 : decode cX7_text 138 = .ok (.getfield 38, 3) := by decide +kernel
theorem dX7_text_141 : decode cX7_text 141 = .ok (.iconst 1, 1) := by decide +kernel
theorem dX7_text_142 : decode cX7_text 142 = .ok (.iconst 0, 1) := by decide +kernel
theorem dX7_text_143 : decode cX7_text 143 = .ok (.bastore, 1) := by decide +kernel
theorem dX7_text_144 : decode cX7_text 144 = .ok (.iload_n 1, 1) := by decide +kernel
theorem dX7_text_145 : decode cX7_text 145 = .ok (.ireturn, 1) := by decide +kernel
theorem dX7_fault_0 : decode cX7_fault 0 = .ok (.aload_n 0, 1) := by decide +kernel
theorem dX7_fault_1 : decode cX7_fault 1 = .ok (.getfield 125, 3) := by decide +kernel
theorem dX7_fault_4 : decode cX7_fault 4 = .ok (.ireturn, 1) := by decide +kernel
set_option maxRecDepth 20000 in
theorem ggX7_isPlot_X7_in : GoodIn wsX7_isPlot wsX7_in := goodIn_r _ [5] (by decide +kernel) (by decide +kernel)
set_option maxRecDepth 20000 in
theorem gX7_isPlot_X7_in : GoodIn wsX7_isPlot (va_wsS RX7 53 yX7_in wsX7_in) := goodIn_app (goodIn_of _ (by decide +kernel)) ggX7_isPlot_X7_in
theorem dX7_isPlot_0 : decode cX7_isPlot 0 = .ok (.iload_n 0, 1) := by decide +kernel
theorem dX7_isPlot_1 : decode cX7_isPlot 1 = .ok (.i2l, 1) := by decide +kernel
theorem dX7_isPlot_2 : decode cX7_isPlot 2 = .ok (.lconst 0, 1) := by decide +kernel
theorem dX7_isPlot_3 : decode cX7_isPlot 3 = .ok (.ldc2_w 131, 3) := by decide +kernel
theorem dX7_isPlot_6 : decode cX7_isPlot 6 = .ok (.invokestatic 53, 3) := by decide +kernel
theorem dX7_isPlot_9 : decode cX7_isPlot 9 = .ok (.ireturn, 1) := by decide +kernel
set_option maxRecDepth 20000 in
theorem ggX7_isHedge_X7_in : GoodIn wsX7_isHedge wsX7_in := goodIn_r _ [5] (by decide +kernel) (by decide +kernel)
set_option maxRecDepth 20000 in
theorem gX7_isHedge_X7_in : GoodIn wsX7_isHedge (va_wsS RX7 53 yX7_in wsX7_in) := goodIn_app (goodIn_of _ (by decide +kernel)) ggX7_isHedge_X7_in
theorem dX7_isHedge_0 : decode cX7_isHedge 0 = .ok (.iload_n 0, 1) := by decide +kernel
theorem dX7_isHedge_1 : decode cX7_isHedge 1 = .ok (.i2l, 1) := by decide +kernel
theorem dX7_isHedge_2 : decode cX7_isHedge 2 = .ok (.lconst 0, 1) := by decide +kernel
theorem dX7_isHedge_3 : decode cX7_isHedge 3 = .ok (.ldc2_w 97, 3) := by decide +kernel
theorem dX7_isHedge_6 : decode cX7_isHedge 6 = .ok (.invokestatic 53, 3) := by decide +kernel
theorem dX7_isHedge_9 : decode cX7_isHedge 9 = .ok (.ireturn, 1) := by decide +kernel
set_option maxRecDepth 20000 in
theorem ggX7_isGardener_X7_in : GoodIn wsX7_isGardener wsX7_in := goodIn_r _ [5] (by decide +kernel) (by decide +kernel)
set_option maxRecDepth 20000 in
theorem gX7_isGardener_X7_in : GoodIn wsX7_isGardener (va_wsS RX7 53 yX7_in wsX7_in) := goodIn_app (goodIn_of _ (by decide +kernel)) ggX7_isGardener_X7_in
theorem dX7_isGardener_0 : decode cX7_isGardener 0 = .ok (.iload_n 1, 1) := by decide +kernel
theorem dX7_isGardener_1 : decode cX7_isGardener 1 = .ok (.i2l, 1) := by decide +kernel
theorem dX7_isGardener_2 : decode cX7_isGardener 2 = .ok (.lconst 0, 1) := by decide +kernel
theorem dX7_isGardener_3 : decode cX7_isGardener 3 = .ok (.aload_n 0, 1) := by decide +kernel
theorem dX7_isGardener_4 : decode cX7_isGardener 4 = .ok (.getfield 7, 3) := by decide +kernel
theorem dX7_isGardener_7 : decode cX7_isGardener 7 = .ok (.bipush 37, 2) := by decide +kernel
theorem dX7_isGardener_9 : decode cX7_isGardener 9 = .ok (.iaload, 1) := by decide +kernel
theorem dX7_isGardener_10 : decode cX7_isGardener 10 = .ok (.iconst 1, 1) := by decide +kernel
theorem dX7_isGardener_11 : decode cX7_isGardener 11 = .ok (.isub, 1) := by decide +kernel
theorem dX7_isGardener_12 : decode cX7_isGardener 12 = .ok (.i2l, 1) := by decide +kernel
theorem dX7_isGardener_13 : decode cX7_isGardener 13 = .ok (.invokestatic 53, 3) := by decide +kernel
theorem dX7_isGardener_16 : decode cX7_isGardener 16 = .ok (.ireturn, 1) := by decide +kernel
set_option maxRecDepth 20000 in
theorem ggX7_isGuest_X7_in : GoodIn wsX7_isGuest wsX7_in := goodIn_r _ [5] (by decide +kernel) (by decide +kernel)
set_option maxRecDepth 20000 in
theorem gX7_isGuest_X7_in : GoodIn wsX7_isGuest (va_wsS RX7 53 yX7_in wsX7_in) := goodIn_app (goodIn_of _ (by decide +kernel)) ggX7_isGuest_X7_in
theorem dX7_isGuest_0 : decode cX7_isGuest 0 = .ok (.iload_n 1, 1) := by decide +kernel
theorem dX7_isGuest_1 : decode cX7_isGuest 1 = .ok (.i2l, 1) := by decide +kernel
theorem dX7_isGuest_2 : decode cX7_isGuest 2 = .ok (.lconst 0, 1) := by decide +kernel
theorem dX7_isGuest_3 : decode cX7_isGuest 3 = .ok (.aload_n 0, 1) := by decide +kernel
theorem dX7_isGuest_4 : decode cX7_isGuest 4 = .ok (.getfield 7, 3) := by decide +kernel
theorem dX7_isGuest_7 : decode cX7_isGuest 7 = .ok (.bipush 51, 2) := by decide +kernel
theorem dX7_isGuest_9 : decode cX7_isGuest 9 = .ok (.iaload, 1) := by decide +kernel
theorem dX7_isGuest_10 : decode cX7_isGuest 10 = .ok (.iconst 1, 1) := by decide +kernel
theorem dX7_isGuest_11 : decode cX7_isGuest 11 = .ok (.isub, 1) := by decide +kernel
theorem dX7_isGuest_12 : decode cX7_isGuest 12 = .ok (.i2l, 1) := by decide +kernel
theorem dX7_isGuest_13 : decode cX7_isGuest 13 = .ok (.invokestatic 53, 3) := by decide +kernel
theorem dX7_isGuest_16 : decode cX7_isGuest 16 = .ok (.ireturn, 1) := by decide +kernel
theorem dX7_isOpen_0 : decode cX7_isOpen 0 = .ok (.iload_n 2, 1) := by decide +kernel
theorem dX7_isOpen_1 : decode cX7_isOpen 1 = .ok (.iconst 4, 1) := by decide +kernel
theorem dX7_isOpen_2 : decode cX7_isOpen 2 = .ok (.idiv, 1) := by decide +kernel
theorem dX7_isOpen_3 : decode cX7_isOpen 3 = .ok (.istore 4, 2) := by decide +kernel
theorem dX7_isOpen_5 : decode cX7_isOpen 5 = .ok (.iload_n 2, 1) := by decide +kernel
theorem dX7_isOpen_6 : decode cX7_isOpen 6 = .ok (.iconst 4, 1) := by decide +kernel
theorem dX7_isOpen_7 : decode cX7_isOpen 7 = .ok (.irem, 1) := by decide +kernel
theorem dX7_isOpen_8 : decode cX7_isOpen 8 = .ok (.istore 5, 2) := by decide +kernel
theorem dX7_isOpen_10 : decode cX7_isOpen 10 = .ok (.iload_n 3, 1) := by decide +kernel
theorem dX7_isOpen_11 : decode cX7_isOpen 11 = .ok (.tableswitch 109 0 2 #[25, 50, 80], 25) := by decide +kernel
theorem dX7_isOpen_36 : decode cX7_isOpen 36 = .ok (.iload 4, 2) := by decide +kernel
theorem dX7_isOpen_38 : decode cX7_isOpen 38 = .ok (.ifCond .le 21, 3) := by decide +kernel
theorem dX7_isOpen_41 : decode cX7_isOpen 41 = .ok (.aload_n 0, 1) := by decide +kernel
theorem dX7_isOpen_42 : decode cX7_isOpen 42 = .ok (.getfield 7, 3) := by decide +kernel
theorem dX7_isOpen_45 : decode cX7_isOpen 45 = .ok (.iload_n 1, 1) := by decide +kernel
theorem dX7_isOpen_46 : decode cX7_isOpen 46 = .ok (.bipush 8, 2) := by decide +kernel
theorem dX7_isOpen_48 : decode cX7_isOpen 48 = .ok (.iadd, 1) := by decide +kernel
theorem dX7_isOpen_49 : decode cX7_isOpen 49 = .ok (.iload_n 2, 1) := by decide +kernel
theorem dX7_isOpen_50 : decode cX7_isOpen 50 = .ok (.iadd, 1) := by decide +kernel
theorem dX7_isOpen_51 : decode cX7_isOpen 51 = .ok (.iaload, 1) := by decide +kernel
theorem dX7_isOpen_52 : decode cX7_isOpen 52 = .ok (.ifCond .ne 7, 3) := by decide +kernel
theorem dX7_isOpen_55 : decode cX7_isOpen 55 = .ok (.iconst 1, 1) := by decide +kernel
theorem dX7_isOpen_56 : decode cX7_isOpen 56 = .ok (.goto 4, 3) := by decide +kernel
theorem dX7_isOpen_59 : decode cX7_isOpen 59 = .ok (.iconst 0, 1) := by decide +kernel
theorem dX7_isOpen_60 : decode cX7_isOpen 60 = .ok (.ireturn, 1) := by decide +kernel
