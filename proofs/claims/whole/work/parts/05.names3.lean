theorem dX11_nearerThan_60 : decode cX11_nearerThan 60 = .ok (.iload_n 2, 1) := by decide +kernel
theorem dX11_nearerThan_61 : decode cX11_nearerThan 61 = .ok (.ireturn, 1) := by decide +kernel
set_option maxRecDepth 20000 in
theorem ggX11_sideOf_X9_aim : GoodIn wsX11_sideOf wsX9_aim := goodIn_r _ [8, 9, 10, 11, 12, 79, 80, 81, 82, 83, 84, 85, 86, 87] (by decide +kernel) (by decide +kernel)
set_option maxRecDepth 20000 in
theorem gX11_sideOf_X9_aim : GoodIn wsX11_sideOf (wsV RX11 225 RX9 yX9_aim wsX9_aim) := goodIn_app (goodIn_of _ (by decide +kernel)) ggX11_sideOf_X9_aim
set_option maxRecDepth 20000 in
theorem ggX11_sideOf_X9_coloursOf : GoodIn wsX11_sideOf wsX9_coloursOf := goodIn_r _ [16, 17, 18, 19, 20, 21, 22, 7, 23, 12, 11, 24, 25, 26, 27, 28, 29, 30, 31, 32, 33, 34, 35, 36, 37, 79, 80, 81, 82, 83, 84, 85, 86, 87] (by decide +kernel) (by decide +kernel)
set_option maxRecDepth 20000 in
theorem gX11_sideOf_X9_coloursOf : GoodIn wsX11_sideOf (wsV RX11 229 RX9 yX9_coloursOf wsX9_coloursOf) := goodIn_app (goodIn_of _ (by decide +kernel)) ggX11_sideOf_X9_coloursOf
set_option maxRecDepth 20000 in
theorem ggX11_sideOf_X10_sideOf : GoodIn wsX11_sideOf wsX10_sideOf := goodIn_r _ [42, 43, 44, 45, 46, 41, 47, 48, 49, 50, 51, 52, 53, 74, 75, 76, 77, 78] (by decide +kernel) (by decide +kernel)
set_option maxRecDepth 20000 in
theorem gX11_sideOf_X10_sideOf : GoodIn wsX11_sideOf (wsV RX11 432 RX10 yX10_sideOf wsX10_sideOf) := goodIn_app (goodIn_of _ (by decide +kernel)) ggX11_sideOf_X10_sideOf
theorem dX11_sideOf_0 : decode cX11_sideOf 0 = .ok (.aload_n 0, 1) := by decide +kernel
theorem dX11_sideOf_1 : decode cX11_sideOf 1 = .ok (.getfield 71, 3) := by decide +kernel
theorem dX11_sideOf_4 : decode cX11_sideOf 4 = .ok (.aload_n 1, 1) := by decide +kernel
theorem dX11_sideOf_5 : decode cX11_sideOf 5 = .ok (.getfield 426, 3) := by decide +kernel
theorem dX11_sideOf_8 : decode cX11_sideOf 8 = .ok (.aload_n 1, 1) := by decide +kernel
theorem dX11_sideOf_9 : decode cX11_sideOf 9 = .ok (.getfield 429, 3) := by decide +kernel
theorem dX11_sideOf_12 : decode cX11_sideOf 12 = .ok (.invokevirtual 225, 3) := by decide +kernel
theorem dX11_sideOf_15 : decode cX11_sideOf 15 = .ok (.aload_n 1, 1) := by decide +kernel
theorem dX11_sideOf_16 : decode cX11_sideOf 16 = .ok (.aload_n 0, 1) := by decide +kernel
theorem dX11_sideOf_17 : decode cX11_sideOf 17 = .ok (.getfield 71, 3) := by decide +kernel
theorem dX11_sideOf_20 : decode cX11_sideOf 20 = .ok (.aload_n 2, 1) := by decide +kernel
theorem dX11_sideOf_21 : decode cX11_sideOf 21 = .ok (.invokevirtual 229, 3) := by decide +kernel
theorem dX11_sideOf_24 : decode cX11_sideOf 24 = .ok (.invokevirtual 432, 3) := by decide +kernel
theorem dX11_sideOf_27 : decode cX11_sideOf 27 = .ok (.ireturn, 1) := by decide +kernel
set_option maxRecDepth 20000 in
theorem ggX11_tryRecipe_X6_begin : GoodIn wsX11_tryRecipe wsX6_begin := goodIn_r _ [11, 12, 13, 14, 10, 15, 16, 17, 176, 177] (by decide +kernel) (by decide +kernel)
set_option maxRecDepth 20000 in
theorem gX11_tryRecipe_X6_begin : GoodIn wsX11_tryRecipe (wsV RX11 200 RX6 yX6_begin wsX6_begin) := goodIn_app (goodIn_of _ (by decide +kernel)) ggX11_tryRecipe_X6_begin
set_option maxRecDepth 20000 in
theorem ggX11_tryRecipe_X8_nameAt : GoodIn wsX11_tryRecipe wsX8_nameAt := goodIn_r _ [22, 23, 24, 152, 153, 154, 155, 156, 157, 158, 159, 160, 161, 162, 163, 164, 165, 166, 167, 168, 169, 170] (by decide +kernel) (by decide +kernel)
set_option maxRecDepth 20000 in
theorem gX11_tryRecipe_X8_nameAt : GoodIn wsX11_tryRecipe (wsV RX11 436 RX8 yX8_nameAt wsX8_nameAt) := goodIn_app (goodIn_of _ (by decide +kernel)) ggX11_tryRecipe_X8_nameAt
set_option maxRecDepth 20000 in
theorem ggX11_tryRecipe_X8_gramsAt : GoodIn wsX11_tryRecipe wsX8_gramsAt := goodIn_r _ [28, 29, 30, 152, 153, 154, 155, 156, 157, 158, 159, 160, 161, 162, 163, 164, 165, 166, 167, 168, 169, 170] (by decide +kernel) (by decide +kernel)
set_option maxRecDepth 20000 in
theorem gX11_tryRecipe_X8_gramsAt : GoodIn wsX11_tryRecipe (wsV RX11 439 RX8 yX8_gramsAt wsX8_gramsAt) := goodIn_app (goodIn_of _ (by decide +kernel)) ggX11_tryRecipe_X8_gramsAt
set_option maxRecDepth 20000 in
theorem ggX11_tryRecipe_X11_mixPart : GoodIn wsX11_tryRecipe wsX11_mixPart := goodIn_r _ [35, 1, 4, 36, 37, 38, 39, 40, 34, 41, 42, 43, 44, 45, 46, 47, 48, 49, 50, 51, 52, 10, 53, 54, 55, 56, 57, 58, 59, 60, 61, 62, 63, 64, 65, 66, 67, 12, 68, 69, 70, 71, 132, 133, 134, 135, 136, 137, 138, 139, 140, 141, 142, 143, 144, 145, 146, 147, 148, 149, 150, 151, 178, 179, 180, 181, 182, 171, 172, 173, 174, 175, 176, 177] (by decide +kernel) (by decide +kernel)
set_option maxRecDepth 20000 in
theorem gX11_tryRecipe_X11_mixPart : GoodIn wsX11_tryRecipe (wsV RX11 203 RX11 yX11_mixPart wsX11_mixPart) := goodIn_app (goodIn_of _ (by decide +kernel)) ggX11_tryRecipe_X11_mixPart
set_option maxRecDepth 20000 in
theorem ggX11_tryRecipe_X6_result : GoodIn wsX11_tryRecipe wsX6_result := goodIn_r _ [75, 12, 17, 76, 77, 78, 79, 80, 81, 82, 83, 84, 85, 86, 87, 88, 89, 90, 176, 177] (by decide +kernel) (by decide +kernel)
set_option maxRecDepth 20000 in
theorem gX11_tryRecipe_X6_result : GoodIn wsX11_tryRecipe (wsV RX11 207 RX6 yX6_result wsX6_result) := goodIn_app (goodIn_of _ (by decide +kernel)) ggX11_tryRecipe_X6_result
set_option maxRecDepth 20000 in
theorem ggX11_tryRecipe_X9_gapTo : GoodIn wsX11_tryRecipe wsX9_gapTo := goodIn_r _ [95, 96, 97, 98, 99, 100, 101, 102, 103, 94, 104, 105, 106, 107, 108, 109, 110, 111, 112, 113, 78, 79, 80, 81, 82, 83, 84, 85, 86, 87, 88, 89, 90, 183, 184, 185, 186, 187, 188, 189, 190, 191] (by decide +kernel) (by decide +kernel)
set_option maxRecDepth 20000 in
theorem gX11_tryRecipe_X9_gapTo : GoodIn wsX11_tryRecipe (wsV RX11 246 RX9 yX9_gapTo wsX9_gapTo) := goodIn_app (goodIn_of _ (by decide +kernel)) ggX11_tryRecipe_X9_gapTo
set_option maxRecDepth 20000 in
theorem ggX11_tryRecipe_X8_judge : GoodIn wsX11_tryRecipe wsX8_judge := goodIn_r _ [117, 118, 119, 120, 121, 122, 123, 124, 21, 125, 126, 127, 128, 129, 130, 19, 20, 22, 23, 24, 131, 26, 27, 28, 29, 30, 152, 153, 154, 155, 156, 157, 158, 159, 160, 161, 162, 163, 164, 165, 166, 167, 168, 169, 170] (by decide +kernel) (by decide +kernel)
set_option maxRecDepth 20000 in
theorem gX11_tryRecipe_X8_judge : GoodIn wsX11_tryRecipe (wsV RX11 332 RX8 yX8_judge wsX8_judge) := goodIn_app (goodIn_of _ (by decide +kernel)) ggX11_tryRecipe_X8_judge
theorem dX11_tryRecipe_0 : decode cX11_tryRecipe 0 = .ok (.aload_n 0, 1) := by decide +kernel
theorem dX11_tryRecipe_1 : decode cX11_tryRecipe 1 = .ok (.getfield 82, 3) := by decide +kernel
theorem dX11_tryRecipe_4 : decode cX11_tryRecipe 4 = .ok (.aload_n 1, 1) := by decide +kernel
theorem dX11_tryRecipe_5 : decode cX11_tryRecipe 5 = .ok (.invokevirtual 200, 3) := by decide +kernel
theorem dX11_tryRecipe_8 : decode cX11_tryRecipe 8 = .ok (.lconst 0, 1) := by decide +kernel
theorem dX11_tryRecipe_9 : decode cX11_tryRecipe 9 = .ok (.lstore_n 2, 1) := by decide +kernel
theorem dX11_tryRecipe_10 : decode cX11_tryRecipe 10 = .ok (.iconst 0, 1) := by decide +kernel
theorem dX11_tryRecipe_11 : decode cX11_tryRecipe 11 = .ok (.istore 4, 2) := by decide +kernel
theorem dX11_tryRecipe_13 : decode cX11_tryRecipe 13 = .ok (.iload 4, 2) := by decide +kernel
theorem dX11_tryRecipe_15 : decode cX11_tryRecipe 15 = .ok (.aload_n 0, 1) := by decide +kernel
theorem dX11_tryRecipe_16 : decode cX11_tryRecipe 16 = .ok (.getfield 89, 3) := by decide +kernel
theorem dX11_tryRecipe_19 : decode cX11_tryRecipe 19 = .ok (.getfield 435, 3) := by decide +kernel
theorem dX11_tryRecipe_22 : decode cX11_tryRecipe 22 = .ok (.if_icmp .ge 65, 3) := by decide +kernel
theorem dX11_tryRecipe_25 : decode cX11_tryRecipe 25 = .ok (.aload_n 0, 1) := by decide +kernel
theorem dX11_tryRecipe_26 : decode cX11_tryRecipe 26 = .ok (.iconst 2, 1) := by decide +kernel
theorem dX11_tryRecipe_27 : decode cX11_tryRecipe 27 = .ok (.aload_n 0, 1) := by decide +kernel
theorem dX11_tryRecipe_28 : decode cX11_tryRecipe 28 = .ok (.getfield 89, 3) := by decide +kernel
theorem dX11_tryRecipe_31 : decode cX11_tryRecipe 31 = .ok (.iload 4, 2) := by decide +kernel
theorem dX11_tryRecipe_33 : decode cX11_tryRecipe 33 = .ok (.invokevirtual 436, 3) := by decide +kernel
theorem dX11_tryRecipe_36 : decode cX11_tryRecipe 36 = .ok (.aload_n 0, 1) := by decide +kernel
theorem dX11_tryRecipe_37 : decode cX11_tryRecipe 37 = .ok (.getfield 89, 3) := by decide +kernel
theorem dX11_tryRecipe_40 : decode cX11_tryRecipe 40 = .ok (.iload 4, 2) := by decide +kernel
theorem dX11_tryRecipe_42 : decode cX11_tryRecipe 42 = .ok (.invokevirtual 439, 3) := by decide +kernel
theorem dX11_tryRecipe_45 : decode cX11_tryRecipe 45 = .ok (.i2l, 1) := by decide +kernel
theorem dX11_tryRecipe_46 : decode cX11_tryRecipe 46 = .ok (.invokevirtual 203, 3) := by decide +kernel
theorem dX11_tryRecipe_49 : decode cX11_tryRecipe 49 = .ok (.lload_n 2, 1) := by decide +kernel
theorem dX11_tryRecipe_50 : decode cX11_tryRecipe 50 = .ok (.aload_n 0, 1) := by decide +kernel
theorem dX11_tryRecipe_51 : decode cX11_tryRecipe 51 = .ok (.getfield 89, 3) := by decide +kernel
theorem dX11_tryRecipe_54 : decode cX11_tryRecipe 54 = .ok (.iload 4, 2) := by decide +kernel
theorem dX11_tryRecipe_56 : decode cX11_tryRecipe 56 = .ok (.invokevirtual 439, 3) := by decide +kernel
theorem dX11_tryRecipe_59 : decode cX11_tryRecipe 59 = .ok (.i2l, 1) := by decide +kernel
theorem dX11_tryRecipe_60 : decode cX11_tryRecipe 60 = .ok (.aload_n 0, 1) := by decide +kernel
theorem dX11_tryRecipe_61 : decode cX11_tryRecipe 61 = .ok (.getfield 37, 3) := by decide +kernel
theorem dX11_tryRecipe_64 : decode cX11_tryRecipe 64 = .ok (.aload_n 0, 1) := by decide +kernel
theorem dX11_tryRecipe_65 : decode cX11_tryRecipe 65 = .ok (.getfield 89, 3) := by decide +kernel
theorem dX11_tryRecipe_68 : decode cX11_tryRecipe 68 = .ok (.iload 4, 2) := by decide +kernel
theorem dX11_tryRecipe_70 : decode cX11_tryRecipe 70 = .ok (.invokevirtual 436, 3) := by decide +kernel
theorem dX11_tryRecipe_73 : decode cX11_tryRecipe 73 = .ok (.aaload, 1) := by decide +kernel
theorem dX11_tryRecipe_74 : decode cX11_tryRecipe 74 = .ok (.getfield 180, 3) := by decide +kernel
theorem dX11_tryRecipe_77 : decode cX11_tryRecipe 77 = .ok (.i2l, 1) := by decide +kernel
theorem dX11_tryRecipe_78 : decode cX11_tryRecipe 78 = .ok (.lmul, 1) := by decide +kernel
theorem dX11_tryRecipe_79 : decode cX11_tryRecipe 79 = .ok (.ladd, 1) := by decide +kernel
theorem dX11_tryRecipe_80 : decode cX11_tryRecipe 80 = .ok (.lstore_n 2, 1) := by decide +kernel
theorem dX11_tryRecipe_81 : decode cX11_tryRecipe 81 = .ok (.iinc 4 1, 3) := by decide +kernel
theorem dX11_tryRecipe_84 : decode cX11_tryRecipe 84 = .ok (.goto (-71), 3) := by decide +kernel
theorem dX11_tryRecipe_87 : decode cX11_tryRecipe 87 = .ok (.aload_n 0, 1) := by decide +kernel
theorem dX11_tryRecipe_88 : decode cX11_tryRecipe 88 = .ok (.getfield 89, 3) := by decide +kernel
theorem dX11_tryRecipe_91 : decode cX11_tryRecipe 91 = .ok (.aload_n 0, 1) := by decide +kernel
theorem dX11_tryRecipe_92 : decode cX11_tryRecipe 92 = .ok (.getfield 71, 3) := by decide +kernel
theorem dX11_tryRecipe_95 : decode cX11_tryRecipe 95 = .ok (.aload_n 0, 1) := by decide +kernel
theorem dX11_tryRecipe_96 : decode cX11_tryRecipe 96 = .ok (.getfield 82, 3) := by decide +kernel
theorem dX11_tryRecipe_99 : decode cX11_tryRecipe 99 = .ok (.invokevirtual 207, 3) := by decide +kernel
theorem dX11_tryRecipe_102 : decode cX11_tryRecipe 102 = .ok (.invokevirtual 246, 3) := by decide +kernel
theorem dX11_tryRecipe_105 : decode cX11_tryRecipe 105 = .ok (.lload_n 2, 1) := by decide +kernel
theorem dX11_tryRecipe_106 : decode cX11_tryRecipe 106 = .ok (.invokevirtual 332, 3) := by decide +kernel
theorem dX11_tryRecipe_109 : decode cX11_tryRecipe 109 = .ok (.return_, 1) := by decide +kernel
set_option maxRecDepth 20000 in
theorem ggX11_bathGap_X6_begin : GoodIn wsX11_bathGap wsX6_begin := goodIn_r _ [14, 15, 16, 17, 13, 18, 19, 20, 184, 185] (by decide +kernel) (by decide +kernel)
set_option maxRecDepth 20000 in
theorem gX11_bathGap_X6_begin : GoodIn wsX11_bathGap (wsV RX11 200 RX6 yX6_begin wsX6_begin) := goodIn_app (goodIn_of _ (by decide +kernel)) ggX11_bathGap_X6_begin
set_option maxRecDepth 20000 in
theorem ggX11_bathGap_X8_gramsOf : GoodIn wsX11_bathGap wsX8_gramsOf := goodIn_r _ [25, 26, 27, 28, 29, 24, 30, 31, 32, 33, 34, 35, 36, 37, 38, 165, 166, 167, 168, 169, 170, 171, 172, 173, 174, 175, 176, 177, 178, 179, 180, 181, 182, 183] (by decide +kernel) (by decide +kernel)
set_option maxRecDepth 20000 in
theorem gX11_bathGap_X8_gramsOf : GoodIn wsX11_bathGap (wsV RX11 443 RX8 yX8_gramsOf wsX8_gramsOf) := goodIn_app (goodIn_of _ (by decide +kernel)) ggX11_bathGap_X8_gramsOf
set_option maxRecDepth 20000 in
theorem ggX11_bathGap_X1_share : GoodIn wsX11_bathGap wsX1_share := goodIn_r _ [43, 44, 45, 158, 159, 160, 161, 162, 163, 164] (by decide +kernel) (by decide +kernel)
set_option maxRecDepth 20000 in
theorem gX11_bathGap_X1_share : GoodIn wsX11_bathGap (wsV RX11 446 RX1 yX1_share wsX1_share) := goodIn_app (goodIn_of _ (by decide +kernel)) ggX11_bathGap_X1_share
set_option maxRecDepth 20000 in
theorem ggX11_bathGap_X11_mixPart : GoodIn wsX11_bathGap wsX11_mixPart := goodIn_r _ [50, 1, 51, 52, 53, 54, 55, 56, 49, 57, 58, 59, 60, 61, 62, 63, 64, 65, 66, 67, 68, 13, 69, 70, 71, 72, 73, 74, 75, 76, 77, 78, 79, 80, 81, 82, 83, 15, 84, 85, 86, 87, 138, 139, 140, 141, 142, 143, 144, 145, 146, 147, 148, 149, 150, 151, 152, 153, 154, 155, 156, 157, 186, 187, 188, 189, 190, 191, 192, 193, 194, 195, 184, 185] (by decide +kernel) (by decide +kernel)
set_option maxRecDepth 20000 in
theorem gX11_bathGap_X11_mixPart : GoodIn wsX11_bathGap (wsV RX11 203 RX11 yX11_mixPart wsX11_mixPart) := goodIn_app (goodIn_of _ (by decide +kernel)) ggX11_bathGap_X11_mixPart
set_option maxRecDepth 20000 in
theorem ggX11_bathGap_X8_nameAt : GoodIn wsX11_bathGap wsX8_nameAt := goodIn_r _ [30, 31, 32, 165, 166, 167, 168, 169, 170, 171, 172, 173, 174, 175, 176, 177, 178, 179, 180, 181, 182, 183] (by decide +kernel) (by decide +kernel)
set_option maxRecDepth 20000 in
theorem gX11_bathGap_X8_nameAt : GoodIn wsX11_bathGap (wsV RX11 436 RX8 yX8_nameAt wsX8_nameAt) := goodIn_app (goodIn_of _ (by decide +kernel)) ggX11_bathGap_X8_nameAt
set_option maxRecDepth 20000 in
theorem ggX11_bathGap_X1_placeOf : GoodIn wsX11_bathGap wsX1_placeOf := goodIn_r _ [92, 93, 94, 158, 159, 160, 161, 162, 163, 164] (by decide +kernel) (by decide +kernel)
set_option maxRecDepth 20000 in
theorem gX11_bathGap_X1_placeOf : GoodIn wsX11_bathGap (wsV RX11 321 RX1 yX1_placeOf wsX1_placeOf) := goodIn_app (goodIn_of _ (by decide +kernel)) ggX11_bathGap_X1_placeOf
set_option maxRecDepth 20000 in
theorem ggX11_bathGap_X8_gramsAt : GoodIn wsX11_bathGap wsX8_gramsAt := goodIn_r _ [36, 37, 38, 165, 166, 167, 168, 169, 170, 171, 172, 173, 174, 175, 176, 177, 178, 179, 180, 181, 182, 183] (by decide +kernel) (by decide +kernel)
set_option maxRecDepth 20000 in
theorem gX11_bathGap_X8_gramsAt : GoodIn wsX11_bathGap (wsV RX11 439 RX8 yX8_gramsAt wsX8_gramsAt) := goodIn_app (goodIn_of _ (by decide +kernel)) ggX11_bathGap_X8_gramsAt
set_option maxRecDepth 20000 in
theorem ggX11_bathGap_X6_result : GoodIn wsX11_bathGap wsX6_result := goodIn_r _ [99, 15, 20, 100, 101, 102, 103, 104, 105, 106, 107, 108, 109, 110, 111, 112, 113, 114, 184, 185] (by decide +kernel) (by decide +kernel)
set_option maxRecDepth 20000 in
theorem gX11_bathGap_X6_result : GoodIn wsX11_bathGap (wsV RX11 207 RX6 yX6_result wsX6_result) := goodIn_app (goodIn_of _ (by decide +kernel)) ggX11_bathGap_X6_result
set_option maxRecDepth 20000 in
theorem ggX11_bathGap_X9_gapTo : GoodIn wsX11_bathGap wsX9_gapTo := goodIn_r _ [119, 120, 121, 122, 123, 124, 125, 126, 127, 118, 128, 129, 130, 131, 132, 133, 134, 135, 136, 137, 102, 103, 104, 105, 106, 107, 108, 109, 110, 111, 112, 113, 114, 196, 197, 198, 199, 200, 201, 202, 203, 204] (by decide +kernel) (by decide +kernel)
set_option maxRecDepth 20000 in
theorem gX11_bathGap_X9_gapTo : GoodIn wsX11_bathGap (wsV RX11 246 RX9 yX9_gapTo wsX9_gapTo) := goodIn_app (goodIn_of _ (by decide +kernel)) ggX11_bathGap_X9_gapTo
theorem dX11_bathGap_0 : decode cX11_bathGap 0 = .ok (.aload_n 0, 1) := by decide +kernel
theorem dX11_bathGap_1 : decode cX11_bathGap 1 = .ok (.getfield 82, 3) := by decide +kernel
theorem dX11_bathGap_4 : decode cX11_bathGap 4 = .ok (.aload_n 0, 1) := by decide +kernel
theorem dX11_bathGap_5 : decode cX11_bathGap 5 = .ok (.getfield 32, 3) := by decide +kernel
theorem dX11_bathGap_8 : decode cX11_bathGap 8 = .ok (.aload_n 1, 1) := by decide +kernel
theorem dX11_bathGap_9 : decode cX11_bathGap 9 = .ok (.getfield 442, 3) := by decide +kernel
theorem dX11_bathGap_12 : decode cX11_bathGap 12 = .ok (.aaload, 1) := by decide +kernel
theorem dX11_bathGap_13 : decode cX11_bathGap 13 = .ok (.invokevirtual 200, 3) := by decide +kernel
theorem dX11_bathGap_16 : decode cX11_bathGap 16 = .ok (.iconst 0, 1) := by decide +kernel
theorem dX11_bathGap_17 : decode cX11_bathGap 17 = .ok (.istore_n 2, 1) := by decide +kernel
theorem dX11_bathGap_18 : decode cX11_bathGap 18 = .ok (.iload_n 2, 1) := by decide +kernel
theorem dX11_bathGap_19 : decode cX11_bathGap 19 = .ok (.aload_n 1, 1) := by decide +kernel
theorem dX11_bathGap_20 : decode cX11_bathGap 20 = .ok (.getfield 313, 3) := by decide +kernel
theorem dX11_bathGap_23 : decode cX11_bathGap 23 = .ok (.if_icmp .ge 41, 3) := by decide +kernel
theorem dX11_bathGap_26 : decode cX11_bathGap 26 = .ok (.aload_n 1, 1) := by decide +kernel
theorem dX11_bathGap_27 : decode cX11_bathGap 27 = .ok (.getfield 350, 3) := by decide +kernel
theorem dX11_bathGap_30 : decode cX11_bathGap 30 = .ok (.iload_n 2, 1) := by decide +kernel
theorem dX11_bathGap_31 : decode cX11_bathGap 31 = .ok (.iaload, 1) := by decide +kernel
theorem dX11_bathGap_32 : decode cX11_bathGap 32 = .ok (.istore_n 3, 1) := by decide +kernel
theorem dX11_bathGap_33 : decode cX11_bathGap 33 = .ok (.aload_n 0, 1) := by decide +kernel
theorem dX11_bathGap_34 : decode cX11_bathGap 34 = .ok (.iconst 4, 1) := by decide +kernel
theorem dX11_bathGap_35 : decode cX11_bathGap 35 = .ok (.iload_n 3, 1) := by decide +kernel
theorem dX11_bathGap_36 : decode cX11_bathGap 36 = .ok (.aload_n 1, 1) := by decide +kernel
theorem dX11_bathGap_37 : decode cX11_bathGap 37 = .ok (.aload_n 1, 1) := by decide +kernel
theorem dX11_bathGap_38 : decode cX11_bathGap 38 = .ok (.getfield 347, 3) := by decide +kernel
theorem dX11_bathGap_41 : decode cX11_bathGap 41 = .ok (.iload_n 2, 1) := by decide +kernel
theorem dX11_bathGap_42 : decode cX11_bathGap 42 = .ok (.iaload, 1) := by decide +kernel
theorem dX11_bathGap_43 : decode cX11_bathGap 43 = .ok (.aload_n 0, 1) := by decide +kernel
theorem dX11_bathGap_44 : decode cX11_bathGap 44 = .ok (.getfield 93, 3) := by decide +kernel
theorem dX11_bathGap_47 : decode cX11_bathGap 47 = .ok (.iload_n 3, 1) := by decide +kernel
theorem dX11_bathGap_48 : decode cX11_bathGap 48 = .ok (.invokevirtual 443, 3) := by decide +kernel
theorem dX11_bathGap_51 : decode cX11_bathGap 51 = .ok (.iadd, 1) := by decide +kernel
theorem dX11_bathGap_52 : decode cX11_bathGap 52 = .ok (.invokevirtual 446, 3) := by decide +kernel
theorem dX11_bathGap_55 : decode cX11_bathGap 55 = .ok (.invokevirtual 203, 3) := by decide +kernel
theorem dX11_bathGap_58 : decode cX11_bathGap 58 = .ok (.iinc 2 1, 3) := by decide +kernel
theorem dX11_bathGap_61 : decode cX11_bathGap 61 = .ok (.goto (-43), 3) := by decide +kernel
theorem dX11_bathGap_64 : decode cX11_bathGap 64 = .ok (.iconst 0, 1) := by decide +kernel
theorem dX11_bathGap_65 : decode cX11_bathGap 65 = .ok (.istore_n 2, 1) := by decide +kernel
theorem dX11_bathGap_66 : decode cX11_bathGap 66 = .ok (.iload_n 2, 1) := by decide +kernel
theorem dX11_bathGap_67 : decode cX11_bathGap 67 = .ok (.aload_n 0, 1) := by decide +kernel
theorem dX11_bathGap_68 : decode cX11_bathGap 68 = .ok (.getfield 93, 3) := by decide +kernel
theorem dX11_bathGap_71 : decode cX11_bathGap 71 = .ok (.getfield 435, 3) := by decide +kernel
theorem dX11_bathGap_74 : decode cX11_bathGap 74 = .ok (.if_icmp .ge 45, 3) := by decide +kernel
theorem dX11_bathGap_77 : decode cX11_bathGap 77 = .ok (.aload_n 0, 1) := by decide +kernel
theorem dX11_bathGap_78 : decode cX11_bathGap 78 = .ok (.getfield 93, 3) := by decide +kernel
theorem dX11_bathGap_81 : decode cX11_bathGap 81 = .ok (.iload_n 2, 1) := by decide +kernel
theorem dX11_bathGap_82 : decode cX11_bathGap 82 = .ok (.invokevirtual 436, 3) := by decide +kernel
theorem dX11_bathGap_85 : decode cX11_bathGap 85 = .ok (.istore_n 3, 1) := by decide +kernel
theorem dX11_bathGap_86 : decode cX11_bathGap 86 = .ok (.aload_n 1, 1) := by decide +kernel
theorem dX11_bathGap_87 : decode cX11_bathGap 87 = .ok (.iload_n 3, 1) := by decide +kernel
theorem dX11_bathGap_88 : decode cX11_bathGap 88 = .ok (.invokevirtual 321, 3) := by decide +kernel
theorem dX11_bathGap_91 : decode cX11_bathGap 91 = .ok (.iconst (-1), 1) := by decide +kernel
theorem dX11_bathGap_92 : decode cX11_bathGap 92 = .ok (.if_icmp .ne 21, 3) := by decide +kernel
theorem dX11_bathGap_95 : decode cX11_bathGap 95 = .ok (.aload_n 0, 1) := by decide +kernel
theorem dX11_bathGap_96 : decode cX11_bathGap 96 = .ok (.iconst 4, 1) := by decide +kernel
theorem dX11_bathGap_97 : decode cX11_bathGap 97 = .ok (.iload_n 3, 1) := by decide +kernel
theorem dX11_bathGap_98 : decode cX11_bathGap 98 = .ok (.aload_n 1, 1) := by decide +kernel
theorem dX11_bathGap_99 : decode cX11_bathGap 99 = .ok (.aload_n 0, 1) := by decide +kernel
theorem dX11_bathGap_100 : decode cX11_bathGap 100 = .ok (.getfield 93, 3) := by decide +kernel
theorem dX11_bathGap_103 : decode cX11_bathGap 103 = .ok (.iload_n 2, 1) := by decide +kernel
theorem dX11_bathGap_104 : decode cX11_bathGap 104 = .ok (.invokevirtual 439, 3) := by decide +kernel
theorem dX11_bathGap_107 : decode cX11_bathGap 107 = .ok (.invokevirtual 446, 3) := by decide +kernel
theorem dX11_bathGap_110 : decode cX11_bathGap 110 = .ok (.invokevirtual 203, 3) := by decide +kernel
theorem dX11_bathGap_113 : decode cX11_bathGap 113 = .ok (.iinc 2 1, 3) := by decide +kernel
theorem dX11_bathGap_116 : decode cX11_bathGap 116 = .ok (.goto (-50), 3) := by decide +kernel
theorem dX11_bathGap_119 : decode cX11_bathGap 119 = .ok (.aload_n 0, 1) := by decide +kernel
theorem dX11_bathGap_120 : decode cX11_bathGap 120 = .ok (.getfield 71, 3) := by decide +kernel
theorem dX11_bathGap_123 : decode cX11_bathGap 123 = .ok (.aload_n 0, 1) := by decide +kernel
theorem dX11_bathGap_124 : decode cX11_bathGap 124 = .ok (.getfield 82, 3) := by decide +kernel
theorem dX11_bathGap_127 : decode cX11_bathGap 127 = .ok (.invokevirtual 207, 3) := by decide +kernel
theorem dX11_bathGap_130 : decode cX11_bathGap 130 = .ok (.invokevirtual 246, 3) := by decide +kernel
theorem dX11_bathGap_133 : decode cX11_bathGap 133 = .ok (.dreturn, 1) := by decide +kernel
set_option maxRecDepth 20000 in
theorem ggX11_takeBack_X1_takeGrams : GoodIn wsX11_takeBack wsX1_takeGrams := goodIn_r _ [14, 15, 16, 17, 18, 19, 13, 20, 21, 68, 69, 70, 71, 72, 73, 74] (by decide +kernel) (by decide +kernel)
set_option maxRecDepth 20000 in
theorem gX11_takeBack_X1_takeGrams : GoodIn wsX11_takeBack (wsV RX11 450 RX1 yX1_takeGrams wsX1_takeGrams) := goodIn_app (goodIn_of _ (by decide +kernel)) ggX11_takeBack_X1_takeGrams
set_option maxRecDepth 20000 in
theorem ggX11_takeBack_X11_copyRow : GoodIn wsX11_takeBack wsX11_copyRow := goodIn_r _ [25, 26, 27, 28, 29] (by decide +kernel) (by decide +kernel)
set_option maxRecDepth 20000 in
theorem gX11_takeBack_X11_copyRow : GoodIn wsX11_takeBack (va_wsS RX11 135 yX11_copyRow wsX11_copyRow) := goodIn_app (goodIn_of _ (by decide +kernel)) ggX11_takeBack_X11_copyRow
set_option maxRecDepth 20000 in
theorem ggX11_takeBack_X2_restoreFrom : GoodIn wsX11_takeBack wsX2_restoreFrom := goodIn_r _ [34, 35, 36, 27, 28, 29, 37, 75, 76] (by decide +kernel) (by decide +kernel)
set_option maxRecDepth 20000 in
theorem gX11_takeBack_X2_restoreFrom : GoodIn wsX11_takeBack (wsV RX11 453 RX2 yX2_restoreFrom wsX2_restoreFrom) := goodIn_app (goodIn_of _ (by decide +kernel)) ggX11_takeBack_X2_restoreFrom
theorem dX11_takeBack_0 : decode cX11_takeBack 0 = .ok (.aload_n 1, 1) := by decide +kernel
theorem dX11_takeBack_1 : decode cX11_takeBack 1 = .ok (.iconst 0, 1) := by decide +kernel
theorem dX11_takeBack_2 : decode cX11_takeBack 2 = .ok (.iaload, 1) := by decide +kernel
theorem dX11_takeBack_3 : decode cX11_takeBack 3 = .ok (.tableswitch 169 6 10 #[33, 53, 70, 113, 154], 33) := by decide +kernel
theorem dX11_takeBack_36 : decode cX11_takeBack 36 = .ok (.aload_n 0, 1) := by decide +kernel
theorem dX11_takeBack_37 : decode cX11_takeBack 37 = .ok (.getfield 37, 3) := by decide +kernel
theorem dX11_takeBack_40 : decode cX11_takeBack 40 = .ok (.aload_n 1, 1) := by decide +kernel
theorem dX11_takeBack_41 : decode cX11_takeBack 41 = .ok (.iconst 1, 1) := by decide +kernel
theorem dX11_takeBack_42 : decode cX11_takeBack 42 = .ok (.iaload, 1) := by decide +kernel
theorem dX11_takeBack_43 : decode cX11_takeBack 43 = .ok (.aaload, 1) := by decide +kernel
theorem dX11_takeBack_44 : decode cX11_takeBack 44 = .ok (.dup, 1) := by decide +kernel
theorem dX11_takeBack_45 : decode cX11_takeBack 45 = .ok (.getfield 159, 3) := by decide +kernel
theorem dX11_takeBack_48 : decode cX11_takeBack 48 = .ok (.iconst 1, 1) := by decide +kernel
theorem dX11_takeBack_49 : decode cX11_takeBack 49 = .ok (.isub, 1) := by decide +kernel
theorem dX11_takeBack_50 : decode cX11_takeBack 50 = .ok (.putfield 159, 3) := by decide +kernel
theorem dX11_takeBack_53 : decode cX11_takeBack 53 = .ok (.goto 119, 3) := by decide +kernel
theorem dX11_takeBack_56 : decode cX11_takeBack 56 = .ok (.aload_n 0, 1) := by decide +kernel
theorem dX11_takeBack_57 : decode cX11_takeBack 57 = .ok (.getfield 37, 3) := by decide +kernel
theorem dX11_takeBack_60 : decode cX11_takeBack 60 = .ok (.aload_n 1, 1) := by decide +kernel
theorem dX11_takeBack_61 : decode cX11_takeBack 61 = .ok (.iconst 1, 1) := by decide +kernel
theorem dX11_takeBack_62 : decode cX11_takeBack 62 = .ok (.iaload, 1) := by decide +kernel
theorem dX11_takeBack_63 : decode cX11_takeBack 63 = .ok (.aaload, 1) := by decide +kernel
theorem dX11_takeBack_64 : decode cX11_takeBack 64 = .ok (.aload_n 1, 1) := by decide +kernel
theorem dX11_takeBack_65 : decode cX11_takeBack 65 = .ok (.iconst 2, 1) := by decide +kernel
theorem dX11_takeBack_66 : decode cX11_takeBack 66 = .ok (.iaload, 1) := by decide +kernel
theorem dX11_takeBack_67 : decode cX11_takeBack 67 = .ok (.putfield 180, 3) := by decide +kernel
theorem dX11_takeBack_70 : decode cX11_takeBack 70 = .ok (.goto 102, 3) := by decide +kernel
theorem dX11_takeBack_73 : decode cX11_takeBack 73 = .ok (.aload_n 0, 1) := by decide +kernel
theorem dX11_takeBack_74 : decode cX11_takeBack 74 = .ok (.getfield 55, 3) := by decide +kernel
theorem dX11_takeBack_77 : decode cX11_takeBack 77 = .ok (.aload_n 1, 1) := by decide +kernel
theorem dX11_takeBack_78 : decode cX11_takeBack 78 = .ok (.iconst 1, 1) := by decide +kernel
theorem dX11_takeBack_79 : decode cX11_takeBack 79 = .ok (.iaload, 1) := by decide +kernel
theorem dX11_takeBack_80 : decode cX11_takeBack 80 = .ok (.aaload, 1) := by decide +kernel
theorem dX11_takeBack_81 : decode cX11_takeBack 81 = .ok (.aload_n 1, 1) := by decide +kernel
theorem dX11_takeBack_82 : decode cX11_takeBack 82 = .ok (.iconst 2, 1) := by decide +kernel
theorem dX11_takeBack_83 : decode cX11_takeBack 83 = .ok (.iaload, 1) := by decide +kernel
theorem dX11_takeBack_84 : decode cX11_takeBack 84 = .ok (.aload_n 1, 1) := by decide +kernel
theorem dX11_takeBack_85 : decode cX11_takeBack 85 = .ok (.iconst 3, 1) := by decide +kernel
theorem dX11_takeBack_86 : decode cX11_takeBack 86 = .ok (.iaload, 1) := by decide +kernel
theorem dX11_takeBack_87 : decode cX11_takeBack 87 = .ok (.invokevirtual 450, 3) := by decide +kernel
theorem dX11_takeBack_90 : decode cX11_takeBack 90 = .ok (.aload_n 0, 1) := by decide +kernel
theorem dX11_takeBack_91 : decode cX11_takeBack 91 = .ok (.getfield 49, 3) := by decide +kernel
theorem dX11_takeBack_94 : decode cX11_takeBack 94 = .ok (.aload_n 1, 1) := by decide +kernel
theorem dX11_takeBack_95 : decode cX11_takeBack 95 = .ok (.iconst 2, 1) := by decide +kernel
theorem dX11_takeBack_96 : decode cX11_takeBack 96 = .ok (.iaload, 1) := by decide +kernel
theorem dX11_takeBack_97 : decode cX11_takeBack 97 = .ok (.aaload, 1) := by decide +kernel
theorem dX11_takeBack_98 : decode cX11_takeBack 98 = .ok (.dup, 1) := by decide +kernel
theorem dX11_takeBack_99 : decode cX11_takeBack 99 = .ok (.getfield 303, 3) := by decide +kernel
theorem dX11_takeBack_102 : decode cX11_takeBack 102 = .ok (.aload_n 1, 1) := by decide +kernel
theorem dX11_takeBack_103 : decode cX11_takeBack 103 = .ok (.iconst 3, 1) := by decide +kernel
theorem dX11_takeBack_104 : decode cX11_takeBack 104 = .ok (.iaload, 1) := by decide +kernel
theorem dX11_takeBack_105 : decode cX11_takeBack 105 = .ok (.sipush 1000, 3) := by decide +kernel
theorem dX11_takeBack_108 : decode cX11_takeBack 108 = .ok (.imul, 1) := by decide +kernel
theorem dX11_takeBack_109 : decode cX11_takeBack 109 = .ok (.iadd, 1) := by decide +kernel
theorem dX11_takeBack_110 : decode cX11_takeBack 110 = .ok (.putfield 303, 3) := by decide +kernel
theorem dX11_takeBack_113 : decode cX11_takeBack 113 = .ok (.goto 59, 3) := by decide +kernel
theorem dX11_takeBack_116 : decode cX11_takeBack 116 = .ok (.aload_n 0, 1) := by decide +kernel
theorem dX11_takeBack_117 : decode cX11_takeBack 117 = .ok (.getfield 55, 3) := by decide +kernel
theorem dX11_takeBack_120 : decode cX11_takeBack 120 = .ok (.aload_n 1, 1) := by decide +kernel
theorem dX11_takeBack_121 : decode cX11_takeBack 121 = .ok (.iconst 1, 1) := by decide +kernel
theorem dX11_takeBack_122 : decode cX11_takeBack 122 = .ok (.iaload, 1) := by decide +kernel
theorem dX11_takeBack_123 : decode cX11_takeBack 123 = .ok (.aaload, 1) := by decide +kernel
theorem dX11_takeBack_124 : decode cX11_takeBack 124 = .ok (.aload_n 1, 1) := by decide +kernel
theorem dX11_takeBack_125 : decode cX11_takeBack 125 = .ok (.iconst 2, 1) := by decide +kernel
theorem dX11_takeBack_126 : decode cX11_takeBack 126 = .ok (.iaload, 1) := by decide +kernel
theorem dX11_takeBack_127 : decode cX11_takeBack 127 = .ok (.iconst 1, 1) := by decide +kernel
theorem dX11_takeBack_128 : decode cX11_takeBack 128 = .ok (.if_icmp .ne 7, 3) := by decide +kernel
theorem dX11_takeBack_131 : decode cX11_takeBack 131 = .ok (.iconst 1, 1) := by decide +kernel
theorem dX11_takeBack_132 : decode cX11_takeBack 132 = .ok (.goto 4, 3) := by decide +kernel
theorem dX11_takeBack_135 : decode cX11_takeBack 135 = .ok (.iconst 0, 1) := by decide +kernel
theorem dX11_takeBack_136 : decode cX11_takeBack 136 = .ok (.putfield 336, 3) := by decide +kernel
theorem dX11_takeBack_139 : decode cX11_takeBack 139 = .ok (.aload_n 2, 1) := by decide +kernel
theorem dX11_takeBack_140 : decode cX11_takeBack 140 = .ok (.aload_n 0, 1) := by decide +kernel
theorem dX11_takeBack_141 : decode cX11_takeBack 141 = .ok (.getfield 55, 3) := by decide +kernel
theorem dX11_takeBack_144 : decode cX11_takeBack 144 = .ok (.aload_n 1, 1) := by decide +kernel
theorem dX11_takeBack_145 : decode cX11_takeBack 145 = .ok (.iconst 1, 1) := by decide +kernel
theorem dX11_takeBack_146 : decode cX11_takeBack 146 = .ok (.iaload, 1) := by decide +kernel
theorem dX11_takeBack_147 : decode cX11_takeBack 147 = .ok (.aaload, 1) := by decide +kernel
theorem dX11_takeBack_148 : decode cX11_takeBack 148 = .ok (.getfield 339, 3) := by decide +kernel
theorem dX11_takeBack_151 : decode cX11_takeBack 151 = .ok (.invokestatic 135, 3) := by decide +kernel
theorem dX11_takeBack_154 : decode cX11_takeBack 154 = .ok (.goto 18, 3) := by decide +kernel
theorem dX11_takeBack_157 : decode cX11_takeBack 157 = .ok (.aload_n 0, 1) := by decide +kernel
theorem dX11_takeBack_158 : decode cX11_takeBack 158 = .ok (.getfield 26, 3) := by decide +kernel
theorem dX11_takeBack_161 : decode cX11_takeBack 161 = .ok (.aload_n 1, 1) := by decide +kernel
theorem dX11_takeBack_162 : decode cX11_takeBack 162 = .ok (.iconst 1, 1) := by decide +kernel
theorem dX11_takeBack_163 : decode cX11_takeBack 163 = .ok (.iaload, 1) := by decide +kernel
theorem dX11_takeBack_164 : decode cX11_takeBack 164 = .ok (.aaload, 1) := by decide +kernel
theorem dX11_takeBack_165 : decode cX11_takeBack 165 = .ok (.aload_n 2, 1) := by decide +kernel
theorem dX11_takeBack_166 : decode cX11_takeBack 166 = .ok (.invokevirtual 453, 3) := by decide +kernel
theorem dX11_takeBack_169 : decode cX11_takeBack 169 = .ok (.goto 3, 3) := by decide +kernel
theorem dX11_takeBack_172 : decode cX11_takeBack 172 = .ok (.return_, 1) := by decide +kernel
theorem dX12_init_0 : decode cX12_init 0 = .ok (.aload_n 0, 1) := by decide +kernel
theorem dX12_init_1 : decode cX12_init 1 = .ok (.invokespecial 1, 3) := by decide +kernel
theorem dX12_init_4 : decode cX12_init 4 = .ok (.aload_n 0, 1) := by decide +kernel
theorem dX12_init_5 : decode cX12_init 5 = .ok (.sipush 2176, 3) := by decide +kernel
theorem dX12_init_8 : decode cX12_init 8 = .ok (.newarray .float, 2) := by decide +kernel
theorem dX12_init_10 : decode cX12_init 10 = .ok (.putfield 7, 3) := by decide +kernel
theorem dX12_init_13 : decode cX12_init 13 = .ok (.aload_n 0, 1) := by decide +kernel
theorem dX12_init_14 : decode cX12_init 14 = .ok (.sipush 640, 3) := by decide +kernel
theorem dX12_init_17 : decode cX12_init 17 = .ok (.newarray .float, 2) := by decide +kernel
theorem dX12_init_19 : decode cX12_init 19 = .ok (.putfield 13, 3) := by decide +kernel
theorem dX12_init_22 : decode cX12_init 22 = .ok (.aload_n 0, 1) := by decide +kernel
theorem dX12_init_23 : decode cX12_init 23 = .ok (.bipush 12, 2) := by decide +kernel
theorem dX12_init_25 : decode cX12_init 25 = .ok (.newarray .int, 2) := by decide +kernel
theorem dX12_init_27 : decode cX12_init 27 = .ok (.putfield 16, 3) := by decide +kernel
theorem dX12_init_30 : decode cX12_init 30 = .ok (.aload_n 0, 1) := by decide +kernel
theorem dX12_init_31 : decode cX12_init 31 = .ok (.bipush 12, 2) := by decide +kernel
theorem dX12_init_33 : decode cX12_init 33 = .ok (.newarray .int, 2) := by decide +kernel
theorem dX12_init_35 : decode cX12_init 35 = .ok (.putfield 20, 3) := by decide +kernel
theorem dX12_init_38 : decode cX12_init 38 = .ok (.aload_n 0, 1) := by decide +kernel
theorem dX12_init_39 : decode cX12_init 39 = .ok (.bipush 72, 2) := by decide +kernel
theorem dX12_init_41 : decode cX12_init 41 = .ok (.newarray .int, 2) := by decide +kernel
theorem dX12_init_43 : decode cX12_init 43 = .ok (.putfield 23, 3) := by decide +kernel
theorem dX12_init_46 : decode cX12_init 46 = .ok (.aload_n 0, 1) := by decide +kernel
theorem dX12_init_47 : decode cX12_init 47 = .ok (.bipush 12, 2) := by decide +kernel
theorem dX12_init_49 : decode cX12_init 49 = .ok (.newarray .int, 2) := by decide +kernel
theorem dX12_init_51 : decode cX12_init 51 = .ok (.putfield 26, 3) := by decide +kernel
theorem dX12_init_54 : decode cX12_init 54 = .ok (.aload_n 0, 1) := by decide +kernel
theorem dX12_init_55 : decode cX12_init 55 = .ok (.bipush 20, 2) := by decide +kernel
theorem dX12_init_57 : decode cX12_init 57 = .ok (.newarray .int, 2) := by decide +kernel
theorem dX12_init_59 : decode cX12_init 59 = .ok (.putfield 29, 3) := by decide +kernel
theorem dX12_init_62 : decode cX12_init 62 = .ok (.aload_n 0, 1) := by decide +kernel
theorem dX12_init_63 : decode cX12_init 63 = .ok (.bipush 20, 2) := by decide +kernel
theorem dX12_init_65 : decode cX12_init 65 = .ok (.newarray .int, 2) := by decide +kernel
theorem dX12_init_67 : decode cX12_init 67 = .ok (.putfield 32, 3) := by decide +kernel
theorem dX12_init_70 : decode cX12_init 70 = .ok (.aload_n 0, 1) := by decide +kernel
theorem dX12_init_71 : decode cX12_init 71 = .ok (.bipush 20, 2) := by decide +kernel
theorem dX12_init_73 : decode cX12_init 73 = .ok (.newarray .int, 2) := by decide +kernel
theorem dX12_init_75 : decode cX12_init 75 = .ok (.putfield 35, 3) := by decide +kernel
theorem dX12_init_78 : decode cX12_init 78 = .ok (.aload_n 0, 1) := by decide +kernel
theorem dX12_init_79 : decode cX12_init 79 = .ok (.bipush 20, 2) := by decide +kernel
theorem dX12_init_81 : decode cX12_init 81 = .ok (.newarray .int, 2) := by decide +kernel
theorem dX12_init_83 : decode cX12_init 83 = .ok (.putfield 38, 3) := by decide +kernel
theorem dX12_init_86 : decode cX12_init 86 = .ok (.aload_n 0, 1) := by decide +kernel
theorem dX12_init_87 : decode cX12_init 87 = .ok (.bipush 20, 2) := by decide +kernel
theorem dX12_init_89 : decode cX12_init 89 = .ok (.newarray .int, 2) := by decide +kernel
theorem dX12_init_91 : decode cX12_init 91 = .ok (.putfield 41, 3) := by decide +kernel
theorem dX12_init_94 : decode cX12_init 94 = .ok (.aload_n 0, 1) := by decide +kernel
theorem dX12_init_95 : decode cX12_init 95 = .ok (.bipush 12, 2) := by decide +kernel
theorem dX12_init_97 : decode cX12_init 97 = .ok (.newarray .int, 2) := by decide +kernel
theorem dX12_init_99 : decode cX12_init 99 = .ok (.putfield 44, 3) := by decide +kernel
theorem dX12_init_102 : decode cX12_init 102 = .ok (.aload_n 0, 1) := by decide +kernel
theorem dX12_init_103 : decode cX12_init 103 = .ok (.bipush 12, 2) := by decide +kernel
theorem dX12_init_105 : decode cX12_init 105 = .ok (.newarray .int, 2) := by decide +kernel
theorem dX12_init_107 : decode cX12_init 107 = .ok (.putfield 47, 3) := by decide +kernel
theorem dX12_init_110 : decode cX12_init 110 = .ok (.aload_n 0, 1) := by decide +kernel
theorem dX12_init_111 : decode cX12_init 111 = .ok (.bipush 12, 2) := by decide +kernel
theorem dX12_init_113 : decode cX12_init 113 = .ok (.newarray .int, 2) := by decide +kernel
theorem dX12_init_115 : decode cX12_init 115 = .ok (.putfield 50, 3) := by decide +kernel
theorem dX12_init_118 : decode cX12_init 118 = .ok (.aload_n 0, 1) := by decide +kernel
theorem dX12_init_119 : decode cX12_init 119 = .ok (.bipush 96, 2) := by decide +kernel
theorem dX12_init_121 : decode cX12_init 121 = .ok (.newarray .int, 2) := by decide +kernel
theorem dX12_init_123 : decode cX12_init 123 = .ok (.putfield 53, 3) := by decide +kernel
theorem dX12_init_126 : decode cX12_init 126 = .ok (.aload_n 0, 1) := by decide +kernel
theorem dX12_init_127 : decode cX12_init 127 = .ok (.bipush 96, 2) := by decide +kernel
theorem dX12_init_129 : decode cX12_init 129 = .ok (.newarray .int, 2) := by decide +kernel
theorem dX12_init_131 : decode cX12_init 131 = .ok (.putfield 56, 3) := by decide +kernel
theorem dX12_init_134 : decode cX12_init 134 = .ok (.aload_n 0, 1) := by decide +kernel
theorem dX12_init_135 : decode cX12_init 135 = .ok (.bipush 12, 2) := by decide +kernel
theorem dX12_init_137 : decode cX12_init 137 = .ok (.newarray .boolean, 2) := by decide +kernel
theorem dX12_init_139 : decode cX12_init 139 = .ok (.putfield 59, 3) := by decide +kernel
theorem dX12_init_142 : decode cX12_init 142 = .ok (.aload_n 0, 1) := by decide +kernel
theorem dX12_init_143 : decode cX12_init 143 = .ok (.bipush 96, 2) := by decide +kernel
theorem dX12_init_145 : decode cX12_init 145 = .ok (.newarray .int, 2) := by decide +kernel
theorem dX12_init_147 : decode cX12_init 147 = .ok (.putfield 63, 3) := by decide +kernel
theorem dX12_init_150 : decode cX12_init 150 = .ok (.aload_n 0, 1) := by decide +kernel
theorem dX12_init_151 : decode cX12_init 151 = .ok (.bipush 96, 2) := by decide +kernel
theorem dX12_init_153 : decode cX12_init 153 = .ok (.newarray .int, 2) := by decide +kernel
theorem dX12_init_155 : decode cX12_init 155 = .ok (.putfield 66, 3) := by decide +kernel
theorem dX12_init_158 : decode cX12_init 158 = .ok (.aload_n 0, 1) := by decide +kernel
theorem dX12_init_159 : decode cX12_init 159 = .ok (.iconst 3, 1) := by decide +kernel
theorem dX12_init_160 : decode cX12_init 160 = .ok (.newarray .int, 2) := by decide +kernel
theorem dX12_init_162 : decode cX12_init 162 = .ok (.putfield 69, 3) := by decide +kernel
theorem dX12_init_165 : decode cX12_init 165 = .ok (.aload_n 0, 1) := by decide +kernel
theorem dX12_init_166 : decode cX12_init 166 = .ok (.bipush 6, 2) := by decide +kernel
theorem dX12_init_168 : decode cX12_init 168 = .ok (.newarray .int, 2) := by decide +kernel
theorem dX12_init_170 : decode cX12_init 170 = .ok (.putfield 72, 3) := by decide +kernel
theorem dX12_init_173 : decode cX12_init 173 = .ok (.aload_n 0, 1) := by decide +kernel
theorem dX12_init_174 : decode cX12_init 174 = .ok (.bipush 6, 2) := by decide +kernel
theorem dX12_init_176 : decode cX12_init 176 = .ok (.newarray .int, 2) := by decide +kernel
theorem dX12_init_178 : decode cX12_init 178 = .ok (.putfield 75, 3) := by decide +kernel
theorem dX12_init_181 : decode cX12_init 181 = .ok (.aload_n 0, 1) := by decide +kernel
theorem dX12_init_182 : decode cX12_init 182 = .ok (.bipush 6, 2) := by decide +kernel
theorem dX12_init_184 : decode cX12_init 184 = .ok (.newarray .boolean, 2) := by decide +kernel
theorem dX12_init_186 : decode cX12_init 186 = .ok (.putfield 78, 3) := by decide +kernel
theorem dX12_init_189 : decode cX12_init 189 = .ok (.aload_n 0, 1) := by decide +kernel
theorem dX12_init_190 : decode cX12_init 190 = .ok (.bipush 12, 2) := by decide +kernel
theorem dX12_init_192 : decode cX12_init 192 = .ok (.newarray .int, 2) := by decide +kernel
theorem dX12_init_194 : decode cX12_init 194 = .ok (.putfield 81, 3) := by decide +kernel
theorem dX12_init_197 : decode cX12_init 197 = .ok (.aload_n 0, 1) := by decide +kernel
theorem dX12_init_198 : decode cX12_init 198 = .ok (.bipush 12, 2) := by decide +kernel
theorem dX12_init_200 : decode cX12_init 200 = .ok (.newarray .int, 2) := by decide +kernel
theorem dX12_init_202 : decode cX12_init 202 = .ok (.putfield 84, 3) := by decide +kernel
theorem dX12_init_205 : decode cX12_init 205 = .ok (.aload_n 0, 1) := by decide +kernel
theorem dX12_init_206 : decode cX12_init 206 = .ok (.bipush 12, 2) := by decide +kernel
theorem dX12_init_208 : decode cX12_init 208 = .ok (.newarray .int, 2) := by decide +kernel
theorem dX12_init_210 : decode cX12_init 210 = .ok (.putfield 87, 3) := by decide +kernel
theorem dX12_init_213 : decode cX12_init 213 = .ok (.aload_n 0, 1) := by decide +kernel
theorem dX12_init_214 : decode cX12_init 214 = .ok (.bipush 36, 2) := by decide +kernel
theorem dX12_init_216 : decode cX12_init 216 = .ok (.newarray .double, 2) := by decide +kernel
theorem dX12_init_218 : decode cX12_init 218 = .ok (.putfield 90, 3) := by decide +kernel
theorem dX12_init_221 : decode cX12_init 221 = .ok (.aload_n 0, 1) := by decide +kernel
theorem dX12_init_222 : decode cX12_init 222 = .ok (.bipush 36, 2) := by decide +kernel
theorem dX12_init_224 : decode cX12_init 224 = .ok (.newarray .double, 2) := by decide +kernel
theorem dX12_init_226 : decode cX12_init 226 = .ok (.putfield 94, 3) := by decide +kernel
theorem dX12_init_229 : decode cX12_init 229 = .ok (.aload_n 0, 1) := by decide +kernel
theorem dX12_init_230 : decode cX12_init 230 = .ok (.bipush 60, 2) := by decide +kernel
theorem dX12_init_232 : decode cX12_init 232 = .ok (.newarray .int, 2) := by decide +kernel
theorem dX12_init_234 : decode cX12_init 234 = .ok (.putfield 97, 3) := by decide +kernel
theorem dX12_init_237 : decode cX12_init 237 = .ok (.aload_n 0, 1) := by decide +kernel
theorem dX12_init_238 : decode cX12_init 238 = .ok (.bipush 60, 2) := by decide +kernel
theorem dX12_init_240 : decode cX12_init 240 = .ok (.newarray .int, 2) := by decide +kernel
theorem dX12_init_242 : decode cX12_init 242 = .ok (.putfield 100, 3) := by decide +kernel
theorem dX12_init_245 : decode cX12_init 245 = .ok (.aload_n 0, 1) := by decide +kernel
theorem dX12_init_246 : decode cX12_init 246 = .ok (.bipush 60, 2) := by decide +kernel
theorem dX12_init_248 : decode cX12_init 248 = .ok (.newarray .int, 2) := by decide +kernel
theorem dX12_init_250 : decode cX12_init 250 = .ok (.putfield 103, 3) := by decide +kernel
theorem dX12_init_253 : decode cX12_init 253 = .ok (.aload_n 0, 1) := by decide +kernel
theorem dX12_init_254 : decode cX12_init 254 = .ok (.bipush 60, 2) := by decide +kernel
theorem dX12_init_256 : decode cX12_init 256 = .ok (.newarray .int, 2) := by decide +kernel
theorem dX12_init_258 : decode cX12_init 258 = .ok (.putfield 106, 3) := by decide +kernel
theorem dX12_init_261 : decode cX12_init 261 = .ok (.aload_n 0, 1) := by decide +kernel
theorem dX12_init_262 : decode cX12_init 262 = .ok (.sipush 960, 3) := by decide +kernel
theorem dX12_init_265 : decode cX12_init 265 = .ok (.newarray .float, 2) := by decide +kernel
theorem dX12_init_267 : decode cX12_init 267 = .ok (.putfield 109, 3) := by decide +kernel
theorem dX12_init_270 : decode cX12_init 270 = .ok (.aload_n 0, 1) := by decide +kernel
theorem dX12_init_271 : decode cX12_init 271 = .ok (.sipush 960, 3) := by decide +kernel
theorem dX12_init_274 : decode cX12_init 274 = .ok (.newarray .float, 2) := by decide +kernel
theorem dX12_init_276 : decode cX12_init 276 = .ok (.putfield 112, 3) := by decide +kernel
theorem dX12_init_279 : decode cX12_init 279 = .ok (.aload_n 0, 1) := by decide +kernel
theorem dX12_init_280 : decode cX12_init 280 = .ok (.iconst 3, 1) := by decide +kernel
theorem dX12_init_281 : decode cX12_init 281 = .ok (.newarray .double, 2) := by decide +kernel
theorem dX12_init_283 : decode cX12_init 283 = .ok (.putfield 115, 3) := by decide +kernel
theorem dX12_init_286 : decode cX12_init 286 = .ok (.aload_n 0, 1) := by decide +kernel
theorem dX12_init_287 : decode cX12_init 287 = .ok (.bipush 40, 2) := by decide +kernel
theorem dX12_init_289 : decode cX12_init 289 = .ok (.newarray .double, 2) := by decide +kernel
theorem dX12_init_291 : decode cX12_init 291 = .ok (.putfield 118, 3) := by decide +kernel
theorem dX12_init_294 : decode cX12_init 294 = .ok (.aload_n 0, 1) := by decide +kernel
theorem dX12_init_295 : decode cX12_init 295 = .ok (.bipush 6, 2) := by decide +kernel
theorem dX12_init_297 : decode cX12_init 297 = .ok (.newarray .int, 2) := by decide +kernel
theorem dX12_init_299 : decode cX12_init 299 = .ok (.putfield 121, 3) := by decide +kernel
theorem dX12_init_302 : decode cX12_init 302 = .ok (.aload_n 0, 1) := by decide +kernel
theorem dX12_init_303 : decode cX12_init 303 = .ok (.bipush 6, 2) := by decide +kernel
theorem dX12_init_305 : decode cX12_init 305 = .ok (.newarray .int, 2) := by decide +kernel
theorem dX12_init_307 : decode cX12_init 307 = .ok (.putfield 124, 3) := by decide +kernel
theorem dX12_init_310 : decode cX12_init 310 = .ok (.aload_n 0, 1) := by decide +kernel
theorem dX12_init_311 : decode cX12_init 311 = .ok (.bipush 6, 2) := by decide +kernel
theorem dX12_init_313 : decode cX12_init 313 = .ok (.newarray .int, 2) := by decide +kernel
theorem dX12_init_315 : decode cX12_init 315 = .ok (.putfield 127, 3) := by decide +kernel
theorem dX12_init_318 : decode cX12_init 318 = .ok (.aload_n 0, 1) := by decide +kernel
theorem dX12_init_319 : decode cX12_init 319 = .ok (.bipush 10, 2) := by decide +kernel
theorem dX12_init_321 : decode cX12_init 321 = .ok (.newarray .int, 2) := by decide +kernel
theorem dX12_init_323 : decode cX12_init 323 = .ok (.putfield 130, 3) := by decide +kernel
theorem dX12_init_326 : decode cX12_init 326 = .ok (.aload_n 0, 1) := by decide +kernel
theorem dX12_init_327 : decode cX12_init 327 = .ok (.bipush 10, 2) := by decide +kernel
theorem dX12_init_329 : decode cX12_init 329 = .ok (.newarray .int, 2) := by decide +kernel
theorem dX12_init_331 : decode cX12_init 331 = .ok (.putfield 133, 3) := by decide +kernel
theorem dX12_init_334 : decode cX12_init 334 = .ok (.aload_n 0, 1) := by decide +kernel
theorem dX12_init_335 : decode cX12_init 335 = .ok (.bipush 6, 2) := by decide +kernel
theorem dX12_init_337 : decode cX12_init 337 = .ok (.newarray .int, 2) := by decide +kernel
theorem dX12_init_339 : decode cX12_init 339 = .ok (.putfield 136, 3) := by decide +kernel
theorem dX12_init_342 : decode cX12_init 342 = .ok (.aload_n 0, 1) := by decide +kernel
theorem dX12_init_343 : decode cX12_init 343 = .ok (.iconst 4, 1) := by decide +kernel
theorem dX12_init_344 : decode cX12_init 344 = .ok (.newarray .int, 2) := by decide +kernel
theorem dX12_init_346 : decode cX12_init 346 = .ok (.putfield 139, 3) := by decide +kernel
theorem dX12_init_349 : decode cX12_init 349 = .ok (.aload_n 0, 1) := by decide +kernel
theorem dX12_init_350 : decode cX12_init 350 = .ok (.bipush 68, 2) := by decide +kernel
theorem dX12_init_352 : decode cX12_init 352 = .ok (.newarray .byte, 2) := by decide +kernel
theorem dX12_init_354 : decode cX12_init 354 = .ok (.putfield 142, 3) := by decide +kernel
theorem dX12_init_357 : decode cX12_init 357 = .ok (.aload_n 0, 1) := by decide +kernel
theorem dX12_init_358 : decode cX12_init 358 = .ok (.bipush 68, 2) := by decide +kernel
theorem dX12_init_360 : decode cX12_init 360 = .ok (.newarray .byte, 2) := by decide +kernel
theorem dX12_init_362 : decode cX12_init 362 = .ok (.putfield 146, 3) := by decide +kernel
theorem dX12_init_365 : decode cX12_init 365 = .ok (.iconst 0, 1) := by decide +kernel
theorem dX12_init_366 : decode cX12_init 366 = .ok (.istore_n 1, 1) := by decide +kernel
theorem dX12_init_367 : decode cX12_init 367 = .ok (.iload_n 1, 1) := by decide +kernel
theorem dX12_init_368 : decode cX12_init 368 = .ok (.iconst 3, 1) := by decide +kernel
theorem dX12_init_369 : decode cX12_init 369 = .ok (.if_icmp .ge 16, 3) := by decide +kernel
theorem dX12_init_372 : decode cX12_init 372 = .ok (.aload_n 0, 1) := by decide +kernel
theorem dX12_init_373 : decode cX12_init 373 = .ok (.getfield 69, 3) := by decide +kernel
theorem dX12_init_376 : decode cX12_init 376 = .ok (.iload_n 1, 1) := by decide +kernel
theorem dX12_init_377 : decode cX12_init 377 = .ok (.iconst 1, 1) := by decide +kernel
theorem dX12_init_378 : decode cX12_init 378 = .ok (.iastore, 1) := by decide +kernel
theorem dX12_init_379 : decode cX12_init 379 = .ok (.iinc 1 1, 3) := by decide +kernel
theorem dX12_init_382 : decode cX12_init 382 = .ok (.goto (-15), 3) := by decide +kernel
theorem dX12_init_385 : decode cX12_init 385 = .ok (.return_, 1) := by decide +kernel
theorem dX12_thrown_0 : decode cX12_thrown 0 = .ok (.aload_n 0, 1) := by decide +kernel
theorem dX12_thrown_1 : decode cX12_thrown 1 = .ok (.getfield 149, 3) := by decide +kernel
theorem dX12_thrown_4 : decode cX12_thrown 4 = .ok (.ireturn, 1) := by decide +kernel
theorem dX12_is_0 : decode cX12_is 0 = .ok (.iload_n 1, 1) := by decide +kernel
theorem dX12_is_1 : decode cX12_is 1 = .ok (.ifCond .lt 12, 3) := by decide +kernel
theorem dX12_is_4 : decode cX12_is 4 = .ok (.iload_n 1, 1) := by decide +kernel
theorem dX12_is_5 : decode cX12_is 5 = .ok (.iload_n 2, 1) := by decide +kernel
theorem dX12_is_6 : decode cX12_is 6 = .ok (.if_icmp .ge 7, 3) := by decide +kernel
theorem dX12_is_9 : decode cX12_is 9 = .ok (.iconst 1, 1) := by decide +kernel
theorem dX12_is_10 : decode cX12_is 10 = .ok (.goto 4, 3) := by decide +kernel
theorem dX12_is_13 : decode cX12_is 13 = .ok (.iconst 0, 1) := by decide +kernel
theorem dX12_is_14 : decode cX12_is 14 = .ok (.ireturn, 1) := by decide +kernel
theorem dX12_no_0 : decode cX12_no 0 = .ok (.aload_n 0, 1) := by decide +kernel
theorem dX12_no_1 : decode cX12_no 1 = .ok (.iload_n 1, 1) := by decide +kernel
theorem dX12_no_2 : decode cX12_no 2 = .ok (.putfield 153, 3) := by decide +kernel
theorem dX12_no_5 : decode cX12_no 5 = .ok (.iconst (-1), 1) := by decide +kernel
theorem dX12_no_6 : decode cX12_no 6 = .ok (.ireturn, 1) := by decide +kernel
theorem dX12_not_0 : decode cX12_not 0 = .ok (.aload_n 0, 1) := by decide +kernel
theorem dX12_not_1 : decode cX12_not 1 = .ok (.iload_n 1, 1) := by decide +kernel
theorem dX12_not_2 : decode cX12_not 2 = .ok (.putfield 153, 3) := by decide +kernel
theorem dX12_not_5 : decode cX12_not 5 = .ok (.iconst 0, 1) := by decide +kernel
theorem dX12_not_6 : decode cX12_not 6 = .ok (.ireturn, 1) := by decide +kernel
theorem dX12_copy_0 : decode cX12_copy 0 = .ok (.iconst 0, 1) := by decide +kernel
theorem dX12_copy_1 : decode cX12_copy 1 = .ok (.istore_n 3, 1) := by decide +kernel
theorem dX12_copy_2 : decode cX12_copy 2 = .ok (.iload_n 3, 1) := by decide +kernel
theorem dX12_copy_3 : decode cX12_copy 3 = .ok (.bipush 16, 2) := by decide +kernel
theorem dX12_copy_5 : decode cX12_copy 5 = .ok (.if_icmp .ge 31, 3) := by decide +kernel
theorem dX12_copy_8 : decode cX12_copy 8 = .ok (.aload_n 0, 1) := by decide +kernel
theorem dX12_copy_9 : decode cX12_copy 9 = .ok (.getfield 7, 3) := by decide +kernel
theorem dX12_copy_12 : decode cX12_copy 12 = .ok (.bipush 16, 2) := by decide +kernel
theorem dX12_copy_14 : decode cX12_copy 14 = .ok (.iload_n 2, 1) := by decide +kernel
theorem dX12_copy_15 : decode cX12_copy 15 = .ok (.imul, 1) := by decide +kernel
theorem dX12_copy_16 : decode cX12_copy 16 = .ok (.iload_n 3, 1) := by decide +kernel
theorem dX12_copy_17 : decode cX12_copy 17 = .ok (.iadd, 1) := by decide +kernel
theorem dX12_copy_18 : decode cX12_copy 18 = .ok (.aload_n 0, 1) := by decide +kernel
theorem dX12_copy_19 : decode cX12_copy 19 = .ok (.getfield 7, 3) := by decide +kernel
theorem dX12_copy_22 : decode cX12_copy 22 = .ok (.bipush 16, 2) := by decide +kernel
theorem dX12_copy_24 : decode cX12_copy 24 = .ok (.iload_n 1, 1) := by decide +kernel
theorem dX12_copy_25 : decode cX12_copy 25 = .ok (.imul, 1) := by decide +kernel
theorem dX12_copy_26 : decode cX12_copy 26 = .ok (.iload_n 3, 1) := by decide +kernel
theorem dX12_copy_27 : decode cX12_copy 27 = .ok (.iadd, 1) := by decide +kernel
theorem dX12_copy_28 : decode cX12_copy 28 = .ok (.faload, 1) := by decide +kernel
theorem dX12_copy_29 : decode cX12_copy 29 = .ok (.fastore, 1) := by decide +kernel
theorem dX12_copy_30 : decode cX12_copy 30 = .ok (.iinc 3 1, 3) := by decide +kernel
theorem dX12_copy_33 : decode cX12_copy 33 = .ok (.goto (-31), 3) := by decide +kernel
theorem dX12_copy_36 : decode cX12_copy 36 = .ok (.return_, 1) := by decide +kernel
theorem dX12_isFloat_0 : decode cX12_isFloat 0 = .ok (.iload_n 1, 1) := by decide +kernel
theorem dX12_isFloat_1 : decode cX12_isFloat 1 = .ok (.ifCond .lt 13, 3) := by decide +kernel
theorem dX12_isFloat_4 : decode cX12_isFloat 4 = .ok (.iload_n 1, 1) := by decide +kernel
theorem dX12_isFloat_5 : decode cX12_isFloat 5 = .ok (.ldc 156, 2) := by decide +kernel
theorem dX12_isFloat_7 : decode cX12_isFloat 7 = .ok (.if_icmp .gt 7, 3) := by decide +kernel
theorem dX12_isFloat_10 : decode cX12_isFloat 10 = .ok (.iconst 1, 1) := by decide +kernel
theorem dX12_isFloat_11 : decode cX12_isFloat 11 = .ok (.goto 4, 3) := by decide +kernel
theorem dX12_isFloat_14 : decode cX12_isFloat 14 = .ok (.iconst 0, 1) := by decide +kernel
theorem dX12_isFloat_15 : decode cX12_isFloat 15 = .ok (.ireturn, 1) := by decide +kernel
theorem dX12_act_0 : decode cX12_act 0 = .ok (.aload_n 0, 1) := by decide +kernel
theorem dX12_act_1 : decode cX12_act 1 = .ok (.getfield 157, 3) := by decide +kernel
theorem dX12_act_4 : decode cX12_act 4 = .ok (.bipush 60, 2) := by decide +kernel
theorem dX12_act_6 : decode cX12_act 6 = .ok (.if_icmp .ne 145, 3) := by decide +kernel
theorem dX12_act_9 : decode cX12_act 9 = .ok (.iconst 1, 1) := by decide +kernel
theorem dX12_act_10 : decode cX12_act 10 = .ok (.istore 5, 2) := by decide +kernel
theorem dX12_act_12 : decode cX12_act 12 = .ok (.iload 5, 2) := by decide +kernel
theorem dX12_act_14 : decode cX12_act 14 = .ok (.bipush 60, 2) := by decide +kernel
theorem dX12_act_16 : decode cX12_act 16 = .ok (.if_icmp .ge 73, 3) := by decide +kernel
theorem dX12_act_19 : decode cX12_act 19 = .ok (.aload_n 0, 1) := by decide +kernel
theorem dX12_act_20 : decode cX12_act 20 = .ok (.getfield 97, 3) := by decide +kernel
theorem dX12_act_23 : decode cX12_act 23 = .ok (.iload 5, 2) := by decide +kernel
theorem dX12_act_25 : decode cX12_act 25 = .ok (.iconst 1, 1) := by decide +kernel
theorem dX12_act_26 : decode cX12_act 26 = .ok (.isub, 1) := by decide +kernel
theorem dX12_act_27 : decode cX12_act 27 = .ok (.aload_n 0, 1) := by decide +kernel
theorem dX12_act_28 : decode cX12_act 28 = .ok (.getfield 97, 3) := by decide +kernel
theorem dX12_act_31 : decode cX12_act 31 = .ok (.iload 5, 2) := by decide +kernel
theorem dX12_act_33 : decode cX12_act 33 = .ok (.iaload, 1) := by decide +kernel
theorem dX12_act_34 : decode cX12_act 34 = .ok (.iastore, 1) := by decide +kernel
theorem dX12_act_35 : decode cX12_act 35 = .ok (.aload_n 0, 1) := by decide +kernel
theorem dX12_act_36 : decode cX12_act 36 = .ok (.getfield 100, 3) := by decide +kernel
theorem dX12_act_39 : decode cX12_act 39 = .ok (.iload 5, 2) := by decide +kernel
theorem dX12_act_41 : decode cX12_act 41 = .ok (.iconst 1, 1) := by decide +kernel
theorem dX12_act_42 : decode cX12_act 42 = .ok (.isub, 1) := by decide +kernel
theorem dX12_act_43 : decode cX12_act 43 = .ok (.aload_n 0, 1) := by decide +kernel
theorem dX12_act_44 : decode cX12_act 44 = .ok (.getfield 100, 3) := by decide +kernel
theorem dX12_act_47 : decode cX12_act 47 = .ok (.iload 5, 2) := by decide +kernel
theorem dX12_act_49 : decode cX12_act 49 = .ok (.iaload, 1) := by decide +kernel
theorem dX12_act_50 : decode cX12_act 50 = .ok (.iastore, 1) := by decide +kernel
theorem dX12_act_51 : decode cX12_act 51 = .ok (.aload_n 0, 1) := by decide +kernel
theorem dX12_act_52 : decode cX12_act 52 = .ok (.getfield 103, 3) := by decide +kernel
theorem dX12_act_55 : decode cX12_act 55 = .ok (.iload 5, 2) := by decide +kernel
theorem dX12_act_57 : decode cX12_act 57 = .ok (.iconst 1, 1) := by decide +kernel
theorem dX12_act_58 : decode cX12_act 58 = .ok (.isub, 1) := by decide +kernel
theorem dX12_act_59 : decode cX12_act 59 = .ok (.aload_n 0, 1) := by decide +kernel
theorem dX12_act_60 : decode cX12_act 60 = .ok (.getfield 103, 3) := by decide +kernel
theorem dX12_act_63 : decode cX12_act 63 = .ok (.iload 5, 2) := by decide +kernel
theorem dX12_act_65 : decode cX12_act 65 = .ok (.iaload, 1) := by decide +kernel
theorem dX12_act_66 : decode cX12_act 66 = .ok (.iastore, 1) := by decide +kernel
theorem dX12_act_67 : decode cX12_act 67 = .ok (.aload_n 0, 1) := by decide +kernel
theorem dX12_act_68 : decode cX12_act 68 = .ok (.getfield 106, 3) := by decide +kernel
theorem dX12_act_71 : decode cX12_act 71 = .ok (.iload 5, 2) := by decide +kernel
theorem dX12_act_73 : decode cX12_act 73 = .ok (.iconst 1, 1) := by decide +kernel
theorem dX12_act_74 : decode cX12_act 74 = .ok (.isub, 1) := by decide +kernel
theorem dX12_act_75 : decode cX12_act 75 = .ok (.aload_n 0, 1) := by decide +kernel
theorem dX12_act_76 : decode cX12_act 76 = .ok (.getfield 106, 3) := by decide +kernel
theorem dX12_act_79 : decode cX12_act 79 = .ok (.iload 5, 2) := by decide +kernel
theorem dX12_act_81 : decode cX12_act 81 = .ok (.iaload, 1) := by decide +kernel
theorem dX12_act_82 : decode cX12_act 82 = .ok (.iastore, 1) := by decide +kernel
theorem dX12_act_83 : decode cX12_act 83 = .ok (.iinc 5 1, 3) := by decide +kernel
theorem dX12_act_86 : decode cX12_act 86 = .ok (.goto (-74), 3) := by decide +kernel
theorem dX12_act_89 : decode cX12_act 89 = .ok (.bipush 16, 2) := by decide +kernel
theorem dX12_act_91 : decode cX12_act 91 = .ok (.istore 5, 2) := by decide +kernel
theorem dX12_act_93 : decode cX12_act 93 = .ok (.iload 5, 2) := by decide +kernel
theorem dX12_act_95 : decode cX12_act 95 = .ok (.sipush 960, 3) := by decide +kernel
theorem dX12_act_98 : decode cX12_act 98 = .ok (.if_icmp .ge 43, 3) := by decide +kernel
theorem dX12_act_101 : decode cX12_act 101 = .ok (.aload_n 0, 1) := by decide +kernel
theorem dX12_act_102 : decode cX12_act 102 = .ok (.getfield 109, 3) := by decide +kernel
theorem dX12_act_105 : decode cX12_act 105 = .ok (.iload 5, 2) := by decide +kernel
theorem dX12_act_107 : decode cX12_act 107 = .ok (.bipush 16, 2) := by decide +kernel
theorem dX12_act_109 : decode cX12_act 109 = .ok (.isub, 1) := by decide +kernel
theorem dX12_act_110 : decode cX12_act 110 = .ok (.aload_n 0, 1) := by decide +kernel
theorem dX12_act_111 : decode cX12_act 111 = .ok (.getfield 109, 3) := by decide +kernel
theorem dX12_act_114 : decode cX12_act 114 = .ok (.iload 5, 2) := by decide +kernel
theorem dX12_act_116 : decode cX12_act 116 = .ok (.faload, 1) := by decide +kernel
theorem dX12_act_117 : decode cX12_act 117 = .ok (.fastore, 1) := by decide +kernel
theorem dX12_act_118 : decode cX12_act 118 = .ok (.aload_n 0, 1) := by decide +kernel
theorem dX12_act_119 : decode cX12_act 119 = .ok (.getfield 112, 3) := by decide +kernel
theorem dX12_act_122 : decode cX12_act 122 = .ok (.iload 5, 2) := by decide +kernel
theorem dX12_act_124 : decode cX12_act 124 = .ok (.bipush 16, 2) := by decide +kernel
theorem dX12_act_126 : decode cX12_act 126 = .ok (.isub, 1) := by decide +kernel
theorem dX12_act_127 : decode cX12_act 127 = .ok (.aload_n 0, 1) := by decide +kernel
theorem dX12_act_128 : decode cX12_act 128 = .ok (.getfield 112, 3) := by decide +kernel
theorem dX12_act_131 : decode cX12_act 131 = .ok (.iload 5, 2) := by decide +kernel
theorem dX12_act_133 : decode cX12_act 133 = .ok (.faload, 1) := by decide +kernel
theorem dX12_act_134 : decode cX12_act 134 = .ok (.fastore, 1) := by decide +kernel
theorem dX12_act_135 : decode cX12_act 135 = .ok (.iinc 5 1, 3) := by decide +kernel
theorem dX12_act_138 : decode cX12_act 138 = .ok (.goto (-45), 3) := by decide +kernel
theorem dX12_act_141 : decode cX12_act 141 = .ok (.aload_n 0, 1) := by decide +kernel
theorem dX12_act_142 : decode cX12_act 142 = .ok (.dup, 1) := by decide +kernel
theorem dX12_act_143 : decode cX12_act 143 = .ok (.getfield 157, 3) := by decide +kernel
theorem dX12_act_146 : decode cX12_act 146 = .ok (.iconst 1, 1) := by decide +kernel
theorem dX12_act_147 : decode cX12_act 147 = .ok (.isub, 1) := by decide +kernel
theorem dX12_act_148 : decode cX12_act 148 = .ok (.putfield 157, 3) := by decide +kernel
theorem dX12_act_151 : decode cX12_act 151 = .ok (.aload_n 0, 1) := by decide +kernel
theorem dX12_act_152 : decode cX12_act 152 = .ok (.getfield 97, 3) := by decide +kernel
theorem dX12_act_155 : decode cX12_act 155 = .ok (.aload_n 0, 1) := by decide +kernel
theorem dX12_act_156 : decode cX12_act 156 = .ok (.getfield 157, 3) := by decide +kernel
theorem dX12_act_159 : decode cX12_act 159 = .ok (.iload_n 1, 1) := by decide +kernel
theorem dX12_act_160 : decode cX12_act 160 = .ok (.iastore, 1) := by decide +kernel
theorem dX12_act_161 : decode cX12_act 161 = .ok (.aload_n 0, 1) := by decide +kernel
theorem dX12_act_162 : decode cX12_act 162 = .ok (.getfield 100, 3) := by decide +kernel
theorem dX12_act_165 : decode cX12_act 165 = .ok (.aload_n 0, 1) := by decide +kernel
theorem dX12_act_166 : decode cX12_act 166 = .ok (.getfield 157, 3) := by decide +kernel
theorem dX12_act_169 : decode cX12_act 169 = .ok (.iload_n 2, 1) := by decide +kernel
theorem dX12_act_170 : decode cX12_act 170 = .ok (.iastore, 1) := by decide +kernel
theorem dX12_act_171 : decode cX12_act 171 = .ok (.aload_n 0, 1) := by decide +kernel
theorem dX12_act_172 : decode cX12_act 172 = .ok (.getfield 103, 3) := by decide +kernel
theorem dX12_act_175 : decode cX12_act 175 = .ok (.aload_n 0, 1) := by decide +kernel
theorem dX12_act_176 : decode cX12_act 176 = .ok (.getfield 157, 3) := by decide +kernel
theorem dX12_act_179 : decode cX12_act 179 = .ok (.iload_n 3, 1) := by decide +kernel
theorem dX12_act_180 : decode cX12_act 180 = .ok (.iastore, 1) := by decide +kernel
theorem dX12_act_181 : decode cX12_act 181 = .ok (.aload_n 0, 1) := by decide +kernel
theorem dX12_act_182 : decode cX12_act 182 = .ok (.getfield 106, 3) := by decide +kernel
theorem dX12_act_185 : decode cX12_act 185 = .ok (.aload_n 0, 1) := by decide +kernel
theorem dX12_act_186 : decode cX12_act 186 = .ok (.getfield 157, 3) := by decide +kernel
theorem dX12_act_189 : decode cX12_act 189 = .ok (.iload 4, 2) := by decide +kernel
theorem dX12_act_191 : decode cX12_act 191 = .ok (.iastore, 1) := by decide +kernel
theorem dX12_act_192 : decode cX12_act 192 = .ok (.aload_n 0, 1) := by decide +kernel
theorem dX12_act_193 : decode cX12_act 193 = .ok (.dup, 1) := by decide +kernel
theorem dX12_act_194 : decode cX12_act 194 = .ok (.getfield 157, 3) := by decide +kernel
theorem dX12_act_197 : decode cX12_act 197 = .ok (.iconst 1, 1) := by decide +kernel
theorem dX12_act_198 : decode cX12_act 198 = .ok (.iadd, 1) := by decide +kernel
theorem dX12_act_199 : decode cX12_act 199 = .ok (.putfield 157, 3) := by decide +kernel
theorem dX12_act_202 : decode cX12_act 202 = .ok (.aload_n 0, 1) := by decide +kernel
theorem dX12_act_203 : decode cX12_act 203 = .ok (.iconst 0, 1) := by decide +kernel
theorem dX12_act_204 : decode cX12_act 204 = .ok (.putfield 153, 3) := by decide +kernel
theorem dX12_act_207 : decode cX12_act 207 = .ok (.return_, 1) := by decide +kernel
theorem dX12_note_0 : decode cX12_note 0 = .ok (.iconst 0, 1) := by decide +kernel
theorem dX12_note_1 : decode cX12_note 1 = .ok (.istore_n 3, 1) := by decide +kernel
theorem dX12_note_2 : decode cX12_note 2 = .ok (.iload_n 3, 1) := by decide +kernel
theorem dX12_note_3 : decode cX12_note 3 = .ok (.bipush 16, 2) := by decide +kernel
theorem dX12_note_5 : decode cX12_note 5 = .ok (.if_icmp .ge 67, 3) := by decide +kernel
theorem dX12_note_8 : decode cX12_note 8 = .ok (.aload_n 0, 1) := by decide +kernel
theorem dX12_note_9 : decode cX12_note 9 = .ok (.getfield 109, 3) := by decide +kernel
theorem dX12_note_12 : decode cX12_note 12 = .ok (.bipush 16, 2) := by decide +kernel
theorem dX12_note_14 : decode cX12_note 14 = .ok (.aload_n 0, 1) := by decide +kernel
theorem dX12_note_15 : decode cX12_note 15 = .ok (.getfield 157, 3) := by decide +kernel
theorem dX12_note_18 : decode cX12_note 18 = .ok (.iconst 1, 1) := by decide +kernel
theorem dX12_note_19 : decode cX12_note 19 = .ok (.isub, 1) := by decide +kernel
theorem dX12_note_20 : decode cX12_note 20 = .ok (.imul, 1) := by decide +kernel
theorem dX12_note_21 : decode cX12_note 21 = .ok (.iload_n 3, 1) := by decide +kernel
theorem dX12_note_22 : decode cX12_note 22 = .ok (.iadd, 1) := by decide +kernel
theorem dX12_note_23 : decode cX12_note 23 = .ok (.aload_n 0, 1) := by decide +kernel
theorem dX12_note_24 : decode cX12_note 24 = .ok (.getfield 7, 3) := by decide +kernel
theorem dX12_note_27 : decode cX12_note 27 = .ok (.bipush 16, 2) := by decide +kernel
theorem dX12_note_29 : decode cX12_note 29 = .ok (.iload_n 1, 1) := by decide +kernel
theorem dX12_note_30 : decode cX12_note 30 = .ok (.imul, 1) := by decide +kernel
theorem dX12_note_31 : decode cX12_note 31 = .ok (.iload_n 3, 1) := by decide +kernel
theorem dX12_note_32 : decode cX12_note 32 = .ok (.iadd, 1) := by decide +kernel
theorem dX12_note_33 : decode cX12_note 33 = .ok (.faload, 1) := by decide +kernel
theorem dX12_note_34 : decode cX12_note 34 = .ok (.fastore, 1) := by decide +kernel
theorem dX12_note_35 : decode cX12_note 35 = .ok (.iload_n 2, 1) := by decide +kernel
theorem dX12_note_36 : decode cX12_note 36 = .ok (.ifCond .lt 30, 3) := by decide +kernel
theorem dX12_note_39 : decode cX12_note 39 = .ok (.aload_n 0, 1) := by decide +kernel
theorem dX12_note_40 : decode cX12_note 40 = .ok (.getfield 112, 3) := by decide +kernel
theorem dX12_note_43 : decode cX12_note 43 = .ok (.bipush 16, 2) := by decide +kernel
theorem dX12_note_45 : decode cX12_note 45 = .ok (.aload_n 0, 1) := by decide +kernel
theorem dX12_note_46 : decode cX12_note 46 = .ok (.getfield 157, 3) := by decide +kernel
theorem dX12_note_49 : decode cX12_note 49 = .ok (.iconst 1, 1) := by decide +kernel
theorem dX12_note_50 : decode cX12_note 50 = .ok (.isub, 1) := by decide +kernel
theorem dX12_note_51 : decode cX12_note 51 = .ok (.imul, 1) := by decide +kernel
theorem dX12_note_52 : decode cX12_note 52 = .ok (.iload_n 3, 1) := by decide +kernel
theorem dX12_note_53 : decode cX12_note 53 = .ok (.iadd, 1) := by decide +kernel
theorem dX12_note_54 : decode cX12_note 54 = .ok (.aload_n 0, 1) := by decide +kernel
theorem dX12_note_55 : decode cX12_note 55 = .ok (.getfield 13, 3) := by decide +kernel
theorem dX12_note_58 : decode cX12_note 58 = .ok (.bipush 16, 2) := by decide +kernel
theorem dX12_note_60 : decode cX12_note 60 = .ok (.iload_n 2, 1) := by decide +kernel
theorem dX12_note_61 : decode cX12_note 61 = .ok (.imul, 1) := by decide +kernel
theorem dX12_note_62 : decode cX12_note 62 = .ok (.iload_n 3, 1) := by decide +kernel
theorem dX12_note_63 : decode cX12_note 63 = .ok (.iadd, 1) := by decide +kernel
theorem dX12_note_64 : decode cX12_note 64 = .ok (.faload, 1) := by decide +kernel
theorem dX12_note_65 : decode cX12_note 65 = .ok (.fastore, 1) := by decide +kernel
theorem dX12_note_66 : decode cX12_note 66 = .ok (.iinc 3 1, 3) := by decide +kernel
theorem dX12_note_69 : decode cX12_note 69 = .ok (.goto (-67), 3) := by decide +kernel
theorem dX12_note_72 : decode cX12_note 72 = .ok (.return_, 1) := by decide +kernel
set_option maxRecDepth 20000 in
theorem ggX12_undo_X12_unweigh : GoodIn wsX12_undo wsX12_unweigh := goodIn_r _ [24, 25, 26, 27, 28, 29, 30, 23, 31, 32, 33, 34, 35, 36, 37, 38, 39, 40, 41, 42, 43, 44, 45, 46, 47, 48, 49, 50, 51, 52, 53, 54, 55, 56, 57, 58, 59, 60, 61, 62, 63, 64, 65, 66, 67, 68, 69, 70, 71, 72, 73, 74, 75, 76, 77, 78, 79, 80, 81, 82, 83, 84, 85, 86, 87, 88, 89, 90, 91, 92, 93, 94, 95, 96, 97, 98, 99, 100, 101, 102, 103, 104, 105, 106, 107, 108] (by decide +kernel) (by decide +kernel)
set_option maxRecDepth 20000 in
theorem gX12_undo_X12_unweigh : GoodIn wsX12_undo (wsV RX12 178 RX12 yX12_unweigh wsX12_unweigh) := goodIn_app (goodIn_of _ (by decide +kernel)) ggX12_undo_X12_unweigh
theorem dX12_undo_0 : decode cX12_undo 0 = .ok (.aload_n 0, 1) := by decide +kernel
theorem dX12_undo_1 : decode cX12_undo 1 = .ok (.iconst 0, 1) := by decide +kernel
theorem dX12_undo_2 : decode cX12_undo 2 = .ok (.putfield 149, 3) := by decide +kernel
theorem dX12_undo_5 : decode cX12_undo 5 = .ok (.aload_n 0, 1) := by decide +kernel
theorem dX12_undo_6 : decode cX12_undo 6 = .ok (.getfield 157, 3) := by decide +kernel
theorem dX12_undo_9 : decode cX12_undo 9 = .ok (.ifCond .ne 5, 3) := by decide +kernel
theorem dX12_undo_12 : decode cX12_undo 12 = .ok (.iconst 0, 1) := by decide +kernel
theorem dX12_undo_13 : decode cX12_undo 13 = .ok (.ireturn, 1) := by decide +kernel
theorem dX12_undo_14 : decode cX12_undo 14 = .ok (.aload_n 0, 1) := by decide +kernel
theorem dX12_undo_15 : decode cX12_undo 15 = .ok (.dup, 1) := by decide +kernel
theorem dX12_undo_16 : decode cX12_undo 16 = .ok (.getfield 157, 3) := by decide +kernel
theorem dX12_undo_19 : decode cX12_undo 19 = .ok (.iconst 1, 1) := by decide +kernel
theorem dX12_undo_20 : decode cX12_undo 20 = .ok (.isub, 1) := by decide +kernel
theorem dX12_undo_21 : decode cX12_undo 21 = .ok (.putfield 157, 3) := by decide +kernel
theorem dX12_undo_24 : decode cX12_undo 24 = .ok (.aload_n 0, 1) := by decide +kernel
theorem dX12_undo_25 : decode cX12_undo 25 = .ok (.getfield 100, 3) := by decide +kernel
theorem dX12_undo_28 : decode cX12_undo 28 = .ok (.aload_n 0, 1) := by decide +kernel
theorem dX12_undo_29 : decode cX12_undo 29 = .ok (.getfield 157, 3) := by decide +kernel
theorem dX12_undo_32 : decode cX12_undo 32 = .ok (.iaload, 1) := by decide +kernel
theorem dX12_undo_33 : decode cX12_undo 33 = .ok (.istore_n 1, 1) := by decide +kernel
theorem dX12_undo_34 : decode cX12_undo 34 = .ok (.aload_n 0, 1) := by decide +kernel
theorem dX12_undo_35 : decode cX12_undo 35 = .ok (.getfield 103, 3) := by decide +kernel
theorem dX12_undo_38 : decode cX12_undo 38 = .ok (.aload_n 0, 1) := by decide +kernel
theorem dX12_undo_39 : decode cX12_undo 39 = .ok (.getfield 157, 3) := by decide +kernel
theorem dX12_undo_42 : decode cX12_undo 42 = .ok (.iaload, 1) := by decide +kernel
theorem dX12_undo_43 : decode cX12_undo 43 = .ok (.istore_n 2, 1) := by decide +kernel
theorem dX12_undo_44 : decode cX12_undo 44 = .ok (.aload_n 0, 1) := by decide +kernel
theorem dX12_undo_45 : decode cX12_undo 45 = .ok (.getfield 106, 3) := by decide +kernel
theorem dX12_undo_48 : decode cX12_undo 48 = .ok (.aload_n 0, 1) := by decide +kernel
theorem dX12_undo_49 : decode cX12_undo 49 = .ok (.getfield 157, 3) := by decide +kernel
theorem dX12_undo_52 : decode cX12_undo 52 = .ok (.iaload, 1) := by decide +kernel
theorem dX12_undo_53 : decode cX12_undo 53 = .ok (.istore_n 3, 1) := by decide +kernel
theorem dX12_undo_54 : decode cX12_undo 54 = .ok (.aload_n 0, 1) := by decide +kernel
theorem dX12_undo_55 : decode cX12_undo 55 = .ok (.getfield 97, 3) := by decide +kernel
theorem dX12_undo_58 : decode cX12_undo 58 = .ok (.aload_n 0, 1) := by decide +kernel
theorem dX12_undo_59 : decode cX12_undo 59 = .ok (.getfield 157, 3) := by decide +kernel
theorem dX12_undo_62 : decode cX12_undo 62 = .ok (.iaload, 1) := by decide +kernel
theorem dX12_undo_63 : decode cX12_undo 63 = .ok (.tableswitch 229 0 9 #[53, 66, 79, 92, 105, 115, 128, 141, 154, 164], 53) := by decide +kernel
theorem dX12_undo_116 : decode cX12_undo 116 = .ok (.aload_n 0, 1) := by decide +kernel
theorem dX12_undo_117 : decode cX12_undo 117 = .ok (.dup, 1) := by decide +kernel
theorem dX12_undo_118 : decode cX12_undo 118 = .ok (.getfield 160, 3) := by decide +kernel
theorem dX12_undo_121 : decode cX12_undo 121 = .ok (.iconst 1, 1) := by decide +kernel
theorem dX12_undo_122 : decode cX12_undo 122 = .ok (.isub, 1) := by decide +kernel
theorem dX12_undo_123 : decode cX12_undo 123 = .ok (.putfield 160, 3) := by decide +kernel
theorem dX12_undo_126 : decode cX12_undo 126 = .ok (.goto 238, 3) := by decide +kernel
theorem dX12_undo_129 : decode cX12_undo 129 = .ok (.aload_n 0, 1) := by decide +kernel
theorem dX12_undo_130 : decode cX12_undo 130 = .ok (.dup, 1) := by decide +kernel
theorem dX12_undo_131 : decode cX12_undo 131 = .ok (.getfield 163, 3) := by decide +kernel
theorem dX12_undo_134 : decode cX12_undo 134 = .ok (.iconst 1, 1) := by decide +kernel
theorem dX12_undo_135 : decode cX12_undo 135 = .ok (.isub, 1) := by decide +kernel
theorem dX12_undo_136 : decode cX12_undo 136 = .ok (.putfield 163, 3) := by decide +kernel
theorem dX12_undo_139 : decode cX12_undo 139 = .ok (.goto 225, 3) := by decide +kernel
theorem dX12_undo_142 : decode cX12_undo 142 = .ok (.aload_n 0, 1) := by decide +kernel
theorem dX12_undo_143 : decode cX12_undo 143 = .ok (.dup, 1) := by decide +kernel
theorem dX12_undo_144 : decode cX12_undo 144 = .ok (.getfield 166, 3) := by decide +kernel
theorem dX12_undo_147 : decode cX12_undo 147 = .ok (.iconst 1, 1) := by decide +kernel
theorem dX12_undo_148 : decode cX12_undo 148 = .ok (.isub, 1) := by decide +kernel
theorem dX12_undo_149 : decode cX12_undo 149 = .ok (.putfield 166, 3) := by decide +kernel
theorem dX12_undo_152 : decode cX12_undo 152 = .ok (.goto 212, 3) := by decide +kernel
theorem dX12_undo_155 : decode cX12_undo 155 = .ok (.aload_n 0, 1) := by decide +kernel
theorem dX12_undo_156 : decode cX12_undo 156 = .ok (.getfield 20, 3) := by decide +kernel
theorem dX12_undo_159 : decode cX12_undo 159 = .ok (.iload_n 1, 1) := by decide +kernel
theorem dX12_undo_160 : decode cX12_undo 160 = .ok (.dup2, 1) := by decide +kernel
theorem dX12_undo_161 : decode cX12_undo 161 = .ok (.iaload, 1) := by decide +kernel
theorem dX12_undo_162 : decode cX12_undo 162 = .ok (.iconst 1, 1) := by decide +kernel
theorem dX12_undo_163 : decode cX12_undo 163 = .ok (.isub, 1) := by decide +kernel
theorem dX12_undo_164 : decode cX12_undo 164 = .ok (.iastore, 1) := by decide +kernel
theorem dX12_undo_165 : decode cX12_undo 165 = .ok (.goto 199, 3) := by decide +kernel
theorem dX12_undo_168 : decode cX12_undo 168 = .ok (.aload_n 0, 1) := by decide +kernel
theorem dX12_undo_169 : decode cX12_undo 169 = .ok (.getfield 26, 3) := by decide +kernel
theorem dX12_undo_172 : decode cX12_undo 172 = .ok (.iload_n 1, 1) := by decide +kernel
theorem dX12_undo_173 : decode cX12_undo 173 = .ok (.iload_n 2, 1) := by decide +kernel
theorem dX12_undo_174 : decode cX12_undo 174 = .ok (.iastore, 1) := by decide +kernel
theorem dX12_undo_175 : decode cX12_undo 175 = .ok (.goto 189, 3) := by decide +kernel
theorem dX12_undo_178 : decode cX12_undo 178 = .ok (.aload_n 0, 1) := by decide +kernel
theorem dX12_undo_179 : decode cX12_undo 179 = .ok (.dup, 1) := by decide +kernel
theorem dX12_undo_180 : decode cX12_undo 180 = .ok (.getfield 169, 3) := by decide +kernel
theorem dX12_undo_183 : decode cX12_undo 183 = .ok (.iconst 1, 1) := by decide +kernel
theorem dX12_undo_184 : decode cX12_undo 184 = .ok (.isub, 1) := by decide +kernel
theorem dX12_undo_185 : decode cX12_undo 185 = .ok (.putfield 169, 3) := by decide +kernel
theorem dX12_undo_188 : decode cX12_undo 188 = .ok (.goto 176, 3) := by decide +kernel
theorem dX12_undo_191 : decode cX12_undo 191 = .ok (.aload_n 0, 1) := by decide +kernel
theorem dX12_undo_192 : decode cX12_undo 192 = .ok (.dup, 1) := by decide +kernel
theorem dX12_undo_193 : decode cX12_undo 193 = .ok (.getfield 172, 3) := by decide +kernel
theorem dX12_undo_196 : decode cX12_undo 196 = .ok (.iconst 1, 1) := by decide +kernel
theorem dX12_undo_197 : decode cX12_undo 197 = .ok (.isub, 1) := by decide +kernel
theorem dX12_undo_198 : decode cX12_undo 198 = .ok (.putfield 172, 3) := by decide +kernel
theorem dX12_undo_201 : decode cX12_undo 201 = .ok (.goto 163, 3) := by decide +kernel
theorem dX12_undo_204 : decode cX12_undo 204 = .ok (.aload_n 0, 1) := by decide +kernel
theorem dX12_undo_205 : decode cX12_undo 205 = .ok (.dup, 1) := by decide +kernel
theorem dX12_undo_206 : decode cX12_undo 206 = .ok (.getfield 175, 3) := by decide +kernel
theorem dX12_undo_209 : decode cX12_undo 209 = .ok (.iconst 1, 1) := by decide +kernel
theorem dX12_undo_210 : decode cX12_undo 210 = .ok (.isub, 1) := by decide +kernel
theorem dX12_undo_211 : decode cX12_undo 211 = .ok (.putfield 175, 3) := by decide +kernel
theorem dX12_undo_214 : decode cX12_undo 214 = .ok (.goto 150, 3) := by decide +kernel
theorem dX12_undo_217 : decode cX12_undo 217 = .ok (.aload_n 0, 1) := by decide +kernel
theorem dX12_undo_218 : decode cX12_undo 218 = .ok (.iload_n 1, 1) := by decide +kernel
theorem dX12_undo_219 : decode cX12_undo 219 = .ok (.iload_n 2, 1) := by decide +kernel
theorem dX12_undo_220 : decode cX12_undo 220 = .ok (.iload_n 3, 1) := by decide +kernel
theorem dX12_undo_221 : decode cX12_undo 221 = .ok (.invokevirtual 178, 3) := by decide +kernel
theorem dX12_undo_224 : decode cX12_undo 224 = .ok (.goto 140, 3) := by decide +kernel
theorem dX12_undo_227 : decode cX12_undo 227 = .ok (.aload_n 0, 1) := by decide +kernel
theorem dX12_undo_228 : decode cX12_undo 228 = .ok (.getfield 59, 3) := by decide +kernel
theorem dX12_undo_231 : decode cX12_undo 231 = .ok (.iload_n 1, 1) := by decide +kernel
theorem dX12_undo_232 : decode cX12_undo 232 = .ok (.iload_n 2, 1) := by decide +kernel
theorem dX12_undo_233 : decode cX12_undo 233 = .ok (.iconst 1, 1) := by decide +kernel
theorem dX12_undo_234 : decode cX12_undo 234 = .ok (.if_icmp .ne 7, 3) := by decide +kernel
theorem dX12_undo_237 : decode cX12_undo 237 = .ok (.iconst 1, 1) := by decide +kernel
theorem dX12_undo_238 : decode cX12_undo 238 = .ok (.goto 4, 3) := by decide +kernel
theorem dX12_undo_241 : decode cX12_undo 241 = .ok (.iconst 0, 1) := by decide +kernel
theorem dX12_undo_242 : decode cX12_undo 242 = .ok (.bastore, 1) := by decide +kernel
theorem dX12_undo_243 : decode cX12_undo 243 = .ok (.iconst 0, 1) := by decide +kernel
theorem dX12_undo_244 : decode cX12_undo 244 = .ok (.istore 4, 2) := by decide +kernel
theorem dX12_undo_246 : decode cX12_undo 246 = .ok (.iload 4, 2) := by decide +kernel
theorem dX12_undo_248 : decode cX12_undo 248 = .ok (.bipush 16, 2) := by decide +kernel
theorem dX12_undo_250 : decode cX12_undo 250 = .ok (.if_icmp .ge 39, 3) := by decide +kernel
theorem dX12_undo_253 : decode cX12_undo 253 = .ok (.aload_n 0, 1) := by decide +kernel
theorem dX12_undo_254 : decode cX12_undo 254 = .ok (.getfield 7, 3) := by decide +kernel
theorem dX12_undo_257 : decode cX12_undo 257 = .ok (.bipush 16, 2) := by decide +kernel
theorem dX12_undo_259 : decode cX12_undo 259 = .ok (.bipush 50, 2) := by decide +kernel
theorem dX12_undo_261 : decode cX12_undo 261 = .ok (.iload_n 1, 1) := by decide +kernel
theorem dX12_undo_262 : decode cX12_undo 262 = .ok (.iadd, 1) := by decide +kernel
theorem dX12_undo_263 : decode cX12_undo 263 = .ok (.imul, 1) := by decide +kernel
theorem dX12_undo_264 : decode cX12_undo 264 = .ok (.iload 4, 2) := by decide +kernel
theorem dX12_undo_266 : decode cX12_undo 266 = .ok (.iadd, 1) := by decide +kernel
theorem dX12_undo_267 : decode cX12_undo 267 = .ok (.aload_n 0, 1) := by decide +kernel
theorem dX12_undo_268 : decode cX12_undo 268 = .ok (.getfield 109, 3) := by decide +kernel
theorem dX12_undo_271 : decode cX12_undo 271 = .ok (.bipush 16, 2) := by decide +kernel
theorem dX12_undo_273 : decode cX12_undo 273 = .ok (.aload_n 0, 1) := by decide +kernel
theorem dX12_undo_274 : decode cX12_undo 274 = .ok (.getfield 157, 3) := by decide +kernel
theorem dX12_undo_277 : decode cX12_undo 277 = .ok (.imul, 1) := by decide +kernel
theorem dX12_undo_278 : decode cX12_undo 278 = .ok (.iload 4, 2) := by decide +kernel
theorem dX12_undo_280 : decode cX12_undo 280 = .ok (.iadd, 1) := by decide +kernel
theorem dX12_undo_281 : decode cX12_undo 281 = .ok (.faload, 1) := by decide +kernel
theorem dX12_undo_282 : decode cX12_undo 282 = .ok (.fastore, 1) := by decide +kernel
theorem dX12_undo_283 : decode cX12_undo 283 = .ok (.iinc 4 1, 3) := by decide +kernel
theorem dX12_undo_286 : decode cX12_undo 286 = .ok (.goto (-40), 3) := by decide +kernel
theorem dX12_undo_289 : decode cX12_undo 289 = .ok (.goto 75, 3) := by decide +kernel
theorem dX12_undo_292 : decode cX12_undo 292 = .ok (.iconst 0, 1) := by decide +kernel
theorem dX12_undo_293 : decode cX12_undo 293 = .ok (.istore 4, 2) := by decide +kernel
theorem dX12_undo_295 : decode cX12_undo 295 = .ok (.iload 4, 2) := by decide +kernel
theorem dX12_undo_297 : decode cX12_undo 297 = .ok (.bipush 16, 2) := by decide +kernel
theorem dX12_undo_299 : decode cX12_undo 299 = .ok (.if_icmp .ge 65, 3) := by decide +kernel
theorem dX12_undo_302 : decode cX12_undo 302 = .ok (.aload_n 0, 1) := by decide +kernel
theorem dX12_undo_303 : decode cX12_undo 303 = .ok (.getfield 7, 3) := by decide +kernel
theorem dX12_undo_306 : decode cX12_undo 306 = .ok (.bipush 16, 2) := by decide +kernel
theorem dX12_undo_308 : decode cX12_undo 308 = .ok (.iconst 1, 1) := by decide +kernel
theorem dX12_undo_309 : decode cX12_undo 309 = .ok (.iload_n 1, 1) := by decide +kernel
theorem dX12_undo_310 : decode cX12_undo 310 = .ok (.iadd, 1) := by decide +kernel
theorem dX12_undo_311 : decode cX12_undo 311 = .ok (.imul, 1) := by decide +kernel
theorem dX12_undo_312 : decode cX12_undo 312 = .ok (.iload 4, 2) := by decide +kernel
theorem dX12_undo_314 : decode cX12_undo 314 = .ok (.iadd, 1) := by decide +kernel
theorem dX12_undo_315 : decode cX12_undo 315 = .ok (.aload_n 0, 1) := by decide +kernel
theorem dX12_undo_316 : decode cX12_undo 316 = .ok (.getfield 109, 3) := by decide +kernel
theorem dX12_undo_319 : decode cX12_undo 319 = .ok (.bipush 16, 2) := by decide +kernel
theorem dX12_undo_321 : decode cX12_undo 321 = .ok (.aload_n 0, 1) := by decide +kernel
theorem dX12_undo_322 : decode cX12_undo 322 = .ok (.getfield 157, 3) := by decide +kernel
theorem dX12_undo_325 : decode cX12_undo 325 = .ok (.imul, 1) := by decide +kernel
theorem dX12_undo_326 : decode cX12_undo 326 = .ok (.iload 4, 2) := by decide +kernel
theorem dX12_undo_328 : decode cX12_undo 328 = .ok (.iadd, 1) := by decide +kernel
theorem dX12_undo_329 : decode cX12_undo 329 = .ok (.faload, 1) := by decide +kernel
theorem dX12_undo_330 : decode cX12_undo 330 = .ok (.fastore, 1) := by decide +kernel
theorem dX12_undo_331 : decode cX12_undo 331 = .ok (.aload_n 0, 1) := by decide +kernel
theorem dX12_undo_332 : decode cX12_undo 332 = .ok (.getfield 13, 3) := by decide +kernel
theorem dX12_undo_335 : decode cX12_undo 335 = .ok (.bipush 16, 2) := by decide +kernel
theorem dX12_undo_337 : decode cX12_undo 337 = .ok (.iload_n 1, 1) := by decide +kernel
theorem dX12_undo_338 : decode cX12_undo 338 = .ok (.imul, 1) := by decide +kernel
theorem dX12_undo_339 : decode cX12_undo 339 = .ok (.iload 4, 2) := by decide +kernel
theorem dX12_undo_341 : decode cX12_undo 341 = .ok (.iadd, 1) := by decide +kernel
theorem dX12_undo_342 : decode cX12_undo 342 = .ok (.aload_n 0, 1) := by decide +kernel
theorem dX12_undo_343 : decode cX12_undo 343 = .ok (.getfield 112, 3) := by decide +kernel
theorem dX12_undo_346 : decode cX12_undo 346 = .ok (.bipush 16, 2) := by decide +kernel
theorem dX12_undo_348 : decode cX12_undo 348 = .ok (.aload_n 0, 1) := by decide +kernel
theorem dX12_undo_349 : decode cX12_undo 349 = .ok (.getfield 157, 3) := by decide +kernel
theorem dX12_undo_352 : decode cX12_undo 352 = .ok (.imul, 1) := by decide +kernel
theorem dX12_undo_353 : decode cX12_undo 353 = .ok (.iload 4, 2) := by decide +kernel
theorem dX12_undo_355 : decode cX12_undo 355 = .ok (.iadd, 1) := by decide +kernel
theorem dX12_undo_356 : decode cX12_undo 356 = .ok (.faload, 1) := by decide +kernel
theorem dX12_undo_357 : decode cX12_undo 357 = .ok (.fastore, 1) := by decide +kernel
theorem dX12_undo_358 : decode cX12_undo 358 = .ok (.iinc 4 1, 3) := by decide +kernel
theorem dX12_undo_361 : decode cX12_undo 361 = .ok (.goto (-66), 3) := by decide +kernel
theorem dX12_undo_364 : decode cX12_undo 364 = .ok (.iconst 1, 1) := by decide +kernel
theorem dX12_undo_365 : decode cX12_undo 365 = .ok (.ireturn, 1) := by decide +kernel
set_option maxRecDepth 20000 in
theorem ggX12_unweigh_X12_slotOf : GoodIn wsX12_unweigh wsX12_slotOf := goodIn_r _ [8, 3, 9, 10, 11, 12, 13, 14, 15, 16, 17, 18, 19, 20, 21, 22, 23, 24, 25, 26, 27, 28, 29, 30, 31, 32, 33, 34, 35, 36, 37, 38, 39, 40, 41, 42, 43, 44, 45, 46, 47, 48, 49, 50, 51, 52, 53, 54, 55, 56, 57, 58, 59, 60, 61, 62, 63, 64, 65, 66, 67, 68, 69, 70, 71, 72, 73, 74, 75, 76, 77, 78, 79, 80, 81, 82, 83, 84, 85] (by decide +kernel) (by decide +kernel)
set_option maxRecDepth 20000 in
theorem gX12_unweigh_X12_slotOf : GoodIn wsX12_unweigh (wsV RX12 182 RX12 yX12_slotOf wsX12_slotOf) := goodIn_app (goodIn_of _ (by decide +kernel)) ggX12_unweigh_X12_slotOf
theorem dX12_unweigh_0 : decode cX12_unweigh 0 = .ok (.aload_n 0, 1) := by decide +kernel
theorem dX12_unweigh_1 : decode cX12_unweigh 1 = .ok (.getfield 41, 3) := by decide +kernel
theorem dX12_unweigh_4 : decode cX12_unweigh 4 = .ok (.iload_n 2, 1) := by decide +kernel
theorem dX12_unweigh_5 : decode cX12_unweigh 5 = .ok (.dup2, 1) := by decide +kernel
theorem dX12_unweigh_6 : decode cX12_unweigh 6 = .ok (.iaload, 1) := by decide +kernel
theorem dX12_unweigh_7 : decode cX12_unweigh 7 = .ok (.sipush 1000, 3) := by decide +kernel
theorem dX12_unweigh_10 : decode cX12_unweigh 10 = .ok (.iload_n 3, 1) := by decide +kernel
theorem dX12_unweigh_11 : decode cX12_unweigh 11 = .ok (.imul, 1) := by decide +kernel
theorem dX12_unweigh_12 : decode cX12_unweigh 12 = .ok (.iadd, 1) := by decide +kernel
theorem dX12_unweigh_13 : decode cX12_unweigh 13 = .ok (.iastore, 1) := by decide +kernel
theorem dX12_unweigh_14 : decode cX12_unweigh 14 = .ok (.aload_n 0, 1) := by decide +kernel
theorem dX12_unweigh_15 : decode cX12_unweigh 15 = .ok (.iload_n 1, 1) := by decide +kernel
theorem dX12_unweigh_16 : decode cX12_unweigh 16 = .ok (.iload_n 2, 1) := by decide +kernel
theorem dX12_unweigh_17 : decode cX12_unweigh 17 = .ok (.invokevirtual 182, 3) := by decide +kernel
theorem dX12_unweigh_20 : decode cX12_unweigh 20 = .ok (.istore 4, 2) := by decide +kernel
theorem dX12_unweigh_22 : decode cX12_unweigh 22 = .ok (.aload_n 0, 1) := by decide +kernel
theorem dX12_unweigh_23 : decode cX12_unweigh 23 = .ok (.getfield 56, 3) := by decide +kernel
theorem dX12_unweigh_26 : decode cX12_unweigh 26 = .ok (.bipush 8, 2) := by decide +kernel
theorem dX12_unweigh_28 : decode cX12_unweigh 28 = .ok (.iload_n 1, 1) := by decide +kernel
theorem dX12_unweigh_29 : decode cX12_unweigh 29 = .ok (.imul, 1) := by decide +kernel
theorem dX12_unweigh_30 : decode cX12_unweigh 30 = .ok (.iload 4, 2) := by decide +kernel
theorem dX12_unweigh_32 : decode cX12_unweigh 32 = .ok (.iadd, 1) := by decide +kernel
theorem dX12_unweigh_33 : decode cX12_unweigh 33 = .ok (.dup2, 1) := by decide +kernel
theorem dX12_unweigh_34 : decode cX12_unweigh 34 = .ok (.iaload, 1) := by decide +kernel
theorem dX12_unweigh_35 : decode cX12_unweigh 35 = .ok (.iload_n 3, 1) := by decide +kernel
theorem dX12_unweigh_36 : decode cX12_unweigh 36 = .ok (.isub, 1) := by decide +kernel
theorem dX12_unweigh_37 : decode cX12_unweigh 37 = .ok (.iastore, 1) := by decide +kernel
theorem dX12_unweigh_38 : decode cX12_unweigh 38 = .ok (.aload_n 0, 1) := by decide +kernel
theorem dX12_unweigh_39 : decode cX12_unweigh 39 = .ok (.getfield 56, 3) := by decide +kernel
theorem dX12_unweigh_42 : decode cX12_unweigh 42 = .ok (.bipush 8, 2) := by decide +kernel
theorem dX12_unweigh_44 : decode cX12_unweigh 44 = .ok (.iload_n 1, 1) := by decide +kernel
theorem dX12_unweigh_45 : decode cX12_unweigh 45 = .ok (.imul, 1) := by decide +kernel
theorem dX12_unweigh_46 : decode cX12_unweigh 46 = .ok (.iload 4, 2) := by decide +kernel
theorem dX12_unweigh_48 : decode cX12_unweigh 48 = .ok (.iadd, 1) := by decide +kernel
theorem dX12_unweigh_49 : decode cX12_unweigh 49 = .ok (.iaload, 1) := by decide +kernel
theorem dX12_unweigh_50 : decode cX12_unweigh 50 = .ok (.ifCond .ne 13, 3) := by decide +kernel
theorem dX12_unweigh_53 : decode cX12_unweigh 53 = .ok (.aload_n 0, 1) := by decide +kernel
theorem dX12_unweigh_54 : decode cX12_unweigh 54 = .ok (.getfield 50, 3) := by decide +kernel
theorem dX12_unweigh_57 : decode cX12_unweigh 57 = .ok (.iload_n 1, 1) := by decide +kernel
theorem dX12_unweigh_58 : decode cX12_unweigh 58 = .ok (.dup2, 1) := by decide +kernel
theorem dX12_unweigh_59 : decode cX12_unweigh 59 = .ok (.iaload, 1) := by decide +kernel
theorem dX12_unweigh_60 : decode cX12_unweigh 60 = .ok (.iconst 1, 1) := by decide +kernel
theorem dX12_unweigh_61 : decode cX12_unweigh 61 = .ok (.isub, 1) := by decide +kernel
theorem dX12_unweigh_62 : decode cX12_unweigh 62 = .ok (.iastore, 1) := by decide +kernel
theorem dX12_unweigh_63 : decode cX12_unweigh 63 = .ok (.return_, 1) := by decide +kernel
set_option maxRecDepth 20000 in
theorem ggX12_bands_X12_is : GoodIn wsX12_bands wsX12_is := goodIn_r _ [11] (by decide +kernel) (by decide +kernel)
set_option maxRecDepth 20000 in
theorem gX12_bands_X12_is : GoodIn wsX12_bands (wsV RX12 186 RX12 yX12_is wsX12_is) := goodIn_app (goodIn_of _ (by decide +kernel)) ggX12_bands_X12_is
set_option maxRecDepth 20000 in
theorem ggX12_bands_X12_isFloat : GoodIn wsX12_bands wsX12_isFloat := goodIn_r _ [15, 16] (by decide +kernel) (by decide +kernel)
set_option maxRecDepth 20000 in
theorem gX12_bands_X12_isFloat : GoodIn wsX12_bands (wsV RX12 190 RX12 yX12_isFloat wsX12_isFloat) := goodIn_app (goodIn_of _ (by decide +kernel)) ggX12_bands_X12_isFloat
theorem dX12_bands_0 : decode cX12_bands 0 = .ok (.aload_n 0, 1) := by decide +kernel
theorem dX12_bands_1 : decode cX12_bands 1 = .ok (.iconst 0, 1) := by decide +kernel
theorem dX12_bands_2 : decode cX12_bands 2 = .ok (.putfield 149, 3) := by decide +kernel
theorem dX12_bands_5 : decode cX12_bands 5 = .ok (.aload_n 0, 1) := by decide +kernel
theorem dX12_bands_6 : decode cX12_bands 6 = .ok (.iload_n 1, 1) := by decide +kernel
theorem dX12_bands_7 : decode cX12_bands 7 = .ok (.iconst 4, 1) := by decide +kernel
theorem dX12_bands_8 : decode cX12_bands 8 = .ok (.invokevirtual 186, 3) := by decide +kernel
theorem dX12_bands_11 : decode cX12_bands 11 = .ok (.ifCond .eq 37, 3) := by decide +kernel
theorem dX12_bands_14 : decode cX12_bands 14 = .ok (.aload_n 0, 1) := by decide +kernel
theorem dX12_bands_15 : decode cX12_bands 15 = .ok (.iload_n 2, 1) := by decide +kernel
theorem dX12_bands_16 : decode cX12_bands 16 = .ok (.invokevirtual 190, 3) := by decide +kernel
theorem dX12_bands_19 : decode cX12_bands 19 = .ok (.ifCond .eq 29, 3) := by decide +kernel
theorem dX12_bands_22 : decode cX12_bands 22 = .ok (.aload_n 0, 1) := by decide +kernel
theorem dX12_bands_23 : decode cX12_bands 23 = .ok (.iload_n 3, 1) := by decide +kernel
theorem dX12_bands_24 : decode cX12_bands 24 = .ok (.invokevirtual 190, 3) := by decide +kernel
theorem dX12_bands_27 : decode cX12_bands 27 = .ok (.ifCond .eq 21, 3) := by decide +kernel
theorem dX12_bands_30 : decode cX12_bands 30 = .ok (.aload_n 0, 1) := by decide +kernel
theorem dX12_bands_31 : decode cX12_bands 31 = .ok (.iload 4, 2) := by decide +kernel
theorem dX12_bands_33 : decode cX12_bands 33 = .ok (.invokevirtual 190, 3) := by decide +kernel
theorem dX12_bands_36 : decode cX12_bands 36 = .ok (.ifCond .eq 12, 3) := by decide +kernel
theorem dX12_bands_39 : decode cX12_bands 39 = .ok (.aload_n 0, 1) := by decide +kernel
theorem dX12_bands_40 : decode cX12_bands 40 = .ok (.iload 5, 2) := by decide +kernel
theorem dX12_bands_42 : decode cX12_bands 42 = .ok (.invokevirtual 190, 3) := by decide +kernel
theorem dX12_bands_45 : decode cX12_bands 45 = .ok (.ifCond .ne 5, 3) := by decide +kernel
theorem dX12_bands_48 : decode cX12_bands 48 = .ok (.iconst 0, 1) := by decide +kernel
theorem dX12_bands_49 : decode cX12_bands 49 = .ok (.ireturn, 1) := by decide +kernel
theorem dX12_bands_50 : decode cX12_bands 50 = .ok (.aload_n 0, 1) := by decide +kernel
theorem dX12_bands_51 : decode cX12_bands 51 = .ok (.getfield 7, 3) := by decide +kernel
theorem dX12_bands_54 : decode cX12_bands 54 = .ok (.iconst 4, 1) := by decide +kernel
theorem dX12_bands_55 : decode cX12_bands 55 = .ok (.iload_n 1, 1) := by decide +kernel
theorem dX12_bands_56 : decode cX12_bands 56 = .ok (.imul, 1) := by decide +kernel
theorem dX12_bands_57 : decode cX12_bands 57 = .ok (.iload_n 2, 1) := by decide +kernel
theorem dX12_bands_58 : decode cX12_bands 58 = .ok (.invokestatic 194, 3) := by decide +kernel
theorem dX12_bands_61 : decode cX12_bands 61 = .ok (.fastore, 1) := by decide +kernel
theorem dX12_bands_62 : decode cX12_bands 62 = .ok (.aload_n 0, 1) := by decide +kernel
theorem dX12_bands_63 : decode cX12_bands 63 = .ok (.getfield 7, 3) := by decide +kernel
theorem dX12_bands_66 : decode cX12_bands 66 = .ok (.iconst 4, 1) := by decide +kernel
theorem dX12_bands_67 : decode cX12_bands 67 = .ok (.iload_n 1, 1) := by decide +kernel
theorem dX12_bands_68 : decode cX12_bands 68 = .ok (.imul, 1) := by decide +kernel
theorem dX12_bands_69 : decode cX12_bands 69 = .ok (.iconst 1, 1) := by decide +kernel
theorem dX12_bands_70 : decode cX12_bands 70 = .ok (.iadd, 1) := by decide +kernel
theorem dX12_bands_71 : decode cX12_bands 71 = .ok (.iload_n 3, 1) := by decide +kernel
theorem dX12_bands_72 : decode cX12_bands 72 = .ok (.invokestatic 194, 3) := by decide +kernel
theorem dX12_bands_75 : decode cX12_bands 75 = .ok (.fastore, 1) := by decide +kernel
theorem dX12_bands_76 : decode cX12_bands 76 = .ok (.aload_n 0, 1) := by decide +kernel
theorem dX12_bands_77 : decode cX12_bands 77 = .ok (.getfield 7, 3) := by decide +kernel
theorem dX12_bands_80 : decode cX12_bands 80 = .ok (.iconst 4, 1) := by decide +kernel
theorem dX12_bands_81 : decode cX12_bands 81 = .ok (.iload_n 1, 1) := by decide +kernel
theorem dX12_bands_82 : decode cX12_bands 82 = .ok (.imul, 1) := by decide +kernel
theorem dX12_bands_83 : decode cX12_bands 83 = .ok (.iconst 2, 1) := by decide +kernel
theorem dX12_bands_84 : decode cX12_bands 84 = .ok (.iadd, 1) := by decide +kernel
theorem dX12_bands_85 : decode cX12_bands 85 = .ok (.iload 4, 2) := by decide +kernel
theorem dX12_bands_87 : decode cX12_bands 87 = .ok (.invokestatic 194, 3) := by decide +kernel
theorem dX12_bands_90 : decode cX12_bands 90 = .ok (.fastore, 1) := by decide +kernel
theorem dX12_bands_91 : decode cX12_bands 91 = .ok (.aload_n 0, 1) := by decide +kernel
theorem dX12_bands_92 : decode cX12_bands 92 = .ok (.getfield 7, 3) := by decide +kernel
theorem dX12_bands_95 : decode cX12_bands 95 = .ok (.iconst 4, 1) := by decide +kernel
theorem dX12_bands_96 : decode cX12_bands 96 = .ok (.iload_n 1, 1) := by decide +kernel
theorem dX12_bands_97 : decode cX12_bands 97 = .ok (.imul, 1) := by decide +kernel
theorem dX12_bands_98 : decode cX12_bands 98 = .ok (.iconst 3, 1) := by decide +kernel
theorem dX12_bands_99 : decode cX12_bands 99 = .ok (.iadd, 1) := by decide +kernel
theorem dX12_bands_100 : decode cX12_bands 100 = .ok (.iload 5, 2) := by decide +kernel
theorem dX12_bands_102 : decode cX12_bands 102 = .ok (.invokestatic 194, 3) := by decide +kernel
theorem dX12_bands_105 : decode cX12_bands 105 = .ok (.fastore, 1) := by decide +kernel
theorem dX12_bands_106 : decode cX12_bands 106 = .ok (.iconst 1, 1) := by decide +kernel
theorem dX12_bands_107 : decode cX12_bands 107 = .ok (.ireturn, 1) := by decide +kernel
set_option maxRecDepth 20000 in
theorem ggX12_newChip_X12_copy : GoodIn wsX12_newChip wsX12_copy := goodIn_r _ [7, 8, 21, 22, 23, 24, 25, 26, 27, 28, 29, 30, 31, 32, 33, 34, 35, 36, 37, 38, 39, 40, 41, 42, 43, 44, 45, 46, 47, 48, 49, 50, 51, 52, 53, 54, 55, 56, 57, 58, 59, 60, 61, 62, 63, 64, 65, 66, 67, 68, 69, 70, 71, 72, 73, 74, 75, 76, 77, 78, 79, 80, 81, 82, 83, 84, 85, 86, 87, 88, 89, 90, 91, 92, 93, 94, 95, 96] (by decide +kernel) (by decide +kernel)
set_option maxRecDepth 20000 in
theorem gX12_newChip_X12_copy : GoodIn wsX12_newChip (wsV RX12 200 RX12 yX12_copy wsX12_copy) := goodIn_app (goodIn_of _ (by decide +kernel)) ggX12_newChip_X12_copy
set_option maxRecDepth 20000 in
theorem ggX12_newChip_X12_act : GoodIn wsX12_newChip wsX12_act := goodIn_r _ [12, 13, 14, 15, 16, 17, 18, 19, 20, 21, 22, 23, 24, 25, 26, 27, 28, 29, 30, 31, 32, 33, 34, 35, 36, 37, 38, 39, 40, 41, 42, 43, 44, 45, 46, 47, 48, 49, 50, 51, 52, 53, 54, 55, 56, 57, 58, 59, 60, 61, 62, 63, 64, 65, 66, 67, 68, 69, 70, 71, 72, 73, 74, 75, 76, 77, 78, 79, 80, 81, 82, 83, 84, 85, 86, 87, 88, 89, 90, 91, 92, 93, 94, 95, 96] (by decide +kernel) (by decide +kernel)
set_option maxRecDepth 20000 in
theorem gX12_newChip_X12_act : GoodIn wsX12_newChip (wsV RX12 204 RX12 yX12_act wsX12_act) := goodIn_app (goodIn_of _ (by decide +kernel)) ggX12_newChip_X12_act
theorem dX12_newChip_0 : decode cX12_newChip 0 = .ok (.aload_n 0, 1) := by decide +kernel
theorem dX12_newChip_1 : decode cX12_newChip 1 = .ok (.getfield 160, 3) := by decide +kernel
theorem dX12_newChip_4 : decode cX12_newChip 4 = .ok (.istore_n 2, 1) := by decide +kernel
theorem dX12_newChip_5 : decode cX12_newChip 5 = .ok (.aload_n 0, 1) := by decide +kernel
theorem dX12_newChip_6 : decode cX12_newChip 6 = .ok (.iload_n 1, 1) := by decide +kernel
theorem dX12_newChip_7 : decode cX12_newChip 7 = .ok (.iconst 1, 1) := by decide +kernel
theorem dX12_newChip_8 : decode cX12_newChip 8 = .ok (.iload_n 2, 1) := by decide +kernel
theorem dX12_newChip_9 : decode cX12_newChip 9 = .ok (.iadd, 1) := by decide +kernel
theorem dX12_newChip_10 : decode cX12_newChip 10 = .ok (.invokevirtual 200, 3) := by decide +kernel
theorem dX12_newChip_13 : decode cX12_newChip 13 = .ok (.iconst 0, 1) := by decide +kernel
theorem dX12_newChip_14 : decode cX12_newChip 14 = .ok (.istore_n 3, 1) := by decide +kernel
theorem dX12_newChip_15 : decode cX12_newChip 15 = .ok (.iload_n 3, 1) := by decide +kernel
theorem dX12_newChip_16 : decode cX12_newChip 16 = .ok (.bipush 16, 2) := by decide +kernel
theorem dX12_newChip_18 : decode cX12_newChip 18 = .ok (.if_icmp .ge 21, 3) := by decide +kernel
theorem dX12_newChip_21 : decode cX12_newChip 21 = .ok (.aload_n 0, 1) := by decide +kernel
theorem dX12_newChip_22 : decode cX12_newChip 22 = .ok (.getfield 13, 3) := by decide +kernel
theorem dX12_newChip_25 : decode cX12_newChip 25 = .ok (.bipush 16, 2) := by decide +kernel
theorem dX12_newChip_27 : decode cX12_newChip 27 = .ok (.iload_n 2, 1) := by decide +kernel
theorem dX12_newChip_28 : decode cX12_newChip 28 = .ok (.imul, 1) := by decide +kernel
theorem dX12_newChip_29 : decode cX12_newChip 29 = .ok (.iload_n 3, 1) := by decide +kernel
theorem dX12_newChip_30 : decode cX12_newChip 30 = .ok (.iadd, 1) := by decide +kernel
theorem dX12_newChip_31 : decode cX12_newChip 31 = .ok (.fconst 0, 1) := by decide +kernel
theorem dX12_newChip_32 : decode cX12_newChip 32 = .ok (.fastore, 1) := by decide +kernel
theorem dX12_newChip_33 : decode cX12_newChip 33 = .ok (.iinc 3 1, 3) := by decide +kernel
theorem dX12_newChip_36 : decode cX12_newChip 36 = .ok (.goto (-21), 3) := by decide +kernel
theorem dX12_newChip_39 : decode cX12_newChip 39 = .ok (.aload_n 0, 1) := by decide +kernel
theorem dX12_newChip_40 : decode cX12_newChip 40 = .ok (.dup, 1) := by decide +kernel
theorem dX12_newChip_41 : decode cX12_newChip 41 = .ok (.getfield 160, 3) := by decide +kernel
theorem dX12_newChip_44 : decode cX12_newChip 44 = .ok (.iconst 1, 1) := by decide +kernel
theorem dX12_newChip_45 : decode cX12_newChip 45 = .ok (.iadd, 1) := by decide +kernel
theorem dX12_newChip_46 : decode cX12_newChip 46 = .ok (.putfield 160, 3) := by decide +kernel
theorem dX12_newChip_49 : decode cX12_newChip 49 = .ok (.aload_n 0, 1) := by decide +kernel
theorem dX12_newChip_50 : decode cX12_newChip 50 = .ok (.iconst 0, 1) := by decide +kernel
theorem dX12_newChip_51 : decode cX12_newChip 51 = .ok (.iload_n 2, 1) := by decide +kernel
theorem dX12_newChip_52 : decode cX12_newChip 52 = .ok (.iconst 0, 1) := by decide +kernel
theorem dX12_newChip_53 : decode cX12_newChip 53 = .ok (.iconst 0, 1) := by decide +kernel
theorem dX12_newChip_54 : decode cX12_newChip 54 = .ok (.invokevirtual 204, 3) := by decide +kernel
theorem dX12_newChip_57 : decode cX12_newChip 57 = .ok (.iload_n 2, 1) := by decide +kernel
theorem dX12_newChip_58 : decode cX12_newChip 58 = .ok (.ireturn, 1) := by decide +kernel
set_option maxRecDepth 20000 in
theorem ggX12_chip_X12_no : GoodIn wsX12_chip wsX12_no := goodIn_r _ [7, 8, 30, 31, 32, 33, 34, 35, 36, 37, 38, 39, 40, 41, 42, 43, 44, 45, 46, 47, 48, 49, 50, 51, 52, 53, 54, 55, 56, 57, 58, 59, 60, 61, 62, 63, 64, 65, 66, 67, 68, 69, 70, 71, 72, 73, 74, 75, 76, 77, 78, 79, 80, 81, 82, 83, 84, 85, 86, 87, 88, 89, 90, 91, 92, 93, 94, 95, 96, 97, 98, 99, 100, 101, 102, 103, 104, 105] (by decide +kernel) (by decide +kernel)
set_option maxRecDepth 20000 in
theorem gX12_chip_X12_no : GoodIn wsX12_chip (wsV RX12 208 RX12 yX12_no wsX12_no) := goodIn_app (goodIn_of _ (by decide +kernel)) ggX12_chip_X12_no
set_option maxRecDepth 20000 in
theorem ggX12_chip_X12_newChip : GoodIn wsX12_chip wsX12_newChip := goodIn_r _ [12, 2, 13, 14, 15, 16, 6, 17, 18, 19, 20, 21, 22, 23, 24, 25, 26, 27, 28, 29, 8, 30, 31, 32, 33, 34, 35, 36, 37, 38, 39, 40, 41, 42, 43, 44, 45, 46, 47, 48, 49, 50, 51, 52, 53, 54, 55, 56, 57, 58, 59, 60, 61, 62, 63, 64, 65, 66, 67, 68, 69, 70, 71, 72, 73, 74, 75, 76, 77, 78, 79, 80, 81, 82, 83, 84, 85, 86, 87, 88, 89, 90, 91, 92, 93, 94, 95, 96, 97, 98, 99, 100, 101, 102, 103, 104, 105] (by decide +kernel) (by decide +kernel)
set_option maxRecDepth 20000 in
theorem gX12_chip_X12_newChip : GoodIn wsX12_chip (wsV RX12 212 RX12 yX12_newChip wsX12_newChip) := goodIn_app (goodIn_of _ (by decide +kernel)) ggX12_chip_X12_newChip
theorem dX12_chip_0 : decode cX12_chip 0 = .ok (.aload_n 0, 1) := by decide +kernel
theorem dX12_chip_1 : decode cX12_chip 1 = .ok (.iconst 0, 1) := by decide +kernel
theorem dX12_chip_2 : decode cX12_chip 2 = .ok (.putfield 149, 3) := by decide +kernel
theorem dX12_chip_5 : decode cX12_chip 5 = .ok (.aload_n 0, 1) := by decide +kernel
theorem dX12_chip_6 : decode cX12_chip 6 = .ok (.getfield 160, 3) := by decide +kernel
theorem dX12_chip_9 : decode cX12_chip 9 = .ok (.bipush 40, 2) := by decide +kernel
theorem dX12_chip_11 : decode cX12_chip 11 = .ok (.if_icmp .ne 11, 3) := by decide +kernel
theorem dX12_chip_14 : decode cX12_chip 14 = .ok (.aload_n 0, 1) := by decide +kernel
theorem dX12_chip_15 : decode cX12_chip 15 = .ok (.iconst 1, 1) := by decide +kernel
theorem dX12_chip_16 : decode cX12_chip 16 = .ok (.invokevirtual 208, 3) := by decide +kernel
theorem dX12_chip_19 : decode cX12_chip 19 = .ok (.goto 8, 3) := by decide +kernel
theorem dX12_chip_22 : decode cX12_chip 22 = .ok (.aload_n 0, 1) := by decide +kernel
theorem dX12_chip_23 : decode cX12_chip 23 = .ok (.iconst 0, 1) := by decide +kernel
theorem dX12_chip_24 : decode cX12_chip 24 = .ok (.invokevirtual 212, 3) := by decide +kernel
theorem dX12_chip_27 : decode cX12_chip 27 = .ok (.ireturn, 1) := by decide +kernel
set_option maxRecDepth 20000 in
theorem ggX12_cloth_X12_no : GoodIn wsX12_cloth wsX12_no := goodIn_r _ [7, 8, 25, 26, 27, 28, 29, 30, 31, 32, 33, 34, 35, 36, 37, 38, 39, 40, 41, 42, 43, 44, 45, 46, 47, 48, 49, 50, 51, 52, 53, 54, 55, 56, 57, 58, 59, 60, 61, 62, 63, 64, 65, 66, 67, 68, 69, 70, 71, 72, 73, 74, 75, 76, 77, 78, 79, 80, 81, 82, 83, 84, 85, 86, 87, 88, 89, 90, 91, 92, 93, 94, 95, 96, 97, 98, 99, 100] (by decide +kernel) (by decide +kernel)
set_option maxRecDepth 20000 in
theorem gX12_cloth_X12_no : GoodIn wsX12_cloth (wsV RX12 208 RX12 yX12_no wsX12_no) := goodIn_app (goodIn_of _ (by decide +kernel)) ggX12_cloth_X12_no
set_option maxRecDepth 20000 in
theorem ggX12_cloth_X12_copy : GoodIn wsX12_cloth wsX12_copy := goodIn_r _ [12, 13, 25, 26, 27, 28, 29, 30, 31, 32, 33, 34, 35, 36, 37, 38, 39, 40, 41, 42, 43, 44, 45, 46, 47, 48, 49, 50, 51, 52, 53, 54, 55, 56, 57, 58, 59, 60, 61, 62, 63, 64, 65, 66, 67, 68, 69, 70, 71, 72, 73, 74, 75, 76, 77, 78, 79, 80, 81, 82, 83, 84, 85, 86, 87, 88, 89, 90, 91, 92, 93, 94, 95, 96, 97, 98, 99, 100] (by decide +kernel) (by decide +kernel)
set_option maxRecDepth 20000 in
theorem gX12_cloth_X12_copy : GoodIn wsX12_cloth (wsV RX12 200 RX12 yX12_copy wsX12_copy) := goodIn_app (goodIn_of _ (by decide +kernel)) ggX12_cloth_X12_copy
set_option maxRecDepth 20000 in
theorem ggX12_cloth_X12_act : GoodIn wsX12_cloth wsX12_act := goodIn_r _ [17, 18, 19, 20, 21, 22, 23, 24, 8, 25, 26, 27, 28, 29, 30, 31, 32, 33, 34, 35, 36, 37, 38, 39, 40, 41, 42, 43, 44, 45, 46, 47, 48, 49, 50, 51, 52, 53, 54, 55, 56, 57, 58, 59, 60, 61, 62, 63, 64, 65, 66, 67, 68, 69, 70, 71, 72, 73, 74, 75, 76, 77, 78, 79, 80, 81, 82, 83, 84, 85, 86, 87, 88, 89, 90, 91, 92, 93, 94, 95, 96, 97, 98, 99, 100] (by decide +kernel) (by decide +kernel)
set_option maxRecDepth 20000 in
theorem gX12_cloth_X12_act : GoodIn wsX12_cloth (wsV RX12 204 RX12 yX12_act wsX12_act) := goodIn_app (goodIn_of _ (by decide +kernel)) ggX12_cloth_X12_act
theorem dX12_cloth_0 : decode cX12_cloth 0 = .ok (.aload_n 0, 1) := by decide +kernel
theorem dX12_cloth_1 : decode cX12_cloth 1 = .ok (.iconst 0, 1) := by decide +kernel
theorem dX12_cloth_2 : decode cX12_cloth 2 = .ok (.putfield 149, 3) := by decide +kernel
theorem dX12_cloth_5 : decode cX12_cloth 5 = .ok (.aload_n 0, 1) := by decide +kernel
theorem dX12_cloth_6 : decode cX12_cloth 6 = .ok (.getfield 163, 3) := by decide +kernel
theorem dX12_cloth_9 : decode cX12_cloth 9 = .ok (.bipush 8, 2) := by decide +kernel
theorem dX12_cloth_11 : decode cX12_cloth 11 = .ok (.if_icmp .ne 9, 3) := by decide +kernel
theorem dX12_cloth_14 : decode cX12_cloth 14 = .ok (.aload_n 0, 1) := by decide +kernel
theorem dX12_cloth_15 : decode cX12_cloth 15 = .ok (.iconst 1, 1) := by decide +kernel
theorem dX12_cloth_16 : decode cX12_cloth 16 = .ok (.invokevirtual 208, 3) := by decide +kernel
theorem dX12_cloth_19 : decode cX12_cloth 19 = .ok (.ireturn, 1) := by decide +kernel
theorem dX12_cloth_20 : decode cX12_cloth 20 = .ok (.aload_n 0, 1) := by decide +kernel
theorem dX12_cloth_21 : decode cX12_cloth 21 = .ok (.iconst 0, 1) := by decide +kernel
theorem dX12_cloth_22 : decode cX12_cloth 22 = .ok (.bipush 41, 2) := by decide +kernel
theorem dX12_cloth_24 : decode cX12_cloth 24 = .ok (.aload_n 0, 1) := by decide +kernel
theorem dX12_cloth_25 : decode cX12_cloth 25 = .ok (.getfield 163, 3) := by decide +kernel
theorem dX12_cloth_28 : decode cX12_cloth 28 = .ok (.iadd, 1) := by decide +kernel
theorem dX12_cloth_29 : decode cX12_cloth 29 = .ok (.invokevirtual 200, 3) := by decide +kernel
theorem dX12_cloth_32 : decode cX12_cloth 32 = .ok (.aload_n 0, 1) := by decide +kernel
theorem dX12_cloth_33 : decode cX12_cloth 33 = .ok (.dup, 1) := by decide +kernel
theorem dX12_cloth_34 : decode cX12_cloth 34 = .ok (.getfield 163, 3) := by decide +kernel
theorem dX12_cloth_37 : decode cX12_cloth 37 = .ok (.iconst 1, 1) := by decide +kernel
theorem dX12_cloth_38 : decode cX12_cloth 38 = .ok (.iadd, 1) := by decide +kernel
theorem dX12_cloth_39 : decode cX12_cloth 39 = .ok (.putfield 163, 3) := by decide +kernel
theorem dX12_cloth_42 : decode cX12_cloth 42 = .ok (.aload_n 0, 1) := by decide +kernel
theorem dX12_cloth_43 : decode cX12_cloth 43 = .ok (.iconst 1, 1) := by decide +kernel
theorem dX12_cloth_44 : decode cX12_cloth 44 = .ok (.iconst 0, 1) := by decide +kernel
theorem dX12_cloth_45 : decode cX12_cloth 45 = .ok (.iconst 0, 1) := by decide +kernel
theorem dX12_cloth_46 : decode cX12_cloth 46 = .ok (.iconst 0, 1) := by decide +kernel
theorem dX12_cloth_47 : decode cX12_cloth 47 = .ok (.invokevirtual 204, 3) := by decide +kernel
theorem dX12_cloth_50 : decode cX12_cloth 50 = .ok (.aload_n 0, 1) := by decide +kernel
theorem dX12_cloth_51 : decode cX12_cloth 51 = .ok (.getfield 163, 3) := by decide +kernel
theorem dX12_cloth_54 : decode cX12_cloth 54 = .ok (.iconst 1, 1) := by decide +kernel
theorem dX12_cloth_55 : decode cX12_cloth 55 = .ok (.isub, 1) := by decide +kernel
theorem dX12_cloth_56 : decode cX12_cloth 56 = .ok (.ireturn, 1) := by decide +kernel
set_option maxRecDepth 20000 in
theorem ggX12_dye_X12_is : GoodIn wsX12_dye wsX12_is := goodIn_r _ [11] (by decide +kernel) (by decide +kernel)
set_option maxRecDepth 20000 in
theorem gX12_dye_X12_is : GoodIn wsX12_dye (wsV RX12 186 RX12 yX12_is wsX12_is) := goodIn_app (goodIn_of _ (by decide +kernel)) ggX12_dye_X12_is
set_option maxRecDepth 20000 in
theorem ggX12_dye_X12_no : GoodIn wsX12_dye wsX12_no := goodIn_r _ [15, 16, 28, 29, 30, 31, 32, 33, 34, 35, 36, 37, 38, 39, 40, 41, 42, 43, 44, 45, 46, 47, 48, 49, 50, 51, 52, 53, 54, 55, 56, 57, 58, 59, 60, 61, 62, 63, 64, 65, 66, 67, 68, 69, 70, 71, 72, 73, 74, 75, 76, 77, 78, 79, 80, 81, 82, 83, 84, 85, 86, 87, 88, 89, 90, 91, 92, 93, 94, 95, 96, 97, 98, 99, 100, 101, 102, 103] (by decide +kernel) (by decide +kernel)
set_option maxRecDepth 20000 in
theorem gX12_dye_X12_no : GoodIn wsX12_dye (wsV RX12 208 RX12 yX12_no wsX12_no) := goodIn_app (goodIn_of _ (by decide +kernel)) ggX12_dye_X12_no
set_option maxRecDepth 20000 in
theorem ggX12_dye_X12_act : GoodIn wsX12_dye wsX12_act := goodIn_r _ [20, 21, 22, 23, 24, 25, 26, 27, 16, 28, 29, 30, 31, 32, 33, 34, 35, 36, 37, 38, 39, 40, 41, 42, 43, 44, 45, 46, 47, 48, 49, 50, 51, 52, 53, 54, 55, 56, 57, 58, 59, 60, 61, 62, 63, 64, 65, 66, 67, 68, 69, 70, 71, 72, 73, 74, 75, 76, 77, 78, 79, 80, 81, 82, 83, 84, 85, 86, 87, 88, 89, 90, 91, 92, 93, 94, 95, 96, 97, 98, 99, 100, 101, 102, 103] (by decide +kernel) (by decide +kernel)
set_option maxRecDepth 20000 in
theorem gX12_dye_X12_act : GoodIn wsX12_dye (wsV RX12 204 RX12 yX12_act wsX12_act) := goodIn_app (goodIn_of _ (by decide +kernel)) ggX12_dye_X12_act
theorem dX12_dye_0 : decode cX12_dye 0 = .ok (.aload_n 0, 1) := by decide +kernel
theorem dX12_dye_1 : decode cX12_dye 1 = .ok (.iconst 0, 1) := by decide +kernel
theorem dX12_dye_2 : decode cX12_dye 2 = .ok (.putfield 149, 3) := by decide +kernel
theorem dX12_dye_5 : decode cX12_dye 5 = .ok (.aload_n 0, 1) := by decide +kernel
theorem dX12_dye_6 : decode cX12_dye 6 = .ok (.iload_n 1, 1) := by decide +kernel
theorem dX12_dye_7 : decode cX12_dye 7 = .ok (.aload_n 0, 1) := by decide +kernel
theorem dX12_dye_8 : decode cX12_dye 8 = .ok (.getfield 163, 3) := by decide +kernel
theorem dX12_dye_11 : decode cX12_dye 11 = .ok (.invokevirtual 186, 3) := by decide +kernel
theorem dX12_dye_14 : decode cX12_dye 14 = .ok (.ifCond .ne 9, 3) := by decide +kernel
theorem dX12_dye_17 : decode cX12_dye 17 = .ok (.aload_n 0, 1) := by decide +kernel
theorem dX12_dye_18 : decode cX12_dye 18 = .ok (.iconst 2, 1) := by decide +kernel
theorem dX12_dye_19 : decode cX12_dye 19 = .ok (.invokevirtual 208, 3) := by decide +kernel
theorem dX12_dye_22 : decode cX12_dye 22 = .ok (.ireturn, 1) := by decide +kernel
theorem dX12_dye_23 : decode cX12_dye 23 = .ok (.aload_n 0, 1) := by decide +kernel
theorem dX12_dye_24 : decode cX12_dye 24 = .ok (.getfield 166, 3) := by decide +kernel
theorem dX12_dye_27 : decode cX12_dye 27 = .ok (.bipush 12, 2) := by decide +kernel
theorem dX12_dye_29 : decode cX12_dye 29 = .ok (.if_icmp .ne 9, 3) := by decide +kernel
theorem dX12_dye_32 : decode cX12_dye 32 = .ok (.aload_n 0, 1) := by decide +kernel
theorem dX12_dye_33 : decode cX12_dye 33 = .ok (.iconst 1, 1) := by decide +kernel
theorem dX12_dye_34 : decode cX12_dye 34 = .ok (.invokevirtual 208, 3) := by decide +kernel
theorem dX12_dye_37 : decode cX12_dye 37 = .ok (.ireturn, 1) := by decide +kernel
theorem dX12_dye_38 : decode cX12_dye 38 = .ok (.aload_n 0, 1) := by decide +kernel
theorem dX12_dye_39 : decode cX12_dye 39 = .ok (.getfield 16, 3) := by decide +kernel
theorem dX12_dye_42 : decode cX12_dye 42 = .ok (.aload_n 0, 1) := by decide +kernel
theorem dX12_dye_43 : decode cX12_dye 43 = .ok (.getfield 166, 3) := by decide +kernel
theorem dX12_dye_46 : decode cX12_dye 46 = .ok (.iload_n 1, 1) := by decide +kernel
theorem dX12_dye_47 : decode cX12_dye 47 = .ok (.iastore, 1) := by decide +kernel
theorem dX12_dye_48 : decode cX12_dye 48 = .ok (.aload_n 0, 1) := by decide +kernel
theorem dX12_dye_49 : decode cX12_dye 49 = .ok (.getfield 20, 3) := by decide +kernel
theorem dX12_dye_52 : decode cX12_dye 52 = .ok (.aload_n 0, 1) := by decide +kernel
theorem dX12_dye_53 : decode cX12_dye 53 = .ok (.getfield 166, 3) := by decide +kernel
theorem dX12_dye_56 : decode cX12_dye 56 = .ok (.iconst 0, 1) := by decide +kernel
theorem dX12_dye_57 : decode cX12_dye 57 = .ok (.iastore, 1) := by decide +kernel
theorem dX12_dye_58 : decode cX12_dye 58 = .ok (.aload_n 0, 1) := by decide +kernel
theorem dX12_dye_59 : decode cX12_dye 59 = .ok (.getfield 26, 3) := by decide +kernel
theorem dX12_dye_62 : decode cX12_dye 62 = .ok (.aload_n 0, 1) := by decide +kernel
theorem dX12_dye_63 : decode cX12_dye 63 = .ok (.getfield 166, 3) := by decide +kernel
theorem dX12_dye_66 : decode cX12_dye 66 = .ok (.iconst 0, 1) := by decide +kernel
theorem dX12_dye_67 : decode cX12_dye 67 = .ok (.iastore, 1) := by decide +kernel
theorem dX12_dye_68 : decode cX12_dye 68 = .ok (.aload_n 0, 1) := by decide +kernel
theorem dX12_dye_69 : decode cX12_dye 69 = .ok (.dup, 1) := by decide +kernel
theorem dX12_dye_70 : decode cX12_dye 70 = .ok (.getfield 166, 3) := by decide +kernel
theorem dX12_dye_73 : decode cX12_dye 73 = .ok (.iconst 1, 1) := by decide +kernel
theorem dX12_dye_74 : decode cX12_dye 74 = .ok (.iadd, 1) := by decide +kernel
theorem dX12_dye_75 : decode cX12_dye 75 = .ok (.putfield 166, 3) := by decide +kernel
theorem dX12_dye_78 : decode cX12_dye 78 = .ok (.aload_n 0, 1) := by decide +kernel
theorem dX12_dye_79 : decode cX12_dye 79 = .ok (.iconst 2, 1) := by decide +kernel
theorem dX12_dye_80 : decode cX12_dye 80 = .ok (.iconst 0, 1) := by decide +kernel
theorem dX12_dye_81 : decode cX12_dye 81 = .ok (.iconst 0, 1) := by decide +kernel
theorem dX12_dye_82 : decode cX12_dye 82 = .ok (.iconst 0, 1) := by decide +kernel
theorem dX12_dye_83 : decode cX12_dye 83 = .ok (.invokevirtual 204, 3) := by decide +kernel
theorem dX12_dye_86 : decode cX12_dye 86 = .ok (.aload_n 0, 1) := by decide +kernel
theorem dX12_dye_87 : decode cX12_dye 87 = .ok (.getfield 166, 3) := by decide +kernel
theorem dX12_dye_90 : decode cX12_dye 90 = .ok (.iconst 1, 1) := by decide +kernel
theorem dX12_dye_91 : decode cX12_dye 91 = .ok (.isub, 1) := by decide +kernel
theorem dX12_dye_92 : decode cX12_dye 92 = .ok (.ireturn, 1) := by decide +kernel
set_option maxRecDepth 20000 in
theorem ggX12_strength_X12_is : GoodIn wsX12_strength wsX12_is := goodIn_r _ [10] (by decide +kernel) (by decide +kernel)
set_option maxRecDepth 20000 in
theorem gX12_strength_X12_is : GoodIn wsX12_strength (wsV RX12 186 RX12 yX12_is wsX12_is) := goodIn_app (goodIn_of _ (by decide +kernel)) ggX12_strength_X12_is
set_option maxRecDepth 20000 in
theorem ggX12_strength_X12_no : GoodIn wsX12_strength wsX12_no := goodIn_r _ [14, 15, 32, 33, 34, 35, 36, 37, 38, 39, 40, 41, 42, 43, 44, 45, 46, 47, 48, 49, 50, 51, 52, 53, 54, 55, 56, 57, 58, 59, 60, 61, 62, 63, 64, 65, 66, 67, 68, 69, 70, 71, 72, 73, 74, 75, 76, 77, 78, 79, 80, 81, 82, 83, 84, 85, 86, 87, 88, 89, 90, 91, 92, 93, 94, 95, 96, 97, 98, 99, 100, 101, 102, 103, 104, 105, 106, 107] (by decide +kernel) (by decide +kernel)
set_option maxRecDepth 20000 in
theorem gX12_strength_X12_no : GoodIn wsX12_strength (wsV RX12 208 RX12 yX12_no wsX12_no) := goodIn_app (goodIn_of _ (by decide +kernel)) ggX12_strength_X12_no
set_option maxRecDepth 20000 in
theorem ggX12_strength_X12_copy : GoodIn wsX12_strength wsX12_copy := goodIn_r _ [19, 20, 32, 33, 34, 35, 36, 37, 38, 39, 40, 41, 42, 43, 44, 45, 46, 47, 48, 49, 50, 51, 52, 53, 54, 55, 56, 57, 58, 59, 60, 61, 62, 63, 64, 65, 66, 67, 68, 69, 70, 71, 72, 73, 74, 75, 76, 77, 78, 79, 80, 81, 82, 83, 84, 85, 86, 87, 88, 89, 90, 91, 92, 93, 94, 95, 96, 97, 98, 99, 100, 101, 102, 103, 104, 105, 106, 107] (by decide +kernel) (by decide +kernel)
set_option maxRecDepth 20000 in
theorem gX12_strength_X12_copy : GoodIn wsX12_strength (wsV RX12 200 RX12 yX12_copy wsX12_copy) := goodIn_app (goodIn_of _ (by decide +kernel)) ggX12_strength_X12_copy
set_option maxRecDepth 20000 in
theorem ggX12_strength_X12_act : GoodIn wsX12_strength wsX12_act := goodIn_r _ [24, 25, 26, 27, 28, 29, 30, 31, 15, 32, 33, 34, 35, 36, 37, 38, 39, 40, 41, 42, 43, 44, 45, 46, 47, 48, 49, 50, 51, 52, 53, 54, 55, 56, 57, 58, 59, 60, 61, 62, 63, 64, 65, 66, 67, 68, 69, 70, 71, 72, 73, 74, 75, 76, 77, 78, 79, 80, 81, 82, 83, 84, 85, 86, 87, 88, 89, 90, 91, 92, 93, 94, 95, 96, 97, 98, 99, 100, 101, 102, 103, 104, 105, 106, 107] (by decide +kernel) (by decide +kernel)
set_option maxRecDepth 20000 in
theorem gX12_strength_X12_act : GoodIn wsX12_strength (wsV RX12 204 RX12 yX12_act wsX12_act) := goodIn_app (goodIn_of _ (by decide +kernel)) ggX12_strength_X12_act
theorem dX12_strength_0 : decode cX12_strength 0 = .ok (.aload_n 0, 1) := by decide +kernel
theorem dX12_strength_1 : decode cX12_strength 1 = .ok (.iconst 0, 1) := by decide +kernel
theorem dX12_strength_2 : decode cX12_strength 2 = .ok (.putfield 149, 3) := by decide +kernel
theorem dX12_strength_5 : decode cX12_strength 5 = .ok (.aload_n 0, 1) := by decide +kernel
theorem dX12_strength_6 : decode cX12_strength 6 = .ok (.iload_n 1, 1) := by decide +kernel
theorem dX12_strength_7 : decode cX12_strength 7 = .ok (.aload_n 0, 1) := by decide +kernel
theorem dX12_strength_8 : decode cX12_strength 8 = .ok (.getfield 166, 3) := by decide +kernel
theorem dX12_strength_11 : decode cX12_strength 11 = .ok (.invokevirtual 186, 3) := by decide +kernel
theorem dX12_strength_14 : decode cX12_strength 14 = .ok (.ifCond .ne 9, 3) := by decide +kernel
theorem dX12_strength_17 : decode cX12_strength 17 = .ok (.aload_n 0, 1) := by decide +kernel
theorem dX12_strength_18 : decode cX12_strength 18 = .ok (.iconst 2, 1) := by decide +kernel
theorem dX12_strength_19 : decode cX12_strength 19 = .ok (.invokevirtual 208, 3) := by decide +kernel
theorem dX12_strength_22 : decode cX12_strength 22 = .ok (.ireturn, 1) := by decide +kernel
theorem dX12_strength_23 : decode cX12_strength 23 = .ok (.aload_n 0, 1) := by decide +kernel
theorem dX12_strength_24 : decode cX12_strength 24 = .ok (.getfield 20, 3) := by decide +kernel
theorem dX12_strength_27 : decode cX12_strength 27 = .ok (.iload_n 1, 1) := by decide +kernel
theorem dX12_strength_28 : decode cX12_strength 28 = .ok (.iaload, 1) := by decide +kernel
theorem dX12_strength_29 : decode cX12_strength 29 = .ok (.istore_n 3, 1) := by decide +kernel
theorem dX12_strength_30 : decode cX12_strength 30 = .ok (.iload_n 2, 1) := by decide +kernel
theorem dX12_strength_31 : decode cX12_strength 31 = .ok (.iconst 1, 1) := by decide +kernel
theorem dX12_strength_32 : decode cX12_strength 32 = .ok (.if_icmp .lt 30, 3) := by decide +kernel
theorem dX12_strength_35 : decode cX12_strength 35 = .ok (.iload_n 2, 1) := by decide +kernel
theorem dX12_strength_36 : decode cX12_strength 36 = .ok (.ldc 215, 2) := by decide +kernel
theorem dX12_strength_38 : decode cX12_strength 38 = .ok (.if_icmp .gt 24, 3) := by decide +kernel
theorem dX12_strength_41 : decode cX12_strength 41 = .ok (.iload_n 3, 1) := by decide +kernel
theorem dX12_strength_42 : decode cX12_strength 42 = .ok (.ifCond .le 26, 3) := by decide +kernel
theorem dX12_strength_45 : decode cX12_strength 45 = .ok (.iload_n 2, 1) := by decide +kernel
theorem dX12_strength_46 : decode cX12_strength 46 = .ok (.aload_n 0, 1) := by decide +kernel
theorem dX12_strength_47 : decode cX12_strength 47 = .ok (.getfield 23, 3) := by decide +kernel
theorem dX12_strength_50 : decode cX12_strength 50 = .ok (.bipush 6, 2) := by decide +kernel
theorem dX12_strength_52 : decode cX12_strength 52 = .ok (.iload_n 1, 1) := by decide +kernel
theorem dX12_strength_53 : decode cX12_strength 53 = .ok (.imul, 1) := by decide +kernel
theorem dX12_strength_54 : decode cX12_strength 54 = .ok (.iload_n 3, 1) := by decide +kernel
theorem dX12_strength_55 : decode cX12_strength 55 = .ok (.iadd, 1) := by decide +kernel
theorem dX12_strength_56 : decode cX12_strength 56 = .ok (.iconst 1, 1) := by decide +kernel
theorem dX12_strength_57 : decode cX12_strength 57 = .ok (.isub, 1) := by decide +kernel
theorem dX12_strength_58 : decode cX12_strength 58 = .ok (.iaload, 1) := by decide +kernel
theorem dX12_strength_59 : decode cX12_strength 59 = .ok (.if_icmp .gt 9, 3) := by decide +kernel
theorem dX12_strength_62 : decode cX12_strength 62 = .ok (.aload_n 0, 1) := by decide +kernel
theorem dX12_strength_63 : decode cX12_strength 63 = .ok (.iconst 3, 1) := by decide +kernel
theorem dX12_strength_64 : decode cX12_strength 64 = .ok (.invokevirtual 208, 3) := by decide +kernel
theorem dX12_strength_67 : decode cX12_strength 67 = .ok (.ireturn, 1) := by decide +kernel
theorem dX12_strength_68 : decode cX12_strength 68 = .ok (.iload_n 3, 1) := by decide +kernel
theorem dX12_strength_69 : decode cX12_strength 69 = .ok (.bipush 6, 2) := by decide +kernel
theorem dX12_strength_71 : decode cX12_strength 71 = .ok (.if_icmp .ne 9, 3) := by decide +kernel
theorem dX12_strength_74 : decode cX12_strength 74 = .ok (.aload_n 0, 1) := by decide +kernel
theorem dX12_strength_75 : decode cX12_strength 75 = .ok (.iconst 1, 1) := by decide +kernel
theorem dX12_strength_76 : decode cX12_strength 76 = .ok (.invokevirtual 208, 3) := by decide +kernel
theorem dX12_strength_79 : decode cX12_strength 79 = .ok (.ireturn, 1) := by decide +kernel
theorem dX12_strength_80 : decode cX12_strength 80 = .ok (.aload_n 0, 1) := by decide +kernel
theorem dX12_strength_81 : decode cX12_strength 81 = .ok (.iconst 0, 1) := by decide +kernel
theorem dX12_strength_82 : decode cX12_strength 82 = .ok (.bipush 62, 2) := by decide +kernel
theorem dX12_strength_84 : decode cX12_strength 84 = .ok (.bipush 6, 2) := by decide +kernel
theorem dX12_strength_86 : decode cX12_strength 86 = .ok (.iload_n 1, 1) := by decide +kernel
theorem dX12_strength_87 : decode cX12_strength 87 = .ok (.imul, 1) := by decide +kernel
theorem dX12_strength_88 : decode cX12_strength 88 = .ok (.iadd, 1) := by decide +kernel
theorem dX12_strength_89 : decode cX12_strength 89 = .ok (.iload_n 3, 1) := by decide +kernel
theorem dX12_strength_90 : decode cX12_strength 90 = .ok (.iadd, 1) := by decide +kernel
theorem dX12_strength_91 : decode cX12_strength 91 = .ok (.invokevirtual 200, 3) := by decide +kernel
theorem dX12_strength_94 : decode cX12_strength 94 = .ok (.aload_n 0, 1) := by decide +kernel
theorem dX12_strength_95 : decode cX12_strength 95 = .ok (.getfield 23, 3) := by decide +kernel
theorem dX12_strength_98 : decode cX12_strength 98 = .ok (.bipush 6, 2) := by decide +kernel
theorem dX12_strength_100 : decode cX12_strength 100 = .ok (.iload_n 1, 1) := by decide +kernel
theorem dX12_strength_101 : decode cX12_strength 101 = .ok (.imul, 1) := by decide +kernel
theorem dX12_strength_102 : decode cX12_strength 102 = .ok (.iload_n 3, 1) := by decide +kernel
theorem dX12_strength_103 : decode cX12_strength 103 = .ok (.iadd, 1) := by decide +kernel
theorem dX12_strength_104 : decode cX12_strength 104 = .ok (.iload_n 2, 1) := by decide +kernel
theorem dX12_strength_105 : decode cX12_strength 105 = .ok (.iastore, 1) := by decide +kernel
theorem dX12_strength_106 : decode cX12_strength 106 = .ok (.aload_n 0, 1) := by decide +kernel
theorem dX12_strength_107 : decode cX12_strength 107 = .ok (.getfield 20, 3) := by decide +kernel
theorem dX12_strength_110 : decode cX12_strength 110 = .ok (.iload_n 1, 1) := by decide +kernel
theorem dX12_strength_111 : decode cX12_strength 111 = .ok (.dup2, 1) := by decide +kernel
theorem dX12_strength_112 : decode cX12_strength 112 = .ok (.iaload, 1) := by decide +kernel
theorem dX12_strength_113 : decode cX12_strength 113 = .ok (.iconst 1, 1) := by decide +kernel
theorem dX12_strength_114 : decode cX12_strength 114 = .ok (.iadd, 1) := by decide +kernel
theorem dX12_strength_115 : decode cX12_strength 115 = .ok (.iastore, 1) := by decide +kernel
theorem dX12_strength_116 : decode cX12_strength 116 = .ok (.aload_n 0, 1) := by decide +kernel
theorem dX12_strength_117 : decode cX12_strength 117 = .ok (.iconst 3, 1) := by decide +kernel
theorem dX12_strength_118 : decode cX12_strength 118 = .ok (.iload_n 1, 1) := by decide +kernel
theorem dX12_strength_119 : decode cX12_strength 119 = .ok (.iconst 0, 1) := by decide +kernel
theorem dX12_strength_120 : decode cX12_strength 120 = .ok (.iconst 0, 1) := by decide +kernel
theorem dX12_strength_121 : decode cX12_strength 121 = .ok (.invokevirtual 204, 3) := by decide +kernel
theorem dX12_strength_124 : decode cX12_strength 124 = .ok (.iload_n 3, 1) := by decide +kernel
theorem dX12_strength_125 : decode cX12_strength 125 = .ok (.iconst 1, 1) := by decide +kernel
theorem dX12_strength_126 : decode cX12_strength 126 = .ok (.iadd, 1) := by decide +kernel
theorem dX12_strength_127 : decode cX12_strength 127 = .ok (.ireturn, 1) := by decide +kernel
set_option maxRecDepth 20000 in
theorem ggX12_cents_X12_is : GoodIn wsX12_cents wsX12_is := goodIn_r _ [9] (by decide +kernel) (by decide +kernel)
set_option maxRecDepth 20000 in
theorem gX12_cents_X12_is : GoodIn wsX12_cents (wsV RX12 186 RX12 yX12_is wsX12_is) := goodIn_app (goodIn_of _ (by decide +kernel)) ggX12_cents_X12_is
set_option maxRecDepth 20000 in
theorem ggX12_cents_X12_not : GoodIn wsX12_cents wsX12_not := goodIn_r _ [13, 14, 26, 27, 28, 29, 30, 31, 32, 33, 34, 35, 36, 37, 38, 39, 40, 41, 42, 43, 44, 45, 46, 47, 48, 49, 50, 51, 52, 53, 54, 55, 56, 57, 58, 59, 60, 61, 62, 63, 64, 65, 66, 67, 68, 69, 70, 71, 72, 73, 74, 75, 76, 77, 78, 79, 80, 81, 82, 83, 84, 85, 86, 87, 88, 89, 90, 91, 92, 93, 94, 95, 96, 97, 98, 99, 100, 101] (by decide +kernel) (by decide +kernel)
set_option maxRecDepth 20000 in
theorem gX12_cents_X12_not : GoodIn wsX12_cents (wsV RX12 216 RX12 yX12_not wsX12_not) := goodIn_app (goodIn_of _ (by decide +kernel)) ggX12_cents_X12_not
set_option maxRecDepth 20000 in
theorem ggX12_cents_X12_act : GoodIn wsX12_cents wsX12_act := goodIn_r _ [18, 19, 20, 21, 22, 23, 24, 25, 14, 26, 27, 28, 29, 30, 31, 32, 33, 34, 35, 36, 37, 38, 39, 40, 41, 42, 43, 44, 45, 46, 47, 48, 49, 50, 51, 52, 53, 54, 55, 56, 57, 58, 59, 60, 61, 62, 63, 64, 65, 66, 67, 68, 69, 70, 71, 72, 73, 74, 75, 76, 77, 78, 79, 80, 81, 82, 83, 84, 85, 86, 87, 88, 89, 90, 91, 92, 93, 94, 95, 96, 97, 98, 99, 100, 101] (by decide +kernel) (by decide +kernel)
set_option maxRecDepth 20000 in
theorem gX12_cents_X12_act : GoodIn wsX12_cents (wsV RX12 204 RX12 yX12_act wsX12_act) := goodIn_app (goodIn_of _ (by decide +kernel)) ggX12_cents_X12_act
theorem dX12_cents_0 : decode cX12_cents 0 = .ok (.aload_n 0, 1) := by decide +kernel
theorem dX12_cents_1 : decode cX12_cents 1 = .ok (.iconst 0, 1) := by decide +kernel
theorem dX12_cents_2 : decode cX12_cents 2 = .ok (.putfield 149, 3) := by decide +kernel
theorem dX12_cents_5 : decode cX12_cents 5 = .ok (.aload_n 0, 1) := by decide +kernel
theorem dX12_cents_6 : decode cX12_cents 6 = .ok (.iload_n 1, 1) := by decide +kernel
theorem dX12_cents_7 : decode cX12_cents 7 = .ok (.aload_n 0, 1) := by decide +kernel
theorem dX12_cents_8 : decode cX12_cents 8 = .ok (.getfield 166, 3) := by decide +kernel
theorem dX12_cents_11 : decode cX12_cents 11 = .ok (.invokevirtual 186, 3) := by decide +kernel
theorem dX12_cents_14 : decode cX12_cents 14 = .ok (.ifCond .ne 9, 3) := by decide +kernel
theorem dX12_cents_17 : decode cX12_cents 17 = .ok (.aload_n 0, 1) := by decide +kernel
theorem dX12_cents_18 : decode cX12_cents 18 = .ok (.iconst 2, 1) := by decide +kernel
theorem dX12_cents_19 : decode cX12_cents 19 = .ok (.invokevirtual 216, 3) := by decide +kernel
theorem dX12_cents_22 : decode cX12_cents 22 = .ok (.ireturn, 1) := by decide +kernel
theorem dX12_cents_23 : decode cX12_cents 23 = .ok (.iload_n 2, 1) := by decide +kernel
theorem dX12_cents_24 : decode cX12_cents 24 = .ok (.ifCond .lt 9, 3) := by decide +kernel
theorem dX12_cents_27 : decode cX12_cents 27 = .ok (.iload_n 2, 1) := by decide +kernel
theorem dX12_cents_28 : decode cX12_cents 28 = .ok (.ldc 215, 2) := by decide +kernel
theorem dX12_cents_30 : decode cX12_cents 30 = .ok (.if_icmp .le 9, 3) := by decide +kernel
theorem dX12_cents_33 : decode cX12_cents 33 = .ok (.aload_n 0, 1) := by decide +kernel
theorem dX12_cents_34 : decode cX12_cents 34 = .ok (.iconst 3, 1) := by decide +kernel
theorem dX12_cents_35 : decode cX12_cents 35 = .ok (.invokevirtual 216, 3) := by decide +kernel
theorem dX12_cents_38 : decode cX12_cents 38 = .ok (.ireturn, 1) := by decide +kernel
theorem dX12_cents_39 : decode cX12_cents 39 = .ok (.aload_n 0, 1) := by decide +kernel
theorem dX12_cents_40 : decode cX12_cents 40 = .ok (.iconst 4, 1) := by decide +kernel
theorem dX12_cents_41 : decode cX12_cents 41 = .ok (.iload_n 1, 1) := by decide +kernel
theorem dX12_cents_42 : decode cX12_cents 42 = .ok (.aload_n 0, 1) := by decide +kernel
theorem dX12_cents_43 : decode cX12_cents 43 = .ok (.getfield 26, 3) := by decide +kernel
theorem dX12_cents_46 : decode cX12_cents 46 = .ok (.iload_n 1, 1) := by decide +kernel
theorem dX12_cents_47 : decode cX12_cents 47 = .ok (.iaload, 1) := by decide +kernel
theorem dX12_cents_48 : decode cX12_cents 48 = .ok (.iconst 0, 1) := by decide +kernel
theorem dX12_cents_49 : decode cX12_cents 49 = .ok (.invokevirtual 204, 3) := by decide +kernel
theorem dX12_cents_52 : decode cX12_cents 52 = .ok (.aload_n 0, 1) := by decide +kernel
theorem dX12_cents_53 : decode cX12_cents 53 = .ok (.getfield 26, 3) := by decide +kernel
theorem dX12_cents_56 : decode cX12_cents 56 = .ok (.iload_n 1, 1) := by decide +kernel
theorem dX12_cents_57 : decode cX12_cents 57 = .ok (.iload_n 2, 1) := by decide +kernel
theorem dX12_cents_58 : decode cX12_cents 58 = .ok (.iastore, 1) := by decide +kernel
theorem dX12_cents_59 : decode cX12_cents 59 = .ok (.iconst 1, 1) := by decide +kernel
theorem dX12_cents_60 : decode cX12_cents 60 = .ok (.ireturn, 1) := by decide +kernel
set_option maxRecDepth 20000 in
theorem ggX12_placeOf_X12_is : GoodIn wsX12_placeOf wsX12_is := goodIn_r _ [10] (by decide +kernel) (by decide +kernel)
set_option maxRecDepth 20000 in
theorem gX12_placeOf_X12_is : GoodIn wsX12_placeOf (wsV RX12 186 RX12 yX12_is wsX12_is) := goodIn_app (goodIn_of _ (by decide +kernel)) ggX12_placeOf_X12_is
theorem dX12_placeOf_0 : decode cX12_placeOf 0 = .ok (.iload_n 1, 1) := by decide +kernel
theorem dX12_placeOf_1 : decode cX12_placeOf 1 = .ok (.tableswitch 126 0 5 #[39, 41, 61, 82, 126, 96], 39) := by decide +kernel
theorem dX12_placeOf_40 : decode cX12_placeOf 40 = .ok (.iconst 0, 1) := by decide +kernel
theorem dX12_placeOf_41 : decode cX12_placeOf 41 = .ok (.ireturn, 1) := by decide +kernel
theorem dX12_placeOf_42 : decode cX12_placeOf 42 = .ok (.aload_n 0, 1) := by decide +kernel
theorem dX12_placeOf_43 : decode cX12_placeOf 43 = .ok (.iload_n 2, 1) := by decide +kernel
theorem dX12_placeOf_44 : decode cX12_placeOf 44 = .ok (.aload_n 0, 1) := by decide +kernel
theorem dX12_placeOf_45 : decode cX12_placeOf 45 = .ok (.getfield 160, 3) := by decide +kernel
theorem dX12_placeOf_48 : decode cX12_placeOf 48 = .ok (.invokevirtual 186, 3) := by decide +kernel
theorem dX12_placeOf_51 : decode cX12_placeOf 51 = .ok (.ifCond .eq 9, 3) := by decide +kernel
theorem dX12_placeOf_54 : decode cX12_placeOf 54 = .ok (.iconst 1, 1) := by decide +kernel
theorem dX12_placeOf_55 : decode cX12_placeOf 55 = .ok (.iload_n 2, 1) := by decide +kernel
theorem dX12_placeOf_56 : decode cX12_placeOf 56 = .ok (.iadd, 1) := by decide +kernel
theorem dX12_placeOf_57 : decode cX12_placeOf 57 = .ok (.goto 4, 3) := by decide +kernel
theorem dX12_placeOf_60 : decode cX12_placeOf 60 = .ok (.iconst (-1), 1) := by decide +kernel
theorem dX12_placeOf_61 : decode cX12_placeOf 61 = .ok (.ireturn, 1) := by decide +kernel
theorem dX12_placeOf_62 : decode cX12_placeOf 62 = .ok (.aload_n 0, 1) := by decide +kernel
theorem dX12_placeOf_63 : decode cX12_placeOf 63 = .ok (.iload_n 2, 1) := by decide +kernel
theorem dX12_placeOf_64 : decode cX12_placeOf 64 = .ok (.aload_n 0, 1) := by decide +kernel
theorem dX12_placeOf_65 : decode cX12_placeOf 65 = .ok (.getfield 163, 3) := by decide +kernel
theorem dX12_placeOf_68 : decode cX12_placeOf 68 = .ok (.invokevirtual 186, 3) := by decide +kernel
theorem dX12_placeOf_71 : decode cX12_placeOf 71 = .ok (.ifCond .eq 10, 3) := by decide +kernel
theorem dX12_placeOf_74 : decode cX12_placeOf 74 = .ok (.bipush 41, 2) := by decide +kernel
theorem dX12_placeOf_76 : decode cX12_placeOf 76 = .ok (.iload_n 2, 1) := by decide +kernel
theorem dX12_placeOf_77 : decode cX12_placeOf 77 = .ok (.iadd, 1) := by decide +kernel
theorem dX12_placeOf_78 : decode cX12_placeOf 78 = .ok (.goto 4, 3) := by decide +kernel
theorem dX12_placeOf_81 : decode cX12_placeOf 81 = .ok (.iconst (-1), 1) := by decide +kernel
theorem dX12_placeOf_82 : decode cX12_placeOf 82 = .ok (.ireturn, 1) := by decide +kernel
theorem dX12_placeOf_83 : decode cX12_placeOf 83 = .ok (.aload_n 0, 1) := by decide +kernel
theorem dX12_placeOf_84 : decode cX12_placeOf 84 = .ok (.getfield 219, 3) := by decide +kernel
theorem dX12_placeOf_87 : decode cX12_placeOf 87 = .ok (.ifCond .eq 8, 3) := by decide +kernel
theorem dX12_placeOf_90 : decode cX12_placeOf 90 = .ok (.bipush 49, 2) := by decide +kernel
theorem dX12_placeOf_92 : decode cX12_placeOf 92 = .ok (.goto 4, 3) := by decide +kernel
theorem dX12_placeOf_95 : decode cX12_placeOf 95 = .ok (.iconst (-1), 1) := by decide +kernel
theorem dX12_placeOf_96 : decode cX12_placeOf 96 = .ok (.ireturn, 1) := by decide +kernel
theorem dX12_placeOf_97 : decode cX12_placeOf 97 = .ok (.aload_n 0, 1) := by decide +kernel
theorem dX12_placeOf_98 : decode cX12_placeOf 98 = .ok (.iload_n 2, 1) := by decide +kernel
theorem dX12_placeOf_99 : decode cX12_placeOf 99 = .ok (.aload_n 0, 1) := by decide +kernel
theorem dX12_placeOf_100 : decode cX12_placeOf 100 = .ok (.getfield 175, 3) := by decide +kernel
theorem dX12_placeOf_103 : decode cX12_placeOf 103 = .ok (.invokevirtual 186, 3) := by decide +kernel
theorem dX12_placeOf_106 : decode cX12_placeOf 106 = .ok (.ifCond .eq 19, 3) := by decide +kernel
theorem dX12_placeOf_109 : decode cX12_placeOf 109 = .ok (.aload_n 0, 1) := by decide +kernel
theorem dX12_placeOf_110 : decode cX12_placeOf 110 = .ok (.getfield 59, 3) := by decide +kernel
theorem dX12_placeOf_113 : decode cX12_placeOf 113 = .ok (.iload_n 2, 1) := by decide +kernel
theorem dX12_placeOf_114 : decode cX12_placeOf 114 = .ok (.baload, 1) := by decide +kernel
theorem dX12_placeOf_115 : decode cX12_placeOf 115 = .ok (.ifCond .eq 10, 3) := by decide +kernel
theorem dX12_placeOf_118 : decode cX12_placeOf 118 = .ok (.bipush 50, 2) := by decide +kernel
theorem dX12_placeOf_120 : decode cX12_placeOf 120 = .ok (.iload_n 2, 1) := by decide +kernel
theorem dX12_placeOf_121 : decode cX12_placeOf 121 = .ok (.iadd, 1) := by decide +kernel
theorem dX12_placeOf_122 : decode cX12_placeOf 122 = .ok (.goto 4, 3) := by decide +kernel
theorem dX12_placeOf_125 : decode cX12_placeOf 125 = .ok (.iconst (-1), 1) := by decide +kernel
theorem dX12_placeOf_126 : decode cX12_placeOf 126 = .ok (.ireturn, 1) := by decide +kernel
theorem dX12_placeOf_127 : decode cX12_placeOf 127 = .ok (.iconst (-1), 1) := by decide +kernel
theorem dX12_placeOf_128 : decode cX12_placeOf 128 = .ok (.ireturn, 1) := by decide +kernel
set_option maxRecDepth 20000 in
theorem ggX12_band_X12_is : GoodIn wsX12_band wsX12_is := goodIn_r _ [9] (by decide +kernel) (by decide +kernel)
set_option maxRecDepth 20000 in
theorem gX12_band_X12_is : GoodIn wsX12_band (wsV RX12 186 RX12 yX12_is wsX12_is) := goodIn_app (goodIn_of _ (by decide +kernel)) ggX12_band_X12_is
set_option maxRecDepth 20000 in
theorem ggX12_band_Jxf58ca_floatToIntBits_5c35a : GoodIn wsX12_band wsJxf58ca_floatToIntBits_5c35a := goodIn_r _ [13, 14, 15, 16, 17, 18, 19, 20, 12, 21] (by decide +kernel) (by decide +kernel)
set_option maxRecDepth 20000 in
theorem gX12_band_Jxf58ca_floatToIntBits_5c35a : GoodIn wsX12_band (va_wsS RX12 223 yJxf58ca_floatToIntBits_5c35a wsJxf58ca_floatToIntBits_5c35a) := goodIn_app (goodIn_of _ (by decide +kernel)) ggX12_band_Jxf58ca_floatToIntBits_5c35a
set_option maxRecDepth 20000 in
theorem ggX12_band_X12_placeOf : GoodIn wsX12_band wsX12_placeOf := goodIn_r _ [25, 2, 26, 27, 28, 29, 5, 6, 7, 8, 9, 30, 31, 32, 33, 34, 35, 36, 37, 38, 39, 40, 41, 42, 43, 44, 45, 46, 47, 48, 49, 50, 51, 52, 53, 54, 55, 56, 57, 58, 59, 60, 61, 62, 63, 64, 65, 66, 67, 68, 69, 70, 71, 72, 73, 74, 75, 76, 77, 78, 79, 80, 81, 82, 83, 84, 85, 86, 87, 88, 89, 90, 91, 92, 93, 94, 95, 96, 97, 98, 99, 100, 101, 102, 103, 104, 105] (by decide +kernel) (by decide +kernel)
set_option maxRecDepth 20000 in
theorem gX12_band_X12_placeOf : GoodIn wsX12_band (wsV RX12 227 RX12 yX12_placeOf wsX12_placeOf) := goodIn_app (goodIn_of _ (by decide +kernel)) ggX12_band_X12_placeOf
theorem dX12_band_0 : decode cX12_band 0 = .ok (.aload_n 0, 1) := by decide +kernel
theorem dX12_band_1 : decode cX12_band 1 = .ok (.iconst 0, 1) := by decide +kernel
theorem dX12_band_2 : decode cX12_band 2 = .ok (.putfield 149, 3) := by decide +kernel
theorem dX12_band_5 : decode cX12_band 5 = .ok (.aload_n 0, 1) := by decide +kernel
theorem dX12_band_6 : decode cX12_band 6 = .ok (.iload_n 3, 1) := by decide +kernel
theorem dX12_band_7 : decode cX12_band 7 = .ok (.bipush 16, 2) := by decide +kernel
theorem dX12_band_9 : decode cX12_band 9 = .ok (.invokevirtual 186, 3) := by decide +kernel
theorem dX12_band_12 : decode cX12_band 12 = .ok (.ifCond .ne 5, 3) := by decide +kernel
theorem dX12_band_15 : decode cX12_band 15 = .ok (.iconst 0, 1) := by decide +kernel
theorem dX12_band_16 : decode cX12_band 16 = .ok (.ireturn, 1) := by decide +kernel
theorem dX12_band_17 : decode cX12_band 17 = .ok (.iload_n 1, 1) := by decide +kernel
theorem dX12_band_18 : decode cX12_band 18 = .ok (.iconst 4, 1) := by decide +kernel
theorem dX12_band_19 : decode cX12_band 19 = .ok (.if_icmp .ne 34, 3) := by decide +kernel
theorem dX12_band_22 : decode cX12_band 22 = .ok (.aload_n 0, 1) := by decide +kernel
theorem dX12_band_23 : decode cX12_band 23 = .ok (.iload_n 2, 1) := by decide +kernel
theorem dX12_band_24 : decode cX12_band 24 = .ok (.aload_n 0, 1) := by decide +kernel
theorem dX12_band_25 : decode cX12_band 25 = .ok (.getfield 160, 3) := by decide +kernel
theorem dX12_band_28 : decode cX12_band 28 = .ok (.invokevirtual 186, 3) := by decide +kernel
theorem dX12_band_31 : decode cX12_band 31 = .ok (.ifCond .eq 20, 3) := by decide +kernel
theorem dX12_band_34 : decode cX12_band 34 = .ok (.aload_n 0, 1) := by decide +kernel
theorem dX12_band_35 : decode cX12_band 35 = .ok (.getfield 13, 3) := by decide +kernel
theorem dX12_band_38 : decode cX12_band 38 = .ok (.bipush 16, 2) := by decide +kernel
theorem dX12_band_40 : decode cX12_band 40 = .ok (.iload_n 2, 1) := by decide +kernel
theorem dX12_band_41 : decode cX12_band 41 = .ok (.imul, 1) := by decide +kernel
theorem dX12_band_42 : decode cX12_band 42 = .ok (.iload_n 3, 1) := by decide +kernel
theorem dX12_band_43 : decode cX12_band 43 = .ok (.iadd, 1) := by decide +kernel
theorem dX12_band_44 : decode cX12_band 44 = .ok (.faload, 1) := by decide +kernel
theorem dX12_band_45 : decode cX12_band 45 = .ok (.invokestatic 223, 3) := by decide +kernel
theorem dX12_band_48 : decode cX12_band 48 = .ok (.goto 4, 3) := by decide +kernel
theorem dX12_band_51 : decode cX12_band 51 = .ok (.iconst 0, 1) := by decide +kernel
theorem dX12_band_52 : decode cX12_band 52 = .ok (.ireturn, 1) := by decide +kernel
theorem dX12_band_53 : decode cX12_band 53 = .ok (.aload_n 0, 1) := by decide +kernel
theorem dX12_band_54 : decode cX12_band 54 = .ok (.iload_n 1, 1) := by decide +kernel
theorem dX12_band_55 : decode cX12_band 55 = .ok (.iload_n 2, 1) := by decide +kernel
theorem dX12_band_56 : decode cX12_band 56 = .ok (.invokevirtual 227, 3) := by decide +kernel
theorem dX12_band_59 : decode cX12_band 59 = .ok (.istore 4, 2) := by decide +kernel
theorem dX12_band_61 : decode cX12_band 61 = .ok (.iload 4, 2) := by decide +kernel
theorem dX12_band_63 : decode cX12_band 63 = .ok (.iconst (-1), 1) := by decide +kernel
theorem dX12_band_64 : decode cX12_band 64 = .ok (.if_icmp .ne 7, 3) := by decide +kernel
theorem dX12_band_67 : decode cX12_band 67 = .ok (.iconst 0, 1) := by decide +kernel
theorem dX12_band_68 : decode cX12_band 68 = .ok (.goto 18, 3) := by decide +kernel
theorem dX12_band_71 : decode cX12_band 71 = .ok (.aload_n 0, 1) := by decide +kernel
theorem dX12_band_72 : decode cX12_band 72 = .ok (.getfield 7, 3) := by decide +kernel
theorem dX12_band_75 : decode cX12_band 75 = .ok (.bipush 16, 2) := by decide +kernel
theorem dX12_band_77 : decode cX12_band 77 = .ok (.iload 4, 2) := by decide +kernel
theorem dX12_band_79 : decode cX12_band 79 = .ok (.imul, 1) := by decide +kernel
theorem dX12_band_80 : decode cX12_band 80 = .ok (.iload_n 3, 1) := by decide +kernel
theorem dX12_band_81 : decode cX12_band 81 = .ok (.iadd, 1) := by decide +kernel
theorem dX12_band_82 : decode cX12_band 82 = .ok (.faload, 1) := by decide +kernel
theorem dX12_band_83 : decode cX12_band 83 = .ok (.invokestatic 223, 3) := by decide +kernel
theorem dX12_band_86 : decode cX12_band 86 = .ok (.ireturn, 1) := by decide +kernel
set_option maxRecDepth 20000 in
theorem ggX12_pick_X12_placeOf : GoodIn wsX12_pick wsX12_placeOf := goodIn_r _ [7, 8, 9, 10, 11, 12, 13, 14, 15, 6, 16, 26, 27, 28, 29, 30, 31, 32, 33, 34, 35, 36, 37, 38, 39, 40, 41, 42, 43, 44, 45, 46, 47, 48, 49, 50, 51, 52, 53, 54, 55, 56, 57, 58, 59, 60, 61, 62, 63, 64, 65, 66, 67, 68, 69, 70, 71, 72, 73, 74, 75, 76, 77, 78, 79, 80, 81, 82, 83, 84, 85, 86, 87, 88, 89, 90, 91, 92, 93, 94, 95, 96, 97, 98, 99, 100, 101] (by decide +kernel) (by decide +kernel)
set_option maxRecDepth 20000 in
theorem gX12_pick_X12_placeOf : GoodIn wsX12_pick (wsV RX12 227 RX12 yX12_placeOf wsX12_placeOf) := goodIn_app (goodIn_of _ (by decide +kernel)) ggX12_pick_X12_placeOf
set_option maxRecDepth 20000 in
theorem ggX12_pick_X12_not : GoodIn wsX12_pick wsX12_not := goodIn_r _ [20, 2, 26, 27, 28, 29, 30, 31, 32, 33, 34, 35, 36, 37, 38, 39, 40, 41, 42, 43, 44, 45, 46, 47, 48, 49, 50, 51, 52, 53, 54, 55, 56, 57, 58, 59, 60, 61, 62, 63, 64, 65, 66, 67, 68, 69, 70, 71, 72, 73, 74, 75, 76, 77, 78, 79, 80, 81, 82, 83, 84, 85, 86, 87, 88, 89, 90, 91, 92, 93, 94, 95, 96, 97, 98, 99, 100, 101] (by decide +kernel) (by decide +kernel)
set_option maxRecDepth 20000 in
theorem gX12_pick_X12_not : GoodIn wsX12_pick (wsV RX12 216 RX12 yX12_not wsX12_not) := goodIn_app (goodIn_of _ (by decide +kernel)) ggX12_pick_X12_not
set_option maxRecDepth 20000 in
theorem ggX12_pick_X12_copy : GoodIn wsX12_pick wsX12_copy := goodIn_r _ [24, 25, 26, 27, 28, 29, 30, 31, 32, 33, 34, 35, 36, 37, 38, 39, 40, 41, 42, 43, 44, 45, 46, 47, 48, 49, 50, 51, 52, 53, 54, 55, 56, 57, 58, 59, 60, 61, 62, 63, 64, 65, 66, 67, 68, 69, 70, 71, 72, 73, 74, 75, 76, 77, 78, 79, 80, 81, 82, 83, 84, 85, 86, 87, 88, 89, 90, 91, 92, 93, 94, 95, 96, 97, 98, 99, 100, 101] (by decide +kernel) (by decide +kernel)
set_option maxRecDepth 20000 in
theorem gX12_pick_X12_copy : GoodIn wsX12_pick (wsV RX12 200 RX12 yX12_copy wsX12_copy) := goodIn_app (goodIn_of _ (by decide +kernel)) ggX12_pick_X12_copy
theorem dX12_pick_0 : decode cX12_pick 0 = .ok (.aload_n 0, 1) := by decide +kernel
theorem dX12_pick_1 : decode cX12_pick 1 = .ok (.iconst 0, 1) := by decide +kernel
theorem dX12_pick_2 : decode cX12_pick 2 = .ok (.putfield 149, 3) := by decide +kernel
theorem dX12_pick_5 : decode cX12_pick 5 = .ok (.iload_n 1, 1) := by decide +kernel
theorem dX12_pick_6 : decode cX12_pick 6 = .ok (.ifCond .ne 7, 3) := by decide +kernel
theorem dX12_pick_9 : decode cX12_pick 9 = .ok (.iconst (-1), 1) := by decide +kernel
theorem dX12_pick_10 : decode cX12_pick 10 = .ok (.goto 9, 3) := by decide +kernel
theorem dX12_pick_13 : decode cX12_pick 13 = .ok (.aload_n 0, 1) := by decide +kernel
theorem dX12_pick_14 : decode cX12_pick 14 = .ok (.iload_n 1, 1) := by decide +kernel
theorem dX12_pick_15 : decode cX12_pick 15 = .ok (.iload_n 2, 1) := by decide +kernel
theorem dX12_pick_16 : decode cX12_pick 16 = .ok (.invokevirtual 227, 3) := by decide +kernel
theorem dX12_pick_19 : decode cX12_pick 19 = .ok (.istore_n 3, 1) := by decide +kernel
theorem dX12_pick_20 : decode cX12_pick 20 = .ok (.iload_n 3, 1) := by decide +kernel
theorem dX12_pick_21 : decode cX12_pick 21 = .ok (.iconst (-1), 1) := by decide +kernel
theorem dX12_pick_22 : decode cX12_pick 22 = .ok (.if_icmp .ne 9, 3) := by decide +kernel
theorem dX12_pick_25 : decode cX12_pick 25 = .ok (.aload_n 0, 1) := by decide +kernel
theorem dX12_pick_26 : decode cX12_pick 26 = .ok (.iconst 2, 1) := by decide +kernel
theorem dX12_pick_27 : decode cX12_pick 27 = .ok (.invokevirtual 216, 3) := by decide +kernel
theorem dX12_pick_30 : decode cX12_pick 30 = .ok (.ireturn, 1) := by decide +kernel
theorem dX12_pick_31 : decode cX12_pick 31 = .ok (.aload_n 0, 1) := by decide +kernel
theorem dX12_pick_32 : decode cX12_pick 32 = .ok (.iload_n 3, 1) := by decide +kernel
theorem dX12_pick_33 : decode cX12_pick 33 = .ok (.iconst 0, 1) := by decide +kernel
theorem dX12_pick_34 : decode cX12_pick 34 = .ok (.invokevirtual 200, 3) := by decide +kernel
theorem dX12_pick_37 : decode cX12_pick 37 = .ok (.aload_n 0, 1) := by decide +kernel
theorem dX12_pick_38 : decode cX12_pick 38 = .ok (.iconst 0, 1) := by decide +kernel
theorem dX12_pick_39 : decode cX12_pick 39 = .ok (.putfield 153, 3) := by decide +kernel
theorem dX12_pick_42 : decode cX12_pick 42 = .ok (.iconst 1, 1) := by decide +kernel
theorem dX12_pick_43 : decode cX12_pick 43 = .ok (.ireturn, 1) := by decide +kernel
set_option maxRecDepth 20000 in
theorem ggX12_blend_X12_is : GoodIn wsX12_blend wsX12_is := goodIn_r _ [8] (by decide +kernel) (by decide +kernel)
set_option maxRecDepth 20000 in
theorem gX12_blend_X12_is : GoodIn wsX12_blend (wsV RX12 186 RX12 yX12_is wsX12_is) := goodIn_app (goodIn_of _ (by decide +kernel)) ggX12_blend_X12_is
set_option maxRecDepth 20000 in
theorem ggX12_blend_X12_no : GoodIn wsX12_blend wsX12_no := goodIn_r _ [12, 13, 34, 35, 36, 37, 38, 39, 40, 41, 42, 43, 44, 45, 46, 47, 48, 49, 50, 51, 52, 53, 54, 55, 56, 57, 58, 59, 60, 61, 62, 63, 64, 65, 66, 67, 68, 69, 70, 71, 72, 73, 74, 75, 76, 77, 78, 79, 80, 81, 82, 83, 84, 85, 86, 87, 88, 89, 90, 91, 92, 93, 94, 95, 96, 97, 98, 99, 100, 101, 102, 103, 104, 105, 106, 107, 108, 109] (by decide +kernel) (by decide +kernel)
set_option maxRecDepth 20000 in
theorem gX12_blend_X12_no : GoodIn wsX12_blend (wsV RX12 208 RX12 yX12_no wsX12_no) := goodIn_app (goodIn_of _ (by decide +kernel)) ggX12_blend_X12_no
set_option maxRecDepth 20000 in
theorem ggX12_blend_X12_newChip : GoodIn wsX12_blend wsX12_newChip := goodIn_r _ [17, 2, 18, 19, 20, 21, 7, 22, 3, 23, 24, 25, 26, 27, 28, 29, 30, 31, 32, 33, 13, 34, 35, 36, 37, 38, 39, 40, 41, 42, 43, 44, 45, 46, 47, 48, 49, 50, 51, 52, 53, 54, 55, 56, 57, 58, 59, 60, 61, 62, 63, 64, 65, 66, 67, 68, 69, 70, 71, 72, 73, 74, 75, 76, 77, 78, 79, 80, 81, 82, 83, 84, 85, 86, 87, 88, 89, 90, 91, 92, 93, 94, 95, 96, 97, 98, 99, 100, 101, 102, 103, 104, 105, 106, 107, 108, 109] (by decide +kernel) (by decide +kernel)
set_option maxRecDepth 20000 in
theorem gX12_blend_X12_newChip : GoodIn wsX12_blend (wsV RX12 212 RX12 yX12_newChip wsX12_newChip) := goodIn_app (goodIn_of _ (by decide +kernel)) ggX12_blend_X12_newChip
theorem dX12_blend_0 : decode cX12_blend 0 = .ok (.aload_n 0, 1) := by decide +kernel
theorem dX12_blend_1 : decode cX12_blend 1 = .ok (.iconst 0, 1) := by decide +kernel
theorem dX12_blend_2 : decode cX12_blend 2 = .ok (.putfield 149, 3) := by decide +kernel
theorem dX12_blend_5 : decode cX12_blend 5 = .ok (.aload_n 0, 1) := by decide +kernel
theorem dX12_blend_6 : decode cX12_blend 6 = .ok (.iload_n 1, 1) := by decide +kernel
theorem dX12_blend_7 : decode cX12_blend 7 = .ok (.aload_n 0, 1) := by decide +kernel
theorem dX12_blend_8 : decode cX12_blend 8 = .ok (.getfield 160, 3) := by decide +kernel
theorem dX12_blend_11 : decode cX12_blend 11 = .ok (.invokevirtual 186, 3) := by decide +kernel
theorem dX12_blend_14 : decode cX12_blend 14 = .ok (.ifCond .eq 15, 3) := by decide +kernel
theorem dX12_blend_17 : decode cX12_blend 17 = .ok (.aload_n 0, 1) := by decide +kernel
theorem dX12_blend_18 : decode cX12_blend 18 = .ok (.iload_n 2, 1) := by decide +kernel
theorem dX12_blend_19 : decode cX12_blend 19 = .ok (.aload_n 0, 1) := by decide +kernel
theorem dX12_blend_20 : decode cX12_blend 20 = .ok (.getfield 160, 3) := by decide +kernel
theorem dX12_blend_23 : decode cX12_blend 23 = .ok (.invokevirtual 186, 3) := by decide +kernel
theorem dX12_blend_26 : decode cX12_blend 26 = .ok (.ifCond .ne 9, 3) := by decide +kernel
theorem dX12_blend_29 : decode cX12_blend 29 = .ok (.aload_n 0, 1) := by decide +kernel
theorem dX12_blend_30 : decode cX12_blend 30 = .ok (.iconst 2, 1) := by decide +kernel
theorem dX12_blend_31 : decode cX12_blend 31 = .ok (.invokevirtual 208, 3) := by decide +kernel
theorem dX12_blend_34 : decode cX12_blend 34 = .ok (.ireturn, 1) := by decide +kernel
theorem dX12_blend_35 : decode cX12_blend 35 = .ok (.iload 4, 2) := by decide +kernel
theorem dX12_blend_37 : decode cX12_blend 37 = .ok (.iconst 1, 1) := by decide +kernel
theorem dX12_blend_38 : decode cX12_blend 38 = .ok (.if_icmp .lt 21, 3) := by decide +kernel
theorem dX12_blend_41 : decode cX12_blend 41 = .ok (.iload 4, 2) := by decide +kernel
theorem dX12_blend_43 : decode cX12_blend 43 = .ok (.sipush 1000, 3) := by decide +kernel
theorem dX12_blend_46 : decode cX12_blend 46 = .ok (.if_icmp .gt 13, 3) := by decide +kernel
theorem dX12_blend_49 : decode cX12_blend 49 = .ok (.iload_n 3, 1) := by decide +kernel
theorem dX12_blend_50 : decode cX12_blend 50 = .ok (.ifCond .lt 9, 3) := by decide +kernel
theorem dX12_blend_53 : decode cX12_blend 53 = .ok (.iload_n 3, 1) := by decide +kernel
theorem dX12_blend_54 : decode cX12_blend 54 = .ok (.iload 4, 2) := by decide +kernel
theorem dX12_blend_56 : decode cX12_blend 56 = .ok (.if_icmp .le 9, 3) := by decide +kernel
theorem dX12_blend_59 : decode cX12_blend 59 = .ok (.aload_n 0, 1) := by decide +kernel
theorem dX12_blend_60 : decode cX12_blend 60 = .ok (.iconst 3, 1) := by decide +kernel
theorem dX12_blend_61 : decode cX12_blend 61 = .ok (.invokevirtual 208, 3) := by decide +kernel
theorem dX12_blend_64 : decode cX12_blend 64 = .ok (.ireturn, 1) := by decide +kernel
theorem dX12_blend_65 : decode cX12_blend 65 = .ok (.aload_n 0, 1) := by decide +kernel
theorem dX12_blend_66 : decode cX12_blend 66 = .ok (.getfield 160, 3) := by decide +kernel
theorem dX12_blend_69 : decode cX12_blend 69 = .ok (.bipush 40, 2) := by decide +kernel
theorem dX12_blend_71 : decode cX12_blend 71 = .ok (.if_icmp .ne 9, 3) := by decide +kernel
theorem dX12_blend_74 : decode cX12_blend 74 = .ok (.aload_n 0, 1) := by decide +kernel
theorem dX12_blend_75 : decode cX12_blend 75 = .ok (.iconst 1, 1) := by decide +kernel
theorem dX12_blend_76 : decode cX12_blend 76 = .ok (.invokevirtual 208, 3) := by decide +kernel
theorem dX12_blend_79 : decode cX12_blend 79 = .ok (.ireturn, 1) := by decide +kernel
theorem dX12_blend_80 : decode cX12_blend 80 = .ok (.iconst 0, 1) := by decide +kernel
theorem dX12_blend_81 : decode cX12_blend 81 = .ok (.istore 5, 2) := by decide +kernel
theorem dX12_blend_83 : decode cX12_blend 83 = .ok (.iload 5, 2) := by decide +kernel
theorem dX12_blend_85 : decode cX12_blend 85 = .ok (.bipush 16, 2) := by decide +kernel
theorem dX12_blend_87 : decode cX12_blend 87 = .ok (.if_icmp .ge 73, 3) := by decide +kernel
theorem dX12_blend_90 : decode cX12_blend 90 = .ok (.aload_n 0, 1) := by decide +kernel
theorem dX12_blend_91 : decode cX12_blend 91 = .ok (.getfield 7, 3) := by decide +kernel
theorem dX12_blend_94 : decode cX12_blend 94 = .ok (.bipush 16, 2) := by decide +kernel
theorem dX12_blend_96 : decode cX12_blend 96 = .ok (.iconst 1, 1) := by decide +kernel
theorem dX12_blend_97 : decode cX12_blend 97 = .ok (.iload_n 1, 1) := by decide +kernel
theorem dX12_blend_98 : decode cX12_blend 98 = .ok (.iadd, 1) := by decide +kernel
theorem dX12_blend_99 : decode cX12_blend 99 = .ok (.imul, 1) := by decide +kernel
theorem dX12_blend_100 : decode cX12_blend 100 = .ok (.iload 5, 2) := by decide +kernel
theorem dX12_blend_102 : decode cX12_blend 102 = .ok (.iadd, 1) := by decide +kernel
theorem dX12_blend_103 : decode cX12_blend 103 = .ok (.faload, 1) := by decide +kernel
theorem dX12_blend_104 : decode cX12_blend 104 = .ok (.f2d, 1) := by decide +kernel
theorem dX12_blend_105 : decode cX12_blend 105 = .ok (.dstore 6, 2) := by decide +kernel
theorem dX12_blend_107 : decode cX12_blend 107 = .ok (.aload_n 0, 1) := by decide +kernel
theorem dX12_blend_108 : decode cX12_blend 108 = .ok (.getfield 7, 3) := by decide +kernel
theorem dX12_blend_111 : decode cX12_blend 111 = .ok (.bipush 16, 2) := by decide +kernel
theorem dX12_blend_113 : decode cX12_blend 113 = .ok (.iconst 1, 1) := by decide +kernel
theorem dX12_blend_114 : decode cX12_blend 114 = .ok (.iload_n 2, 1) := by decide +kernel
theorem dX12_blend_115 : decode cX12_blend 115 = .ok (.iadd, 1) := by decide +kernel
theorem dX12_blend_116 : decode cX12_blend 116 = .ok (.imul, 1) := by decide +kernel
theorem dX12_blend_117 : decode cX12_blend 117 = .ok (.iload 5, 2) := by decide +kernel
theorem dX12_blend_119 : decode cX12_blend 119 = .ok (.iadd, 1) := by decide +kernel
theorem dX12_blend_120 : decode cX12_blend 120 = .ok (.faload, 1) := by decide +kernel
theorem dX12_blend_121 : decode cX12_blend 121 = .ok (.f2d, 1) := by decide +kernel
theorem dX12_blend_122 : decode cX12_blend 122 = .ok (.dstore 8, 2) := by decide +kernel
theorem dX12_blend_124 : decode cX12_blend 124 = .ok (.aload_n 0, 1) := by decide +kernel
theorem dX12_blend_125 : decode cX12_blend 125 = .ok (.getfield 7, 3) := by decide +kernel
theorem dX12_blend_128 : decode cX12_blend 128 = .ok (.sipush 2160, 3) := by decide +kernel
theorem dX12_blend_131 : decode cX12_blend 131 = .ok (.iload 5, 2) := by decide +kernel
theorem dX12_blend_133 : decode cX12_blend 133 = .ok (.iadd, 1) := by decide +kernel
theorem dX12_blend_134 : decode cX12_blend 134 = .ok (.dload 6, 2) := by decide +kernel
theorem dX12_blend_136 : decode cX12_blend 136 = .ok (.iload_n 3, 1) := by decide +kernel
theorem dX12_blend_137 : decode cX12_blend 137 = .ok (.i2d, 1) := by decide +kernel
theorem dX12_blend_138 : decode cX12_blend 138 = .ok (.dmul, 1) := by decide +kernel
theorem dX12_blend_139 : decode cX12_blend 139 = .ok (.dload 8, 2) := by decide +kernel
theorem dX12_blend_141 : decode cX12_blend 141 = .ok (.iload 4, 2) := by decide +kernel
theorem dX12_blend_143 : decode cX12_blend 143 = .ok (.iload_n 3, 1) := by decide +kernel
theorem dX12_blend_144 : decode cX12_blend 144 = .ok (.isub, 1) := by decide +kernel
theorem dX12_blend_145 : decode cX12_blend 145 = .ok (.i2d, 1) := by decide +kernel
theorem dX12_blend_146 : decode cX12_blend 146 = .ok (.dmul, 1) := by decide +kernel
theorem dX12_blend_147 : decode cX12_blend 147 = .ok (.dadd, 1) := by decide +kernel
theorem dX12_blend_148 : decode cX12_blend 148 = .ok (.iload 4, 2) := by decide +kernel
theorem dX12_blend_150 : decode cX12_blend 150 = .ok (.i2d, 1) := by decide +kernel
theorem dX12_blend_151 : decode cX12_blend 151 = .ok (.ddiv, 1) := by decide +kernel
theorem dX12_blend_152 : decode cX12_blend 152 = .ok (.d2f, 1) := by decide +kernel
theorem dX12_blend_153 : decode cX12_blend 153 = .ok (.fastore, 1) := by decide +kernel
theorem dX12_blend_154 : decode cX12_blend 154 = .ok (.iinc 5 1, 3) := by decide +kernel
theorem dX12_blend_157 : decode cX12_blend 157 = .ok (.goto (-74), 3) := by decide +kernel
theorem dX12_blend_160 : decode cX12_blend 160 = .ok (.aload_n 0, 1) := by decide +kernel
theorem dX12_blend_161 : decode cX12_blend 161 = .ok (.sipush 135, 3) := by decide +kernel
theorem dX12_blend_164 : decode cX12_blend 164 = .ok (.invokevirtual 212, 3) := by decide +kernel
theorem dX12_blend_167 : decode cX12_blend 167 = .ok (.ireturn, 1) := by decide +kernel
set_option maxRecDepth 20000 in
theorem ggX12_part_X12_is : GoodIn wsX12_part wsX12_is := goodIn_r _ [14] (by decide +kernel) (by decide +kernel)
set_option maxRecDepth 20000 in
theorem gX12_part_X12_is : GoodIn wsX12_part (wsV RX12 186 RX12 yX12_is wsX12_is) := goodIn_app (goodIn_of _ (by decide +kernel)) ggX12_part_X12_is
set_option maxRecDepth 20000 in
theorem ggX12_part_X12_no : GoodIn wsX12_part wsX12_no := goodIn_r _ [18, 9, 19, 20, 21, 22, 23, 24, 25, 26, 27, 28, 29, 30, 31, 32, 33, 34, 35, 36, 37, 38, 39, 40, 41, 42, 43, 44, 45, 46, 47, 48, 49, 50, 51, 52, 53, 54, 55, 56, 57, 58, 59, 60, 61, 62, 63, 64, 65, 66, 67, 68, 69, 70, 71, 72, 73, 74, 75, 76, 77, 78, 79, 80, 81, 82, 83, 84, 85, 86, 87, 88, 89, 90, 91, 92, 93, 94] (by decide +kernel) (by decide +kernel)
set_option maxRecDepth 20000 in
theorem gX12_part_X12_no : GoodIn wsX12_part (wsV RX12 208 RX12 yX12_no wsX12_no) := goodIn_app (goodIn_of _ (by decide +kernel)) ggX12_part_X12_no
theorem dX12_part_0 : decode cX12_part 0 = .ok (.aload_n 0, 1) := by decide +kernel
theorem dX12_part_1 : decode cX12_part 1 = .ok (.iconst 0, 1) := by decide +kernel
theorem dX12_part_2 : decode cX12_part 2 = .ok (.putfield 149, 3) := by decide +kernel
theorem dX12_part_5 : decode cX12_part 5 = .ok (.aload_n 0, 1) := by decide +kernel
theorem dX12_part_6 : decode cX12_part 6 = .ok (.iload_n 2, 1) := by decide +kernel
theorem dX12_part_7 : decode cX12_part 7 = .ok (.iload_n 1, 1) := by decide +kernel
theorem dX12_part_8 : decode cX12_part 8 = .ok (.ifCond .eq 10, 3) := by decide +kernel
theorem dX12_part_11 : decode cX12_part 11 = .ok (.aload_n 0, 1) := by decide +kernel
theorem dX12_part_12 : decode cX12_part 12 = .ok (.getfield 172, 3) := by decide +kernel
theorem dX12_part_15 : decode cX12_part 15 = .ok (.goto 7, 3) := by decide +kernel
theorem dX12_part_18 : decode cX12_part 18 = .ok (.aload_n 0, 1) := by decide +kernel
theorem dX12_part_19 : decode cX12_part 19 = .ok (.getfield 166, 3) := by decide +kernel
theorem dX12_part_22 : decode cX12_part 22 = .ok (.invokevirtual 186, 3) := by decide +kernel
theorem dX12_part_25 : decode cX12_part 25 = .ok (.ifCond .ne 9, 3) := by decide +kernel
theorem dX12_part_28 : decode cX12_part 28 = .ok (.aload_n 0, 1) := by decide +kernel
theorem dX12_part_29 : decode cX12_part 29 = .ok (.iconst 2, 1) := by decide +kernel
theorem dX12_part_30 : decode cX12_part 30 = .ok (.invokevirtual 208, 3) := by decide +kernel
theorem dX12_part_33 : decode cX12_part 33 = .ok (.ireturn, 1) := by decide +kernel
theorem dX12_part_34 : decode cX12_part 34 = .ok (.iload_n 3, 1) := by decide +kernel
theorem dX12_part_35 : decode cX12_part 35 = .ok (.ifCond .lt 9, 3) := by decide +kernel
theorem dX12_part_38 : decode cX12_part 38 = .ok (.iload_n 3, 1) := by decide +kernel
theorem dX12_part_39 : decode cX12_part 39 = .ok (.ldc 230, 2) := by decide +kernel
theorem dX12_part_41 : decode cX12_part 41 = .ok (.if_icmp .le 9, 3) := by decide +kernel
theorem dX12_part_44 : decode cX12_part 44 = .ok (.aload_n 0, 1) := by decide +kernel
theorem dX12_part_45 : decode cX12_part 45 = .ok (.iconst 3, 1) := by decide +kernel
theorem dX12_part_46 : decode cX12_part 46 = .ok (.invokevirtual 208, 3) := by decide +kernel
theorem dX12_part_49 : decode cX12_part 49 = .ok (.ireturn, 1) := by decide +kernel
theorem dX12_part_50 : decode cX12_part 50 = .ok (.aload_n 0, 1) := by decide +kernel
theorem dX12_part_51 : decode cX12_part 51 = .ok (.getfield 231, 3) := by decide +kernel
theorem dX12_part_54 : decode cX12_part 54 = .ok (.bipush 6, 2) := by decide +kernel
theorem dX12_part_56 : decode cX12_part 56 = .ok (.if_icmp .ne 9, 3) := by decide +kernel
theorem dX12_part_59 : decode cX12_part 59 = .ok (.aload_n 0, 1) := by decide +kernel
theorem dX12_part_60 : decode cX12_part 60 = .ok (.iconst 1, 1) := by decide +kernel
theorem dX12_part_61 : decode cX12_part 61 = .ok (.invokevirtual 208, 3) := by decide +kernel
theorem dX12_part_64 : decode cX12_part 64 = .ok (.ireturn, 1) := by decide +kernel
theorem dX12_part_65 : decode cX12_part 65 = .ok (.aload_n 0, 1) := by decide +kernel
theorem dX12_part_66 : decode cX12_part 66 = .ok (.getfield 78, 3) := by decide +kernel
theorem dX12_part_69 : decode cX12_part 69 = .ok (.aload_n 0, 1) := by decide +kernel
theorem dX12_part_70 : decode cX12_part 70 = .ok (.getfield 231, 3) := by decide +kernel
theorem dX12_part_73 : decode cX12_part 73 = .ok (.iload_n 1, 1) := by decide +kernel
theorem dX12_part_74 : decode cX12_part 74 = .ok (.bastore, 1) := by decide +kernel
theorem dX12_part_75 : decode cX12_part 75 = .ok (.aload_n 0, 1) := by decide +kernel
theorem dX12_part_76 : decode cX12_part 76 = .ok (.getfield 72, 3) := by decide +kernel
theorem dX12_part_79 : decode cX12_part 79 = .ok (.aload_n 0, 1) := by decide +kernel
theorem dX12_part_80 : decode cX12_part 80 = .ok (.getfield 231, 3) := by decide +kernel
theorem dX12_part_83 : decode cX12_part 83 = .ok (.iload_n 2, 1) := by decide +kernel
theorem dX12_part_84 : decode cX12_part 84 = .ok (.iastore, 1) := by decide +kernel
theorem dX12_part_85 : decode cX12_part 85 = .ok (.aload_n 0, 1) := by decide +kernel
theorem dX12_part_86 : decode cX12_part 86 = .ok (.getfield 75, 3) := by decide +kernel
theorem dX12_part_89 : decode cX12_part 89 = .ok (.aload_n 0, 1) := by decide +kernel
theorem dX12_part_90 : decode cX12_part 90 = .ok (.getfield 231, 3) := by decide +kernel
theorem dX12_part_93 : decode cX12_part 93 = .ok (.iload_n 3, 1) := by decide +kernel
theorem dX12_part_94 : decode cX12_part 94 = .ok (.iastore, 1) := by decide +kernel
theorem dX12_part_95 : decode cX12_part 95 = .ok (.aload_n 0, 1) := by decide +kernel
theorem dX12_part_96 : decode cX12_part 96 = .ok (.dup, 1) := by decide +kernel
theorem dX12_part_97 : decode cX12_part 97 = .ok (.getfield 231, 3) := by decide +kernel
theorem dX12_part_100 : decode cX12_part 100 = .ok (.iconst 1, 1) := by decide +kernel
theorem dX12_part_101 : decode cX12_part 101 = .ok (.iadd, 1) := by decide +kernel
theorem dX12_part_102 : decode cX12_part 102 = .ok (.putfield 231, 3) := by decide +kernel
theorem dX12_part_105 : decode cX12_part 105 = .ok (.aload_n 0, 1) := by decide +kernel
theorem dX12_part_106 : decode cX12_part 106 = .ok (.iconst 0, 1) := by decide +kernel
theorem dX12_part_107 : decode cX12_part 107 = .ok (.putfield 153, 3) := by decide +kernel
theorem dX12_part_110 : decode cX12_part 110 = .ok (.aload_n 0, 1) := by decide +kernel
theorem dX12_part_111 : decode cX12_part 111 = .ok (.getfield 231, 3) := by decide +kernel
theorem dX12_part_114 : decode cX12_part 114 = .ok (.ireturn, 1) := by decide +kernel
theorem dX12_quotient_0 : decode cX12_quotient 0 = .ok (.fload_n 1, 1) := by decide +kernel
theorem dX12_quotient_1 : decode cX12_quotient 1 = .ok (.f2d, 1) := by decide +kernel
theorem dX12_quotient_2 : decode cX12_quotient 2 = .ok (.dstore_n 2, 1) := by decide +kernel
theorem dX12_quotient_3 : decode cX12_quotient 3 = .ok (.dload_n 2, 1) := by decide +kernel
theorem dX12_quotient_4 : decode cX12_quotient 4 = .ok (.ldc2_w 234, 3) := by decide +kernel
theorem dX12_quotient_7 : decode cX12_quotient 7 = .ok (.dcmp .g, 1) := by decide +kernel
theorem dX12_quotient_8 : decode cX12_quotient 8 = .ok (.ifCond .ge 7, 3) := by decide +kernel
theorem dX12_quotient_11 : decode cX12_quotient 11 = .ok (.ldc2_w 234, 3) := by decide +kernel
theorem dX12_quotient_14 : decode cX12_quotient 14 = .ok (.dstore_n 2, 1) := by decide +kernel
theorem dX12_quotient_15 : decode cX12_quotient 15 = .ok (.dconst 1, 1) := by decide +kernel
theorem dX12_quotient_16 : decode cX12_quotient 16 = .ok (.dload_n 2, 1) := by decide +kernel
theorem dX12_quotient_17 : decode cX12_quotient 17 = .ok (.dsub, 1) := by decide +kernel
theorem dX12_quotient_18 : decode cX12_quotient 18 = .ok (.dconst 1, 1) := by decide +kernel
theorem dX12_quotient_19 : decode cX12_quotient 19 = .ok (.dload_n 2, 1) := by decide +kernel
theorem dX12_quotient_20 : decode cX12_quotient 20 = .ok (.dsub, 1) := by decide +kernel
theorem dX12_quotient_21 : decode cX12_quotient 21 = .ok (.dmul, 1) := by decide +kernel
theorem dX12_quotient_22 : decode cX12_quotient 22 = .ok (.ldc2_w 236, 3) := by decide +kernel
theorem dX12_quotient_25 : decode cX12_quotient 25 = .ok (.dload_n 2, 1) := by decide +kernel
theorem dX12_quotient_26 : decode cX12_quotient 26 = .ok (.dmul, 1) := by decide +kernel
theorem dX12_quotient_27 : decode cX12_quotient 27 = .ok (.ddiv, 1) := by decide +kernel
theorem dX12_quotient_28 : decode cX12_quotient 28 = .ok (.dreturn, 1) := by decide +kernel
set_option maxRecDepth 20000 in
theorem ggX12_own_X12_quotient : GoodIn wsX12_own wsX12_quotient := goodIn_r _ [7, 8, 9] (by decide +kernel) (by decide +kernel)
set_option maxRecDepth 20000 in
theorem gX12_own_X12_quotient : GoodIn wsX12_own (wsV RX12 238 RX12 yX12_quotient wsX12_quotient) := goodIn_app (goodIn_of _ (by decide +kernel)) ggX12_own_X12_quotient
theorem dX12_own_0 : decode cX12_own 0 = .ok (.aload_n 0, 1) := by decide +kernel
theorem dX12_own_1 : decode cX12_own 1 = .ok (.aload_n 0, 1) := by decide +kernel
theorem dX12_own_2 : decode cX12_own 2 = .ok (.getfield 7, 3) := by decide +kernel
theorem dX12_own_5 : decode cX12_own 5 = .ok (.bipush 16, 2) := by decide +kernel
theorem dX12_own_7 : decode cX12_own 7 = .ok (.bipush 62, 2) := by decide +kernel
theorem dX12_own_9 : decode cX12_own 9 = .ok (.bipush 6, 2) := by decide +kernel
theorem dX12_own_11 : decode cX12_own 11 = .ok (.iload_n 1, 1) := by decide +kernel
theorem dX12_own_12 : decode cX12_own 12 = .ok (.imul, 1) := by decide +kernel
theorem dX12_own_13 : decode cX12_own 13 = .ok (.iadd, 1) := by decide +kernel
theorem dX12_own_14 : decode cX12_own 14 = .ok (.iload_n 2, 1) := by decide +kernel
theorem dX12_own_15 : decode cX12_own 15 = .ok (.iadd, 1) := by decide +kernel
theorem dX12_own_16 : decode cX12_own 16 = .ok (.imul, 1) := by decide +kernel
theorem dX12_own_17 : decode cX12_own 17 = .ok (.iload_n 3, 1) := by decide +kernel
theorem dX12_own_18 : decode cX12_own 18 = .ok (.iadd, 1) := by decide +kernel
theorem dX12_own_19 : decode cX12_own 19 = .ok (.faload, 1) := by decide +kernel
theorem dX12_own_20 : decode cX12_own 20 = .ok (.invokevirtual 238, 3) := by decide +kernel
theorem dX12_own_23 : decode cX12_own 23 = .ok (.aload_n 0, 1) := by decide +kernel
theorem dX12_own_24 : decode cX12_own 24 = .ok (.aload_n 0, 1) := by decide +kernel
theorem dX12_own_25 : decode cX12_own 25 = .ok (.getfield 7, 3) := by decide +kernel
theorem dX12_own_28 : decode cX12_own 28 = .ok (.bipush 16, 2) := by decide +kernel
theorem dX12_own_30 : decode cX12_own 30 = .ok (.bipush 41, 2) := by decide +kernel
theorem dX12_own_32 : decode cX12_own 32 = .ok (.aload_n 0, 1) := by decide +kernel
theorem dX12_own_33 : decode cX12_own 33 = .ok (.getfield 16, 3) := by decide +kernel
theorem dX12_own_36 : decode cX12_own 36 = .ok (.iload_n 1, 1) := by decide +kernel
theorem dX12_own_37 : decode cX12_own 37 = .ok (.iaload, 1) := by decide +kernel
theorem dX12_own_38 : decode cX12_own 38 = .ok (.iadd, 1) := by decide +kernel
theorem dX12_own_39 : decode cX12_own 39 = .ok (.imul, 1) := by decide +kernel
theorem dX12_own_40 : decode cX12_own 40 = .ok (.iload_n 3, 1) := by decide +kernel
theorem dX12_own_41 : decode cX12_own 41 = .ok (.iadd, 1) := by decide +kernel
theorem dX12_own_42 : decode cX12_own 42 = .ok (.faload, 1) := by decide +kernel
theorem dX12_own_43 : decode cX12_own 43 = .ok (.invokevirtual 238, 3) := by decide +kernel
theorem dX12_own_46 : decode cX12_own 46 = .ok (.dsub, 1) := by decide +kernel
theorem dX12_own_47 : decode cX12_own 47 = .ok (.dstore 4, 2) := by decide +kernel
theorem dX12_own_49 : decode cX12_own 49 = .ok (.dload 4, 2) := by decide +kernel
theorem dX12_own_51 : decode cX12_own 51 = .ok (.dconst 0, 1) := by decide +kernel
theorem dX12_own_52 : decode cX12_own 52 = .ok (.dcmp .g, 1) := by decide +kernel
theorem dX12_own_53 : decode cX12_own 53 = .ok (.ifCond .ge 7, 3) := by decide +kernel
theorem dX12_own_56 : decode cX12_own 56 = .ok (.dconst 0, 1) := by decide +kernel
theorem dX12_own_57 : decode cX12_own 57 = .ok (.goto 5, 3) := by decide +kernel
theorem dX12_own_60 : decode cX12_own 60 = .ok (.dload 4, 2) := by decide +kernel
theorem dX12_own_62 : decode cX12_own 62 = .ok (.dreturn, 1) := by decide +kernel
set_option maxRecDepth 20000 in
theorem ggX12_dyeAt_X12_own : GoodIn wsX12_dyeAt wsX12_own := goodIn_r _ [7, 8, 9, 10, 11, 12, 6, 13, 14, 15, 16, 17, 18, 19, 20, 21, 22, 23, 24, 25, 26, 27, 28, 29, 30, 31, 32, 33, 34, 35, 36, 37, 38, 39, 40, 41, 42, 43, 44, 45, 46, 47, 48, 49, 50, 51, 52, 53, 54, 55, 56, 57, 58, 59, 60, 61, 62, 63, 64, 65, 66, 67, 68, 69, 70, 71, 72, 73, 74, 75, 76, 77, 78, 79, 80, 81, 82, 83, 84, 85, 86, 87, 88, 89, 90, 91] (by decide +kernel) (by decide +kernel)
set_option maxRecDepth 20000 in
theorem gX12_dyeAt_X12_own : GoodIn wsX12_dyeAt (wsV RX12 242 RX12 yX12_own wsX12_own) := goodIn_app (goodIn_of _ (by decide +kernel)) ggX12_dyeAt_X12_own
theorem dX12_dyeAt_0 : decode cX12_dyeAt 0 = .ok (.aload_n 0, 1) := by decide +kernel
theorem dX12_dyeAt_1 : decode cX12_dyeAt 1 = .ok (.getfield 20, 3) := by decide +kernel
theorem dX12_dyeAt_4 : decode cX12_dyeAt 4 = .ok (.iload_n 1, 1) := by decide +kernel
theorem dX12_dyeAt_5 : decode cX12_dyeAt 5 = .ok (.iaload, 1) := by decide +kernel
theorem dX12_dyeAt_6 : decode cX12_dyeAt 6 = .ok (.istore 5, 2) := by decide +kernel
theorem dX12_dyeAt_8 : decode cX12_dyeAt 8 = .ok (.iload 5, 2) := by decide +kernel
theorem dX12_dyeAt_10 : decode cX12_dyeAt 10 = .ok (.ifCond .eq 9, 3) := by decide +kernel
theorem dX12_dyeAt_13 : decode cX12_dyeAt 13 = .ok (.dload_n 2, 1) := by decide +kernel
theorem dX12_dyeAt_14 : decode cX12_dyeAt 14 = .ok (.dconst 0, 1) := by decide +kernel
theorem dX12_dyeAt_15 : decode cX12_dyeAt 15 = .ok (.dcmp .l, 1) := by decide +kernel
theorem dX12_dyeAt_16 : decode cX12_dyeAt 16 = .ok (.ifCond .ne 5, 3) := by decide +kernel
theorem dX12_dyeAt_19 : decode cX12_dyeAt 19 = .ok (.dconst 0, 1) := by decide +kernel
theorem dX12_dyeAt_20 : decode cX12_dyeAt 20 = .ok (.dreturn, 1) := by decide +kernel
theorem dX12_dyeAt_21 : decode cX12_dyeAt 21 = .ok (.aload_n 0, 1) := by decide +kernel
theorem dX12_dyeAt_22 : decode cX12_dyeAt 22 = .ok (.getfield 23, 3) := by decide +kernel
theorem dX12_dyeAt_25 : decode cX12_dyeAt 25 = .ok (.bipush 6, 2) := by decide +kernel
theorem dX12_dyeAt_27 : decode cX12_dyeAt 27 = .ok (.iload_n 1, 1) := by decide +kernel
theorem dX12_dyeAt_28 : decode cX12_dyeAt 28 = .ok (.imul, 1) := by decide +kernel
theorem dX12_dyeAt_29 : decode cX12_dyeAt 29 = .ok (.iaload, 1) := by decide +kernel
theorem dX12_dyeAt_30 : decode cX12_dyeAt 30 = .ok (.i2d, 1) := by decide +kernel
theorem dX12_dyeAt_31 : decode cX12_dyeAt 31 = .ok (.dstore 6, 2) := by decide +kernel
theorem dX12_dyeAt_33 : decode cX12_dyeAt 33 = .ok (.dload_n 2, 1) := by decide +kernel
theorem dX12_dyeAt_34 : decode cX12_dyeAt 34 = .ok (.dload 6, 2) := by decide +kernel
theorem dX12_dyeAt_36 : decode cX12_dyeAt 36 = .ok (.dcmp .g, 1) := by decide +kernel
theorem dX12_dyeAt_37 : decode cX12_dyeAt 37 = .ok (.ifCond .gt 17, 3) := by decide +kernel
theorem dX12_dyeAt_40 : decode cX12_dyeAt 40 = .ok (.aload_n 0, 1) := by decide +kernel
theorem dX12_dyeAt_41 : decode cX12_dyeAt 41 = .ok (.iload_n 1, 1) := by decide +kernel
theorem dX12_dyeAt_42 : decode cX12_dyeAt 42 = .ok (.iconst 0, 1) := by decide +kernel
theorem dX12_dyeAt_43 : decode cX12_dyeAt 43 = .ok (.iload 4, 2) := by decide +kernel
theorem dX12_dyeAt_45 : decode cX12_dyeAt 45 = .ok (.invokevirtual 242, 3) := by decide +kernel
theorem dX12_dyeAt_48 : decode cX12_dyeAt 48 = .ok (.dload_n 2, 1) := by decide +kernel
theorem dX12_dyeAt_49 : decode cX12_dyeAt 49 = .ok (.dload 6, 2) := by decide +kernel
theorem dX12_dyeAt_51 : decode cX12_dyeAt 51 = .ok (.ddiv, 1) := by decide +kernel
theorem dX12_dyeAt_52 : decode cX12_dyeAt 52 = .ok (.dmul, 1) := by decide +kernel
theorem dX12_dyeAt_53 : decode cX12_dyeAt 53 = .ok (.dreturn, 1) := by decide +kernel
theorem dX12_dyeAt_54 : decode cX12_dyeAt 54 = .ok (.iconst 1, 1) := by decide +kernel
theorem dX12_dyeAt_55 : decode cX12_dyeAt 55 = .ok (.istore 8, 2) := by decide +kernel
theorem dX12_dyeAt_57 : decode cX12_dyeAt 57 = .ok (.iload 8, 2) := by decide +kernel
theorem dX12_dyeAt_59 : decode cX12_dyeAt 59 = .ok (.iload 5, 2) := by decide +kernel
theorem dX12_dyeAt_61 : decode cX12_dyeAt 61 = .ok (.if_icmp .ge 91, 3) := by decide +kernel
theorem dX12_dyeAt_64 : decode cX12_dyeAt 64 = .ok (.aload_n 0, 1) := by decide +kernel
theorem dX12_dyeAt_65 : decode cX12_dyeAt 65 = .ok (.getfield 23, 3) := by decide +kernel
theorem dX12_dyeAt_68 : decode cX12_dyeAt 68 = .ok (.bipush 6, 2) := by decide +kernel
theorem dX12_dyeAt_70 : decode cX12_dyeAt 70 = .ok (.iload_n 1, 1) := by decide +kernel
theorem dX12_dyeAt_71 : decode cX12_dyeAt 71 = .ok (.imul, 1) := by decide +kernel
theorem dX12_dyeAt_72 : decode cX12_dyeAt 72 = .ok (.iload 8, 2) := by decide +kernel
theorem dX12_dyeAt_74 : decode cX12_dyeAt 74 = .ok (.iadd, 1) := by decide +kernel
theorem dX12_dyeAt_75 : decode cX12_dyeAt 75 = .ok (.iconst 1, 1) := by decide +kernel
theorem dX12_dyeAt_76 : decode cX12_dyeAt 76 = .ok (.isub, 1) := by decide +kernel
theorem dX12_dyeAt_77 : decode cX12_dyeAt 77 = .ok (.iaload, 1) := by decide +kernel
theorem dX12_dyeAt_78 : decode cX12_dyeAt 78 = .ok (.i2d, 1) := by decide +kernel
theorem dX12_dyeAt_79 : decode cX12_dyeAt 79 = .ok (.dstore 9, 2) := by decide +kernel
theorem dX12_dyeAt_81 : decode cX12_dyeAt 81 = .ok (.aload_n 0, 1) := by decide +kernel
theorem dX12_dyeAt_82 : decode cX12_dyeAt 82 = .ok (.getfield 23, 3) := by decide +kernel
theorem dX12_dyeAt_85 : decode cX12_dyeAt 85 = .ok (.bipush 6, 2) := by decide +kernel
theorem dX12_dyeAt_87 : decode cX12_dyeAt 87 = .ok (.iload_n 1, 1) := by decide +kernel
theorem dX12_dyeAt_88 : decode cX12_dyeAt 88 = .ok (.imul, 1) := by decide +kernel
theorem dX12_dyeAt_89 : decode cX12_dyeAt 89 = .ok (.iload 8, 2) := by decide +kernel
theorem dX12_dyeAt_91 : decode cX12_dyeAt 91 = .ok (.iadd, 1) := by decide +kernel
theorem dX12_dyeAt_92 : decode cX12_dyeAt 92 = .ok (.iaload, 1) := by decide +kernel
theorem dX12_dyeAt_93 : decode cX12_dyeAt 93 = .ok (.i2d, 1) := by decide +kernel
theorem dX12_dyeAt_94 : decode cX12_dyeAt 94 = .ok (.dstore 11, 2) := by decide +kernel
theorem dX12_dyeAt_96 : decode cX12_dyeAt 96 = .ok (.dload_n 2, 1) := by decide +kernel
theorem dX12_dyeAt_97 : decode cX12_dyeAt 97 = .ok (.dload 11, 2) := by decide +kernel
theorem dX12_dyeAt_99 : decode cX12_dyeAt 99 = .ok (.dcmp .l, 1) := by decide +kernel
theorem dX12_dyeAt_100 : decode cX12_dyeAt 100 = .ok (.ifCond .le 6, 3) := by decide +kernel
theorem dX12_dyeAt_103 : decode cX12_dyeAt 103 = .ok (.goto 43, 3) := by decide +kernel
theorem dX12_dyeAt_106 : decode cX12_dyeAt 106 = .ok (.aload_n 0, 1) := by decide +kernel
theorem dX12_dyeAt_107 : decode cX12_dyeAt 107 = .ok (.iload_n 1, 1) := by decide +kernel
theorem dX12_dyeAt_108 : decode cX12_dyeAt 108 = .ok (.iload 8, 2) := by decide +kernel
theorem dX12_dyeAt_110 : decode cX12_dyeAt 110 = .ok (.iconst 1, 1) := by decide +kernel
theorem dX12_dyeAt_111 : decode cX12_dyeAt 111 = .ok (.isub, 1) := by decide +kernel
theorem dX12_dyeAt_112 : decode cX12_dyeAt 112 = .ok (.iload 4, 2) := by decide +kernel
theorem dX12_dyeAt_114 : decode cX12_dyeAt 114 = .ok (.invokevirtual 242, 3) := by decide +kernel
theorem dX12_dyeAt_117 : decode cX12_dyeAt 117 = .ok (.dstore 13, 2) := by decide +kernel
theorem dX12_dyeAt_119 : decode cX12_dyeAt 119 = .ok (.dload 13, 2) := by decide +kernel
theorem dX12_dyeAt_121 : decode cX12_dyeAt 121 = .ok (.aload_n 0, 1) := by decide +kernel
theorem dX12_dyeAt_122 : decode cX12_dyeAt 122 = .ok (.iload_n 1, 1) := by decide +kernel
theorem dX12_dyeAt_123 : decode cX12_dyeAt 123 = .ok (.iload 8, 2) := by decide +kernel
theorem dX12_dyeAt_125 : decode cX12_dyeAt 125 = .ok (.iload 4, 2) := by decide +kernel
theorem dX12_dyeAt_127 : decode cX12_dyeAt 127 = .ok (.invokevirtual 242, 3) := by decide +kernel
theorem dX12_dyeAt_130 : decode cX12_dyeAt 130 = .ok (.dload 13, 2) := by decide +kernel
theorem dX12_dyeAt_132 : decode cX12_dyeAt 132 = .ok (.dsub, 1) := by decide +kernel
theorem dX12_dyeAt_133 : decode cX12_dyeAt 133 = .ok (.dload_n 2, 1) := by decide +kernel
theorem dX12_dyeAt_134 : decode cX12_dyeAt 134 = .ok (.dload 9, 2) := by decide +kernel
theorem dX12_dyeAt_136 : decode cX12_dyeAt 136 = .ok (.dsub, 1) := by decide +kernel
theorem dX12_dyeAt_137 : decode cX12_dyeAt 137 = .ok (.dload 11, 2) := by decide +kernel
theorem dX12_dyeAt_139 : decode cX12_dyeAt 139 = .ok (.dload 9, 2) := by decide +kernel
theorem dX12_dyeAt_141 : decode cX12_dyeAt 141 = .ok (.dsub, 1) := by decide +kernel
theorem dX12_dyeAt_142 : decode cX12_dyeAt 142 = .ok (.ddiv, 1) := by decide +kernel
theorem dX12_dyeAt_143 : decode cX12_dyeAt 143 = .ok (.dmul, 1) := by decide +kernel
theorem dX12_dyeAt_144 : decode cX12_dyeAt 144 = .ok (.dadd, 1) := by decide +kernel
theorem dX12_dyeAt_145 : decode cX12_dyeAt 145 = .ok (.dreturn, 1) := by decide +kernel
theorem dX12_dyeAt_146 : decode cX12_dyeAt 146 = .ok (.iinc 8 1, 3) := by decide +kernel
theorem dX12_dyeAt_149 : decode cX12_dyeAt 149 = .ok (.goto (-92), 3) := by decide +kernel
theorem dX12_dyeAt_152 : decode cX12_dyeAt 152 = .ok (.aload_n 0, 1) := by decide +kernel
theorem dX12_dyeAt_153 : decode cX12_dyeAt 153 = .ok (.iload_n 1, 1) := by decide +kernel
theorem dX12_dyeAt_154 : decode cX12_dyeAt 154 = .ok (.iload 5, 2) := by decide +kernel
theorem dX12_dyeAt_156 : decode cX12_dyeAt 156 = .ok (.iconst 1, 1) := by decide +kernel
theorem dX12_dyeAt_157 : decode cX12_dyeAt 157 = .ok (.isub, 1) := by decide +kernel
theorem dX12_dyeAt_158 : decode cX12_dyeAt 158 = .ok (.iload 4, 2) := by decide +kernel
theorem dX12_dyeAt_160 : decode cX12_dyeAt 160 = .ok (.invokevirtual 242, 3) := by decide +kernel
theorem dX12_dyeAt_163 : decode cX12_dyeAt 163 = .ok (.dload_n 2, 1) := by decide +kernel
theorem dX12_dyeAt_164 : decode cX12_dyeAt 164 = .ok (.aload_n 0, 1) := by decide +kernel
theorem dX12_dyeAt_165 : decode cX12_dyeAt 165 = .ok (.getfield 23, 3) := by decide +kernel
theorem dX12_dyeAt_168 : decode cX12_dyeAt 168 = .ok (.bipush 6, 2) := by decide +kernel
theorem dX12_dyeAt_170 : decode cX12_dyeAt 170 = .ok (.iload_n 1, 1) := by decide +kernel
theorem dX12_dyeAt_171 : decode cX12_dyeAt 171 = .ok (.imul, 1) := by decide +kernel
theorem dX12_dyeAt_172 : decode cX12_dyeAt 172 = .ok (.iload 5, 2) := by decide +kernel
theorem dX12_dyeAt_174 : decode cX12_dyeAt 174 = .ok (.iadd, 1) := by decide +kernel
theorem dX12_dyeAt_175 : decode cX12_dyeAt 175 = .ok (.iconst 1, 1) := by decide +kernel
theorem dX12_dyeAt_176 : decode cX12_dyeAt 176 = .ok (.isub, 1) := by decide +kernel
theorem dX12_dyeAt_177 : decode cX12_dyeAt 177 = .ok (.iaload, 1) := by decide +kernel
theorem dX12_dyeAt_178 : decode cX12_dyeAt 178 = .ok (.i2d, 1) := by decide +kernel
theorem dX12_dyeAt_179 : decode cX12_dyeAt 179 = .ok (.ddiv, 1) := by decide +kernel
theorem dX12_dyeAt_180 : decode cX12_dyeAt 180 = .ok (.dmul, 1) := by decide +kernel
theorem dX12_dyeAt_181 : decode cX12_dyeAt 181 = .ok (.dreturn, 1) := by decide +kernel
set_option maxRecDepth 20000 in
theorem ggX12_lotAt_X12_dyeAt : GoodIn wsX12_lotAt wsX12_dyeAt := goodIn_r _ [8, 9, 10, 11, 12, 13, 7, 14, 15, 16, 17, 18, 19, 20, 21, 22, 23, 24, 25, 26, 27, 28, 29, 30, 31, 32, 33, 34, 35, 36, 37, 38, 39, 40, 41, 42, 43, 44, 45, 46, 47, 48, 49, 50, 51, 52, 53, 54, 55, 56, 57, 58, 59, 60, 61, 62, 63, 64, 65, 66, 67, 68, 69, 70, 71, 72, 73, 74, 75, 76, 77, 78, 79, 80, 81, 82, 83, 84, 85, 86, 87, 88, 89, 90, 91, 92, 93, 94, 95, 96, 97, 98] (by decide +kernel) (by decide +kernel)
set_option maxRecDepth 20000 in
theorem gX12_lotAt_X12_dyeAt : GoodIn wsX12_lotAt (wsV RX12 246 RX12 yX12_dyeAt wsX12_dyeAt) := goodIn_app (goodIn_of _ (by decide +kernel)) ggX12_lotAt_X12_dyeAt
theorem dX12_lotAt_0 : decode cX12_lotAt 0 = .ok (.aload_n 0, 1) := by decide +kernel
theorem dX12_lotAt_1 : decode cX12_lotAt 1 = .ok (.aload_n 0, 1) := by decide +kernel
theorem dX12_lotAt_2 : decode cX12_lotAt 2 = .ok (.getfield 29, 3) := by decide +kernel
theorem dX12_lotAt_5 : decode cX12_lotAt 5 = .ok (.iload_n 1, 1) := by decide +kernel
theorem dX12_lotAt_6 : decode cX12_lotAt 6 = .ok (.iaload, 1) := by decide +kernel
theorem dX12_lotAt_7 : decode cX12_lotAt 7 = .ok (.dload_n 2, 1) := by decide +kernel
theorem dX12_lotAt_8 : decode cX12_lotAt 8 = .ok (.aload_n 0, 1) := by decide +kernel
theorem dX12_lotAt_9 : decode cX12_lotAt 9 = .ok (.getfield 32, 3) := by decide +kernel
theorem dX12_lotAt_12 : decode cX12_lotAt 12 = .ok (.iload_n 1, 1) := by decide +kernel
theorem dX12_lotAt_13 : decode cX12_lotAt 13 = .ok (.iaload, 1) := by decide +kernel
theorem dX12_lotAt_14 : decode cX12_lotAt 14 = .ok (.i2d, 1) := by decide +kernel
theorem dX12_lotAt_15 : decode cX12_lotAt 15 = .ok (.dmul, 1) := by decide +kernel
theorem dX12_lotAt_16 : decode cX12_lotAt 16 = .ok (.aload_n 0, 1) := by decide +kernel
theorem dX12_lotAt_17 : decode cX12_lotAt 17 = .ok (.getfield 35, 3) := by decide +kernel
theorem dX12_lotAt_20 : decode cX12_lotAt 20 = .ok (.iload_n 1, 1) := by decide +kernel
theorem dX12_lotAt_21 : decode cX12_lotAt 21 = .ok (.iaload, 1) := by decide +kernel
theorem dX12_lotAt_22 : decode cX12_lotAt 22 = .ok (.i2d, 1) := by decide +kernel
theorem dX12_lotAt_23 : decode cX12_lotAt 23 = .ok (.ddiv, 1) := by decide +kernel
theorem dX12_lotAt_24 : decode cX12_lotAt 24 = .ok (.iload 4, 2) := by decide +kernel
theorem dX12_lotAt_26 : decode cX12_lotAt 26 = .ok (.invokevirtual 246, 3) := by decide +kernel
theorem dX12_lotAt_29 : decode cX12_lotAt 29 = .ok (.dreturn, 1) := by decide +kernel
set_option maxRecDepth 20000 in
theorem ggX12_rootOf_Jxe99ae_doubleToLongBits_ccdee : GoodIn wsX12_rootOf wsJxe99ae_doubleToLongBits_ccdee := goodIn_r _ [12, 13, 14, 15, 8, 16, 17, 18, 11, 19] (by decide +kernel) (by decide +kernel)
set_option maxRecDepth 20000 in
theorem gX12_rootOf_Jxe99ae_doubleToLongBits_ccdee : GoodIn wsX12_rootOf (va_wsS RX12 250 yJxe99ae_doubleToLongBits_ccdee wsJxe99ae_doubleToLongBits_ccdee) := goodIn_app (goodIn_of _ (by decide +kernel)) ggX12_rootOf_Jxe99ae_doubleToLongBits_ccdee
theorem dX12_rootOf_0 : decode cX12_rootOf 0 = .ok (.dload_n 1, 1) := by decide +kernel
theorem dX12_rootOf_1 : decode cX12_rootOf 1 = .ok (.dconst 0, 1) := by decide +kernel
theorem dX12_rootOf_2 : decode cX12_rootOf 2 = .ok (.dcmp .l, 1) := by decide +kernel
theorem dX12_rootOf_3 : decode cX12_rootOf 3 = .ok (.ifCond .ne 5, 3) := by decide +kernel
theorem dX12_rootOf_6 : decode cX12_rootOf 6 = .ok (.dconst 0, 1) := by decide +kernel
theorem dX12_rootOf_7 : decode cX12_rootOf 7 = .ok (.dreturn, 1) := by decide +kernel
theorem dX12_rootOf_8 : decode cX12_rootOf 8 = .ok (.dload_n 1, 1) := by decide +kernel
theorem dX12_rootOf_9 : decode cX12_rootOf 9 = .ok (.invokestatic 250, 3) := by decide +kernel
theorem dX12_rootOf_12 : decode cX12_rootOf 12 = .ok (.lstore_n 3, 1) := by decide +kernel
theorem dX12_rootOf_13 : decode cX12_rootOf 13 = .ok (.lload_n 3, 1) := by decide +kernel
theorem dX12_rootOf_14 : decode cX12_rootOf 14 = .ok (.bipush 52, 2) := by decide +kernel
theorem dX12_rootOf_16 : decode cX12_rootOf 16 = .ok (.lshr, 1) := by decide +kernel
theorem dX12_rootOf_17 : decode cX12_rootOf 17 = .ok (.l2i, 1) := by decide +kernel
theorem dX12_rootOf_18 : decode cX12_rootOf 18 = .ok (.sipush 1075, 3) := by decide +kernel
theorem dX12_rootOf_21 : decode cX12_rootOf 21 = .ok (.isub, 1) := by decide +kernel
theorem dX12_rootOf_22 : decode cX12_rootOf 22 = .ok (.istore 5, 2) := by decide +kernel
theorem dX12_rootOf_24 : decode cX12_rootOf 24 = .ok (.lload_n 3, 1) := by decide +kernel
theorem dX12_rootOf_25 : decode cX12_rootOf 25 = .ok (.ldc2_w 256, 3) := by decide +kernel
theorem dX12_rootOf_28 : decode cX12_rootOf 28 = .ok (.land, 1) := by decide +kernel
theorem dX12_rootOf_29 : decode cX12_rootOf 29 = .ok (.ldc2_w 258, 3) := by decide +kernel
theorem dX12_rootOf_32 : decode cX12_rootOf 32 = .ok (.lor, 1) := by decide +kernel
theorem dX12_rootOf_33 : decode cX12_rootOf 33 = .ok (.lstore 6, 2) := by decide +kernel
theorem dX12_rootOf_35 : decode cX12_rootOf 35 = .ok (.iload 5, 2) := by decide +kernel
theorem dX12_rootOf_37 : decode cX12_rootOf 37 = .ok (.iconst 1, 1) := by decide +kernel
theorem dX12_rootOf_38 : decode cX12_rootOf 38 = .ok (.iand, 1) := by decide +kernel
theorem dX12_rootOf_39 : decode cX12_rootOf 39 = .ok (.ifCond .eq 12, 3) := by decide +kernel
theorem dX12_rootOf_42 : decode cX12_rootOf 42 = .ok (.lload 6, 2) := by decide +kernel
theorem dX12_rootOf_44 : decode cX12_rootOf 44 = .ok (.iconst 1, 1) := by decide +kernel
theorem dX12_rootOf_45 : decode cX12_rootOf 45 = .ok (.lshl, 1) := by decide +kernel
theorem dX12_rootOf_46 : decode cX12_rootOf 46 = .ok (.lstore 6, 2) := by decide +kernel
theorem dX12_rootOf_48 : decode cX12_rootOf 48 = .ok (.iinc 5 (-1), 3) := by decide +kernel
theorem dX12_rootOf_51 : decode cX12_rootOf 51 = .ok (.lconst 0, 1) := by decide +kernel
theorem dX12_rootOf_52 : decode cX12_rootOf 52 = .ok (.lstore 8, 2) := by decide +kernel
theorem dX12_rootOf_54 : decode cX12_rootOf 54 = .ok (.lconst 0, 1) := by decide +kernel
theorem dX12_rootOf_55 : decode cX12_rootOf 55 = .ok (.lstore 10, 2) := by decide +kernel
theorem dX12_rootOf_57 : decode cX12_rootOf 57 = .ok (.bipush 53, 2) := by decide +kernel
theorem dX12_rootOf_59 : decode cX12_rootOf 59 = .ok (.istore 12, 2) := by decide +kernel
theorem dX12_rootOf_61 : decode cX12_rootOf 61 = .ok (.iload 12, 2) := by decide +kernel
theorem dX12_rootOf_63 : decode cX12_rootOf 63 = .ok (.ifCond .lt 79, 3) := by decide +kernel
theorem dX12_rootOf_66 : decode cX12_rootOf 66 = .ok (.lload 10, 2) := by decide +kernel
theorem dX12_rootOf_68 : decode cX12_rootOf 68 = .ok (.iconst 2, 1) := by decide +kernel
theorem dX12_rootOf_69 : decode cX12_rootOf 69 = .ok (.lshl, 1) := by decide +kernel
theorem dX12_rootOf_70 : decode cX12_rootOf 70 = .ok (.iload 12, 2) := by decide +kernel
theorem dX12_rootOf_72 : decode cX12_rootOf 72 = .ok (.bipush 27, 2) := by decide +kernel
theorem dX12_rootOf_74 : decode cX12_rootOf 74 = .ok (.if_icmp .lt 20, 3) := by decide +kernel
theorem dX12_rootOf_77 : decode cX12_rootOf 77 = .ok (.lload 6, 2) := by decide +kernel
theorem dX12_rootOf_79 : decode cX12_rootOf 79 = .ok (.iconst 2, 1) := by decide +kernel
theorem dX12_rootOf_80 : decode cX12_rootOf 80 = .ok (.iload 12, 2) := by decide +kernel
theorem dX12_rootOf_82 : decode cX12_rootOf 82 = .ok (.bipush 27, 2) := by decide +kernel
theorem dX12_rootOf_84 : decode cX12_rootOf 84 = .ok (.isub, 1) := by decide +kernel
theorem dX12_rootOf_85 : decode cX12_rootOf 85 = .ok (.imul, 1) := by decide +kernel
theorem dX12_rootOf_86 : decode cX12_rootOf 86 = .ok (.lshr, 1) := by decide +kernel
theorem dX12_rootOf_87 : decode cX12_rootOf 87 = .ok (.ldc2_w 260, 3) := by decide +kernel
theorem dX12_rootOf_90 : decode cX12_rootOf 90 = .ok (.land, 1) := by decide +kernel
theorem dX12_rootOf_91 : decode cX12_rootOf 91 = .ok (.goto 4, 3) := by decide +kernel
theorem dX12_rootOf_94 : decode cX12_rootOf 94 = .ok (.lconst 0, 1) := by decide +kernel
theorem dX12_rootOf_95 : decode cX12_rootOf 95 = .ok (.lor, 1) := by decide +kernel
theorem dX12_rootOf_96 : decode cX12_rootOf 96 = .ok (.lstore 10, 2) := by decide +kernel
theorem dX12_rootOf_98 : decode cX12_rootOf 98 = .ok (.lload 8, 2) := by decide +kernel
theorem dX12_rootOf_100 : decode cX12_rootOf 100 = .ok (.iconst 2, 1) := by decide +kernel
theorem dX12_rootOf_101 : decode cX12_rootOf 101 = .ok (.lshl, 1) := by decide +kernel
theorem dX12_rootOf_102 : decode cX12_rootOf 102 = .ok (.lconst 1, 1) := by decide +kernel
theorem dX12_rootOf_103 : decode cX12_rootOf 103 = .ok (.lor, 1) := by decide +kernel
theorem dX12_rootOf_104 : decode cX12_rootOf 104 = .ok (.lstore 13, 2) := by decide +kernel
theorem dX12_rootOf_106 : decode cX12_rootOf 106 = .ok (.lload 8, 2) := by decide +kernel
theorem dX12_rootOf_108 : decode cX12_rootOf 108 = .ok (.iconst 1, 1) := by decide +kernel
theorem dX12_rootOf_109 : decode cX12_rootOf 109 = .ok (.lshl, 1) := by decide +kernel
theorem dX12_rootOf_110 : decode cX12_rootOf 110 = .ok (.lstore 8, 2) := by decide +kernel
theorem dX12_rootOf_112 : decode cX12_rootOf 112 = .ok (.lload 10, 2) := by decide +kernel
theorem dX12_rootOf_114 : decode cX12_rootOf 114 = .ok (.lload 13, 2) := by decide +kernel
theorem dX12_rootOf_116 : decode cX12_rootOf 116 = .ok (.lcmp, 1) := by decide +kernel
theorem dX12_rootOf_117 : decode cX12_rootOf 117 = .ok (.ifCond .ge 6, 3) := by decide +kernel
theorem dX12_rootOf_120 : decode cX12_rootOf 120 = .ok (.goto 16, 3) := by decide +kernel
theorem dX12_rootOf_123 : decode cX12_rootOf 123 = .ok (.lload 10, 2) := by decide +kernel
theorem dX12_rootOf_125 : decode cX12_rootOf 125 = .ok (.lload 13, 2) := by decide +kernel
theorem dX12_rootOf_127 : decode cX12_rootOf 127 = .ok (.lsub, 1) := by decide +kernel
theorem dX12_rootOf_128 : decode cX12_rootOf 128 = .ok (.lstore 10, 2) := by decide +kernel
theorem dX12_rootOf_130 : decode cX12_rootOf 130 = .ok (.lload 8, 2) := by decide +kernel
theorem dX12_rootOf_132 : decode cX12_rootOf 132 = .ok (.lconst 1, 1) := by decide +kernel
theorem dX12_rootOf_133 : decode cX12_rootOf 133 = .ok (.lor, 1) := by decide +kernel
theorem dX12_rootOf_134 : decode cX12_rootOf 134 = .ok (.lstore 8, 2) := by decide +kernel
theorem dX12_rootOf_136 : decode cX12_rootOf 136 = .ok (.iinc 12 (-1), 3) := by decide +kernel
theorem dX12_rootOf_139 : decode cX12_rootOf 139 = .ok (.goto (-78), 3) := by decide +kernel
theorem dX12_rootOf_142 : decode cX12_rootOf 142 = .ok (.lload 8, 2) := by decide +kernel
theorem dX12_rootOf_144 : decode cX12_rootOf 144 = .ok (.lconst 1, 1) := by decide +kernel
theorem dX12_rootOf_145 : decode cX12_rootOf 145 = .ok (.land, 1) := by decide +kernel
theorem dX12_rootOf_146 : decode cX12_rootOf 146 = .ok (.lconst 1, 1) := by decide +kernel
theorem dX12_rootOf_147 : decode cX12_rootOf 147 = .ok (.lcmp, 1) := by decide +kernel
theorem dX12_rootOf_148 : decode cX12_rootOf 148 = .ok (.ifCond .ne 27, 3) := by decide +kernel
theorem dX12_rootOf_151 : decode cX12_rootOf 151 = .ok (.lload 10, 2) := by decide +kernel
theorem dX12_rootOf_153 : decode cX12_rootOf 153 = .ok (.lconst 0, 1) := by decide +kernel
theorem dX12_rootOf_154 : decode cX12_rootOf 154 = .ok (.lcmp, 1) := by decide +kernel
theorem dX12_rootOf_155 : decode cX12_rootOf 155 = .ok (.ifCond .ne 16, 3) := by decide +kernel
theorem dX12_rootOf_158 : decode cX12_rootOf 158 = .ok (.lload 8, 2) := by decide +kernel
theorem dX12_rootOf_160 : decode cX12_rootOf 160 = .ok (.ldc2_w 262, 3) := by decide +kernel
theorem dX12_rootOf_163 : decode cX12_rootOf 163 = .ok (.land, 1) := by decide +kernel
theorem dX12_rootOf_164 : decode cX12_rootOf 164 = .ok (.ldc2_w 262, 3) := by decide +kernel
theorem dX12_rootOf_167 : decode cX12_rootOf 167 = .ok (.lcmp, 1) := by decide +kernel
theorem dX12_rootOf_168 : decode cX12_rootOf 168 = .ok (.ifCond .ne 7, 3) := by decide +kernel
theorem dX12_rootOf_171 : decode cX12_rootOf 171 = .ok (.iconst 1, 1) := by decide +kernel
theorem dX12_rootOf_172 : decode cX12_rootOf 172 = .ok (.goto 4, 3) := by decide +kernel
theorem dX12_rootOf_175 : decode cX12_rootOf 175 = .ok (.iconst 0, 1) := by decide +kernel
theorem dX12_rootOf_176 : decode cX12_rootOf 176 = .ok (.istore 12, 2) := by decide +kernel
theorem dX12_rootOf_178 : decode cX12_rootOf 178 = .ok (.lload 8, 2) := by decide +kernel
theorem dX12_rootOf_180 : decode cX12_rootOf 180 = .ok (.iconst 1, 1) := by decide +kernel
theorem dX12_rootOf_181 : decode cX12_rootOf 181 = .ok (.lshr, 1) := by decide +kernel
theorem dX12_rootOf_182 : decode cX12_rootOf 182 = .ok (.iload 12, 2) := by decide +kernel
theorem dX12_rootOf_184 : decode cX12_rootOf 184 = .ok (.ifCond .eq 7, 3) := by decide +kernel
theorem dX12_rootOf_187 : decode cX12_rootOf 187 = .ok (.lconst 1, 1) := by decide +kernel
theorem dX12_rootOf_188 : decode cX12_rootOf 188 = .ok (.goto 4, 3) := by decide +kernel
theorem dX12_rootOf_191 : decode cX12_rootOf 191 = .ok (.lconst 0, 1) := by decide +kernel
theorem dX12_rootOf_192 : decode cX12_rootOf 192 = .ok (.ladd, 1) := by decide +kernel
theorem dX12_rootOf_193 : decode cX12_rootOf 193 = .ok (.lstore 13, 2) := by decide +kernel
theorem dX12_rootOf_195 : decode cX12_rootOf 195 = .ok (.lload 13, 2) := by decide +kernel
theorem dX12_rootOf_197 : decode cX12_rootOf 197 = .ok (.l2d, 1) := by decide +kernel
theorem dX12_rootOf_198 : decode cX12_rootOf 198 = .ok (.iload 5, 2) := by decide +kernel
theorem dX12_rootOf_200 : decode cX12_rootOf 200 = .ok (.bipush 54, 2) := by decide +kernel
theorem dX12_rootOf_202 : decode cX12_rootOf 202 = .ok (.isub, 1) := by decide +kernel
theorem dX12_rootOf_203 : decode cX12_rootOf 203 = .ok (.iconst 2, 1) := by decide +kernel
theorem dX12_rootOf_204 : decode cX12_rootOf 204 = .ok (.idiv, 1) := by decide +kernel
theorem dX12_rootOf_205 : decode cX12_rootOf 205 = .ok (.iconst 1, 1) := by decide +kernel
theorem dX12_rootOf_206 : decode cX12_rootOf 206 = .ok (.iadd, 1) := by decide +kernel
theorem dX12_rootOf_207 : decode cX12_rootOf 207 = .ok (.sipush 1023, 3) := by decide +kernel
theorem dX12_rootOf_210 : decode cX12_rootOf 210 = .ok (.iadd, 1) := by decide +kernel
theorem dX12_rootOf_211 : decode cX12_rootOf 211 = .ok (.i2l, 1) := by decide +kernel
theorem dX12_rootOf_212 : decode cX12_rootOf 212 = .ok (.bipush 52, 2) := by decide +kernel
theorem dX12_rootOf_214 : decode cX12_rootOf 214 = .ok (.lshl, 1) := by decide +kernel
theorem dX12_rootOf_215 : decode cX12_rootOf 215 = .ok (.invokestatic 264, 3) := by decide +kernel
theorem dX12_rootOf_218 : decode cX12_rootOf 218 = .ok (.dmul, 1) := by decide +kernel
theorem dX12_rootOf_219 : decode cX12_rootOf 219 = .ok (.dreturn, 1) := by decide +kernel
set_option maxRecDepth 20000 in
theorem ggX12_bandOf_X12_rootOf : GoodIn wsX12_bandOf wsX12_rootOf := goodIn_r _ [6, 7, 8, 9, 10, 11, 12, 13, 14, 15, 16, 17, 18, 19, 20, 21, 22, 23, 24, 25] (by decide +kernel) (by decide +kernel)
set_option maxRecDepth 20000 in
theorem gX12_bandOf_X12_rootOf : GoodIn wsX12_bandOf (wsV RX12 268 RX12 yX12_rootOf wsX12_rootOf) := goodIn_app (goodIn_of _ (by decide +kernel)) ggX12_bandOf_X12_rootOf
theorem dX12_bandOf_0 : decode cX12_bandOf 0 = .ok (.dconst 1, 1) := by decide +kernel
theorem dX12_bandOf_1 : decode cX12_bandOf 1 = .ok (.dload_n 1, 1) := by decide +kernel
theorem dX12_bandOf_2 : decode cX12_bandOf 2 = .ok (.dadd, 1) := by decide +kernel
theorem dX12_bandOf_3 : decode cX12_bandOf 3 = .ok (.aload_n 0, 1) := by decide +kernel
theorem dX12_bandOf_4 : decode cX12_bandOf 4 = .ok (.dload_n 1, 1) := by decide +kernel
theorem dX12_bandOf_5 : decode cX12_bandOf 5 = .ok (.dload_n 1, 1) := by decide +kernel
theorem dX12_bandOf_6 : decode cX12_bandOf 6 = .ok (.dmul, 1) := by decide +kernel
theorem dX12_bandOf_7 : decode cX12_bandOf 7 = .ok (.ldc2_w 236, 3) := by decide +kernel
theorem dX12_bandOf_10 : decode cX12_bandOf 10 = .ok (.dload_n 1, 1) := by decide +kernel
theorem dX12_bandOf_11 : decode cX12_bandOf 11 = .ok (.dmul, 1) := by decide +kernel
theorem dX12_bandOf_12 : decode cX12_bandOf 12 = .ok (.dadd, 1) := by decide +kernel
theorem dX12_bandOf_13 : decode cX12_bandOf 13 = .ok (.invokevirtual 268, 3) := by decide +kernel
theorem dX12_bandOf_16 : decode cX12_bandOf 16 = .ok (.dsub, 1) := by decide +kernel
theorem dX12_bandOf_17 : decode cX12_bandOf 17 = .ok (.dstore_n 3, 1) := by decide +kernel
theorem dX12_bandOf_18 : decode cX12_bandOf 18 = .ok (.dload_n 3, 1) := by decide +kernel
theorem dX12_bandOf_19 : decode cX12_bandOf 19 = .ok (.dconst 0, 1) := by decide +kernel
theorem dX12_bandOf_20 : decode cX12_bandOf 20 = .ok (.dcmp .g, 1) := by decide +kernel
theorem dX12_bandOf_21 : decode cX12_bandOf 21 = .ok (.ifCond .ge 7, 3) := by decide +kernel
theorem dX12_bandOf_24 : decode cX12_bandOf 24 = .ok (.fconst 0, 1) := by decide +kernel
theorem dX12_bandOf_25 : decode cX12_bandOf 25 = .ok (.goto 5, 3) := by decide +kernel
theorem dX12_bandOf_28 : decode cX12_bandOf 28 = .ok (.dload_n 3, 1) := by decide +kernel
theorem dX12_bandOf_29 : decode cX12_bandOf 29 = .ok (.d2f, 1) := by decide +kernel
theorem dX12_bandOf_30 : decode cX12_bandOf 30 = .ok (.freturn, 1) := by decide +kernel
set_option maxRecDepth 20000 in
theorem ggX12_predict_X12_is : GoodIn wsX12_predict wsX12_is := goodIn_r _ [16] (by decide +kernel) (by decide +kernel)
set_option maxRecDepth 20000 in
theorem gX12_predict_X12_is : GoodIn wsX12_predict (wsV RX12 186 RX12 yX12_is wsX12_is) := goodIn_app (goodIn_of _ (by decide +kernel)) ggX12_predict_X12_is
set_option maxRecDepth 20000 in
theorem ggX12_predict_X12_not : GoodIn wsX12_predict wsX12_not := goodIn_r _ [20, 11, 72, 73, 74, 75, 76, 77, 78, 79, 80, 81, 82, 83, 84, 85, 86, 87, 88, 89, 90, 91, 92, 93, 94, 95, 96, 97, 98, 99, 100, 101, 102, 103, 104, 105, 106, 107, 108, 109, 110, 111, 112, 113, 114, 115, 116, 117, 118, 119, 120, 121, 122, 123, 124, 125, 126, 127, 128, 129, 130, 131, 132, 133, 134, 135, 136, 137, 138, 139, 140, 141, 142, 143, 144, 145, 146, 147] (by decide +kernel) (by decide +kernel)
set_option maxRecDepth 20000 in
theorem gX12_predict_X12_not : GoodIn wsX12_predict (wsV RX12 216 RX12 yX12_not wsX12_not) := goodIn_app (goodIn_of _ (by decide +kernel)) ggX12_predict_X12_not
set_option maxRecDepth 20000 in
theorem ggX12_predict_X12_quotient : GoodIn wsX12_predict wsX12_quotient := goodIn_r _ [24, 25, 26] (by decide +kernel) (by decide +kernel)
set_option maxRecDepth 20000 in
theorem gX12_predict_X12_quotient : GoodIn wsX12_predict (wsV RX12 238 RX12 yX12_quotient wsX12_quotient) := goodIn_app (goodIn_of _ (by decide +kernel)) ggX12_predict_X12_quotient
set_option maxRecDepth 20000 in
theorem ggX12_predict_X12_lotAt : GoodIn wsX12_predict wsX12_lotAt := goodIn_r _ [30, 31, 32, 33, 34, 35, 36, 15, 37, 38, 39, 40, 41, 42, 43, 3, 44, 21, 22, 23, 24, 25, 26, 72, 73, 74, 75, 76, 77, 78, 79, 80, 81, 82, 83, 84, 85, 86, 87, 88, 89, 90, 91, 92, 93, 94, 95, 96, 97, 98, 99, 100, 101, 102, 103, 104, 105, 106, 107, 108, 109, 110, 111, 112, 113, 114, 115, 116, 117, 118, 119, 120, 121, 122, 123, 124, 125, 126, 127, 128, 129, 130, 131, 132, 133, 134, 135, 136, 137, 138, 139, 140, 141, 142, 143, 144, 145, 146, 147] (by decide +kernel) (by decide +kernel)
set_option maxRecDepth 20000 in
theorem gX12_predict_X12_lotAt : GoodIn wsX12_predict (wsV RX12 272 RX12 yX12_lotAt wsX12_lotAt) := goodIn_app (goodIn_of _ (by decide +kernel)) ggX12_predict_X12_lotAt
set_option maxRecDepth 20000 in
theorem ggX12_predict_X12_dyeAt : GoodIn wsX12_predict wsX12_dyeAt := goodIn_r _ [37, 38, 39, 40, 41, 42, 15, 43, 3, 44, 21, 22, 23, 24, 25, 26, 72, 73, 74, 75, 76, 77, 78, 79, 80, 81, 82, 83, 84, 85, 86, 87, 88, 89, 90, 91, 92, 93, 94, 95, 96, 97, 98, 99, 100, 101, 102, 103, 104, 105, 106, 107, 108, 109, 110, 111, 112, 113, 114, 115, 116, 117, 118, 119, 120, 121, 122, 123, 124, 125, 126, 127, 128, 129, 130, 131, 132, 133, 134, 135, 136, 137, 138, 139, 140, 141, 142, 143, 144, 145, 146, 147] (by decide +kernel) (by decide +kernel)
set_option maxRecDepth 20000 in
theorem gX12_predict_X12_dyeAt : GoodIn wsX12_predict (wsV RX12 246 RX12 yX12_dyeAt wsX12_dyeAt) := goodIn_app (goodIn_of _ (by decide +kernel)) ggX12_predict_X12_dyeAt
set_option maxRecDepth 20000 in
theorem ggX12_predict_X12_bandOf : GoodIn wsX12_predict wsX12_bandOf := goodIn_r _ [48, 26, 49, 50, 51, 15, 52, 53, 54, 55, 56, 57, 58, 59, 60, 61, 62, 63, 64, 65, 66, 67, 68, 69, 70, 71] (by decide +kernel) (by decide +kernel)
set_option maxRecDepth 20000 in
theorem gX12_predict_X12_bandOf : GoodIn wsX12_predict (wsV RX12 275 RX12 yX12_bandOf wsX12_bandOf) := goodIn_app (goodIn_of _ (by decide +kernel)) ggX12_predict_X12_bandOf
theorem dX12_predict_0 : decode cX12_predict 0 = .ok (.aload_n 0, 1) := by decide +kernel
theorem dX12_predict_1 : decode cX12_predict 1 = .ok (.iconst 0, 1) := by decide +kernel
theorem dX12_predict_2 : decode cX12_predict 2 = .ok (.putfield 149, 3) := by decide +kernel
theorem dX12_predict_5 : decode cX12_predict 5 = .ok (.aload_n 0, 1) := by decide +kernel
theorem dX12_predict_6 : decode cX12_predict 6 = .ok (.iload_n 1, 1) := by decide +kernel
theorem dX12_predict_7 : decode cX12_predict 7 = .ok (.aload_n 0, 1) := by decide +kernel
theorem dX12_predict_8 : decode cX12_predict 8 = .ok (.getfield 163, 3) := by decide +kernel
theorem dX12_predict_11 : decode cX12_predict 11 = .ok (.invokevirtual 186, 3) := by decide +kernel
theorem dX12_predict_14 : decode cX12_predict 14 = .ok (.ifCond .ne 9, 3) := by decide +kernel
theorem dX12_predict_17 : decode cX12_predict 17 = .ok (.aload_n 0, 1) := by decide +kernel
theorem dX12_predict_18 : decode cX12_predict 18 = .ok (.iconst 2, 1) := by decide +kernel
theorem dX12_predict_19 : decode cX12_predict 19 = .ok (.invokevirtual 216, 3) := by decide +kernel
theorem dX12_predict_22 : decode cX12_predict 22 = .ok (.ireturn, 1) := by decide +kernel
theorem dX12_predict_23 : decode cX12_predict 23 = .ok (.iconst 0, 1) := by decide +kernel
theorem dX12_predict_24 : decode cX12_predict 24 = .ok (.istore_n 2, 1) := by decide +kernel
theorem dX12_predict_25 : decode cX12_predict 25 = .ok (.iload_n 2, 1) := by decide +kernel
theorem dX12_predict_26 : decode cX12_predict 26 = .ok (.bipush 16, 2) := by decide +kernel
theorem dX12_predict_28 : decode cX12_predict 28 = .ok (.if_icmp .ge 148, 3) := by decide +kernel
theorem dX12_predict_31 : decode cX12_predict 31 = .ok (.aload_n 0, 1) := by decide +kernel
theorem dX12_predict_32 : decode cX12_predict 32 = .ok (.aload_n 0, 1) := by decide +kernel
theorem dX12_predict_33 : decode cX12_predict 33 = .ok (.getfield 7, 3) := by decide +kernel
theorem dX12_predict_36 : decode cX12_predict 36 = .ok (.bipush 16, 2) := by decide +kernel
theorem dX12_predict_38 : decode cX12_predict 38 = .ok (.bipush 41, 2) := by decide +kernel
theorem dX12_predict_40 : decode cX12_predict 40 = .ok (.iload_n 1, 1) := by decide +kernel
theorem dX12_predict_41 : decode cX12_predict 41 = .ok (.iadd, 1) := by decide +kernel
theorem dX12_predict_42 : decode cX12_predict 42 = .ok (.imul, 1) := by decide +kernel
theorem dX12_predict_43 : decode cX12_predict 43 = .ok (.iload_n 2, 1) := by decide +kernel
theorem dX12_predict_44 : decode cX12_predict 44 = .ok (.iadd, 1) := by decide +kernel
theorem dX12_predict_45 : decode cX12_predict 45 = .ok (.faload, 1) := by decide +kernel
theorem dX12_predict_46 : decode cX12_predict 46 = .ok (.invokevirtual 238, 3) := by decide +kernel
theorem dX12_predict_49 : decode cX12_predict 49 = .ok (.dstore_n 3, 1) := by decide +kernel
theorem dX12_predict_50 : decode cX12_predict 50 = .ok (.iconst 0, 1) := by decide +kernel
theorem dX12_predict_51 : decode cX12_predict 51 = .ok (.istore 5, 2) := by decide +kernel
theorem dX12_predict_53 : decode cX12_predict 53 = .ok (.iload 5, 2) := by decide +kernel
theorem dX12_predict_55 : decode cX12_predict 55 = .ok (.aload_n 0, 1) := by decide +kernel
theorem dX12_predict_56 : decode cX12_predict 56 = .ok (.getfield 231, 3) := by decide +kernel
theorem dX12_predict_59 : decode cX12_predict 59 = .ok (.if_icmp .ge 96, 3) := by decide +kernel
theorem dX12_predict_62 : decode cX12_predict 62 = .ok (.aload_n 0, 1) := by decide +kernel
theorem dX12_predict_63 : decode cX12_predict 63 = .ok (.getfield 78, 3) := by decide +kernel
theorem dX12_predict_66 : decode cX12_predict 66 = .ok (.iload 5, 2) := by decide +kernel
theorem dX12_predict_68 : decode cX12_predict 68 = .ok (.baload, 1) := by decide +kernel
theorem dX12_predict_69 : decode cX12_predict 69 = .ok (.ifCond .eq 43, 3) := by decide +kernel
theorem dX12_predict_72 : decode cX12_predict 72 = .ok (.aload_n 0, 1) := by decide +kernel
theorem dX12_predict_73 : decode cX12_predict 73 = .ok (.getfield 72, 3) := by decide +kernel
theorem dX12_predict_76 : decode cX12_predict 76 = .ok (.iload 5, 2) := by decide +kernel
theorem dX12_predict_78 : decode cX12_predict 78 = .ok (.iaload, 1) := by decide +kernel
theorem dX12_predict_79 : decode cX12_predict 79 = .ok (.aload_n 0, 1) := by decide +kernel
theorem dX12_predict_80 : decode cX12_predict 80 = .ok (.getfield 172, 3) := by decide +kernel
theorem dX12_predict_83 : decode cX12_predict 83 = .ok (.if_icmp .ge 66, 3) := by decide +kernel
theorem dX12_predict_86 : decode cX12_predict 86 = .ok (.dload_n 3, 1) := by decide +kernel
theorem dX12_predict_87 : decode cX12_predict 87 = .ok (.aload_n 0, 1) := by decide +kernel
theorem dX12_predict_88 : decode cX12_predict 88 = .ok (.aload_n 0, 1) := by decide +kernel
theorem dX12_predict_89 : decode cX12_predict 89 = .ok (.getfield 72, 3) := by decide +kernel
theorem dX12_predict_92 : decode cX12_predict 92 = .ok (.iload 5, 2) := by decide +kernel
theorem dX12_predict_94 : decode cX12_predict 94 = .ok (.iaload, 1) := by decide +kernel
theorem dX12_predict_95 : decode cX12_predict 95 = .ok (.aload_n 0, 1) := by decide +kernel
theorem dX12_predict_96 : decode cX12_predict 96 = .ok (.getfield 75, 3) := by decide +kernel
theorem dX12_predict_99 : decode cX12_predict 99 = .ok (.iload 5, 2) := by decide +kernel
theorem dX12_predict_101 : decode cX12_predict 101 = .ok (.iaload, 1) := by decide +kernel
theorem dX12_predict_102 : decode cX12_predict 102 = .ok (.i2d, 1) := by decide +kernel
theorem dX12_predict_103 : decode cX12_predict 103 = .ok (.iload_n 2, 1) := by decide +kernel
theorem dX12_predict_104 : decode cX12_predict 104 = .ok (.invokevirtual 272, 3) := by decide +kernel
theorem dX12_predict_107 : decode cX12_predict 107 = .ok (.dadd, 1) := by decide +kernel
theorem dX12_predict_108 : decode cX12_predict 108 = .ok (.dstore_n 3, 1) := by decide +kernel
theorem dX12_predict_109 : decode cX12_predict 109 = .ok (.goto 40, 3) := by decide +kernel
theorem dX12_predict_112 : decode cX12_predict 112 = .ok (.aload_n 0, 1) := by decide +kernel
theorem dX12_predict_113 : decode cX12_predict 113 = .ok (.getfield 72, 3) := by decide +kernel
theorem dX12_predict_116 : decode cX12_predict 116 = .ok (.iload 5, 2) := by decide +kernel
theorem dX12_predict_118 : decode cX12_predict 118 = .ok (.iaload, 1) := by decide +kernel
theorem dX12_predict_119 : decode cX12_predict 119 = .ok (.aload_n 0, 1) := by decide +kernel
theorem dX12_predict_120 : decode cX12_predict 120 = .ok (.getfield 166, 3) := by decide +kernel
theorem dX12_predict_123 : decode cX12_predict 123 = .ok (.if_icmp .ge 26, 3) := by decide +kernel
theorem dX12_predict_126 : decode cX12_predict 126 = .ok (.dload_n 3, 1) := by decide +kernel
theorem dX12_predict_127 : decode cX12_predict 127 = .ok (.aload_n 0, 1) := by decide +kernel
theorem dX12_predict_128 : decode cX12_predict 128 = .ok (.aload_n 0, 1) := by decide +kernel
theorem dX12_predict_129 : decode cX12_predict 129 = .ok (.getfield 72, 3) := by decide +kernel
theorem dX12_predict_132 : decode cX12_predict 132 = .ok (.iload 5, 2) := by decide +kernel
theorem dX12_predict_134 : decode cX12_predict 134 = .ok (.iaload, 1) := by decide +kernel
theorem dX12_predict_135 : decode cX12_predict 135 = .ok (.aload_n 0, 1) := by decide +kernel
theorem dX12_predict_136 : decode cX12_predict 136 = .ok (.getfield 75, 3) := by decide +kernel
theorem dX12_predict_139 : decode cX12_predict 139 = .ok (.iload 5, 2) := by decide +kernel
theorem dX12_predict_141 : decode cX12_predict 141 = .ok (.iaload, 1) := by decide +kernel
theorem dX12_predict_142 : decode cX12_predict 142 = .ok (.i2d, 1) := by decide +kernel
theorem dX12_predict_143 : decode cX12_predict 143 = .ok (.iload_n 2, 1) := by decide +kernel
theorem dX12_predict_144 : decode cX12_predict 144 = .ok (.invokevirtual 246, 3) := by decide +kernel
theorem dX12_predict_147 : decode cX12_predict 147 = .ok (.dadd, 1) := by decide +kernel
theorem dX12_predict_148 : decode cX12_predict 148 = .ok (.dstore_n 3, 1) := by decide +kernel
theorem dX12_predict_149 : decode cX12_predict 149 = .ok (.iinc 5 1, 3) := by decide +kernel
theorem dX12_predict_152 : decode cX12_predict 152 = .ok (.goto (-99), 3) := by decide +kernel
theorem dX12_predict_155 : decode cX12_predict 155 = .ok (.aload_n 0, 1) := by decide +kernel
theorem dX12_predict_156 : decode cX12_predict 156 = .ok (.getfield 7, 3) := by decide +kernel
theorem dX12_predict_159 : decode cX12_predict 159 = .ok (.sipush 784, 3) := by decide +kernel
theorem dX12_predict_162 : decode cX12_predict 162 = .ok (.iload_n 2, 1) := by decide +kernel
theorem dX12_predict_163 : decode cX12_predict 163 = .ok (.iadd, 1) := by decide +kernel
theorem dX12_predict_164 : decode cX12_predict 164 = .ok (.aload_n 0, 1) := by decide +kernel
theorem dX12_predict_165 : decode cX12_predict 165 = .ok (.dload_n 3, 1) := by decide +kernel
theorem dX12_predict_166 : decode cX12_predict 166 = .ok (.invokevirtual 275, 3) := by decide +kernel
theorem dX12_predict_169 : decode cX12_predict 169 = .ok (.fastore, 1) := by decide +kernel
theorem dX12_predict_170 : decode cX12_predict 170 = .ok (.iinc 2 1, 3) := by decide +kernel
theorem dX12_predict_173 : decode cX12_predict 173 = .ok (.goto (-148), 3) := by decide +kernel
theorem dX12_predict_176 : decode cX12_predict 176 = .ok (.aload_n 0, 1) := by decide +kernel
theorem dX12_predict_177 : decode cX12_predict 177 = .ok (.iconst 0, 1) := by decide +kernel
theorem dX12_predict_178 : decode cX12_predict 178 = .ok (.putfield 231, 3) := by decide +kernel
theorem dX12_predict_181 : decode cX12_predict 181 = .ok (.aload_n 0, 1) := by decide +kernel
theorem dX12_predict_182 : decode cX12_predict 182 = .ok (.iconst 1, 1) := by decide +kernel
theorem dX12_predict_183 : decode cX12_predict 183 = .ok (.putfield 219, 3) := by decide +kernel
theorem dX12_predict_186 : decode cX12_predict 186 = .ok (.aload_n 0, 1) := by decide +kernel
theorem dX12_predict_187 : decode cX12_predict 187 = .ok (.iconst 0, 1) := by decide +kernel
theorem dX12_predict_188 : decode cX12_predict 188 = .ok (.putfield 153, 3) := by decide +kernel
theorem dX12_predict_191 : decode cX12_predict 191 = .ok (.iconst 1, 1) := by decide +kernel
theorem dX12_predict_192 : decode cX12_predict 192 = .ok (.ireturn, 1) := by decide +kernel
theorem dX12_isWeight_0 : decode cX12_isWeight 0 = .ok (.iload_n 1, 1) := by decide +kernel
theorem dX12_isWeight_1 : decode cX12_isWeight 1 = .ok (.ifCond .lt 13, 3) := by decide +kernel
theorem dX12_isWeight_4 : decode cX12_isWeight 4 = .ok (.iload_n 1, 1) := by decide +kernel
theorem dX12_isWeight_5 : decode cX12_isWeight 5 = .ok (.ldc 230, 2) := by decide +kernel
theorem dX12_isWeight_7 : decode cX12_isWeight 7 = .ok (.if_icmp .gt 7, 3) := by decide +kernel
theorem dX12_isWeight_10 : decode cX12_isWeight 10 = .ok (.iconst 1, 1) := by decide +kernel
theorem dX12_isWeight_11 : decode cX12_isWeight 11 = .ok (.goto 4, 3) := by decide +kernel
theorem dX12_isWeight_14 : decode cX12_isWeight 14 = .ok (.iconst 0, 1) := by decide +kernel
theorem dX12_isWeight_15 : decode cX12_isWeight 15 = .ok (.ireturn, 1) := by decide +kernel
set_option maxRecDepth 20000 in
theorem ggX12_light_X12_is : GoodIn wsX12_light wsX12_is := goodIn_r _ [8] (by decide +kernel) (by decide +kernel)
set_option maxRecDepth 20000 in
theorem gX12_light_X12_is : GoodIn wsX12_light (wsV RX12 186 RX12 yX12_is wsX12_is) := goodIn_app (goodIn_of _ (by decide +kernel)) ggX12_light_X12_is
set_option maxRecDepth 20000 in
theorem ggX12_light_X12_isWeight : GoodIn wsX12_light wsX12_isWeight := goodIn_r _ [12, 13] (by decide +kernel) (by decide +kernel)
set_option maxRecDepth 20000 in
theorem gX12_light_X12_isWeight : GoodIn wsX12_light (wsV RX12 279 RX12 yX12_isWeight wsX12_isWeight) := goodIn_app (goodIn_of _ (by decide +kernel)) ggX12_light_X12_isWeight
set_option maxRecDepth 20000 in
theorem ggX12_light_X12_not : GoodIn wsX12_light wsX12_not := goodIn_r _ [17, 3, 18, 19, 20, 21, 22, 23, 24, 25, 26, 27, 28, 29, 30, 31, 32, 33, 34, 35, 36, 37, 38, 39, 40, 41, 42, 43, 44, 45, 46, 47, 48, 49, 50, 51, 52, 53, 54, 55, 56, 57, 58, 59, 60, 61, 62, 63, 64, 65, 66, 67, 68, 69, 70, 71, 72, 73, 74, 75, 76, 77, 78, 79, 80, 81, 82, 83, 84, 85, 86, 87, 88, 89, 90, 91, 92, 93] (by decide +kernel) (by decide +kernel)
set_option maxRecDepth 20000 in
theorem gX12_light_X12_not : GoodIn wsX12_light (wsV RX12 216 RX12 yX12_not wsX12_not) := goodIn_app (goodIn_of _ (by decide +kernel)) ggX12_light_X12_not
theorem dX12_light_0 : decode cX12_light 0 = .ok (.aload_n 0, 1) := by decide +kernel
theorem dX12_light_1 : decode cX12_light 1 = .ok (.iconst 0, 1) := by decide +kernel
theorem dX12_light_2 : decode cX12_light 2 = .ok (.putfield 149, 3) := by decide +kernel
theorem dX12_light_5 : decode cX12_light 5 = .ok (.aload_n 0, 1) := by decide +kernel
theorem dX12_light_6 : decode cX12_light 6 = .ok (.iload_n 1, 1) := by decide +kernel
theorem dX12_light_7 : decode cX12_light 7 = .ok (.bipush 6, 2) := by decide +kernel
theorem dX12_light_9 : decode cX12_light 9 = .ok (.invokevirtual 186, 3) := by decide +kernel
theorem dX12_light_12 : decode cX12_light 12 = .ok (.ifCond .eq 21, 3) := by decide +kernel
theorem dX12_light_15 : decode cX12_light 15 = .ok (.aload_n 0, 1) := by decide +kernel
theorem dX12_light_16 : decode cX12_light 16 = .ok (.iload_n 2, 1) := by decide +kernel
theorem dX12_light_17 : decode cX12_light 17 = .ok (.bipush 16, 2) := by decide +kernel
theorem dX12_light_19 : decode cX12_light 19 = .ok (.invokevirtual 186, 3) := by decide +kernel
theorem dX12_light_22 : decode cX12_light 22 = .ok (.ifCond .eq 11, 3) := by decide +kernel
theorem dX12_light_25 : decode cX12_light 25 = .ok (.aload_n 0, 1) := by decide +kernel
theorem dX12_light_26 : decode cX12_light 26 = .ok (.iload_n 3, 1) := by decide +kernel
theorem dX12_light_27 : decode cX12_light 27 = .ok (.invokevirtual 279, 3) := by decide +kernel
theorem dX12_light_30 : decode cX12_light 30 = .ok (.ifCond .ne 9, 3) := by decide +kernel
theorem dX12_light_33 : decode cX12_light 33 = .ok (.aload_n 0, 1) := by decide +kernel
theorem dX12_light_34 : decode cX12_light 34 = .ok (.iconst 3, 1) := by decide +kernel
theorem dX12_light_35 : decode cX12_light 35 = .ok (.invokevirtual 216, 3) := by decide +kernel
theorem dX12_light_38 : decode cX12_light 38 = .ok (.ireturn, 1) := by decide +kernel
theorem dX12_light_39 : decode cX12_light 39 = .ok (.aload_n 0, 1) := by decide +kernel
theorem dX12_light_40 : decode cX12_light 40 = .ok (.getfield 63, 3) := by decide +kernel
theorem dX12_light_43 : decode cX12_light 43 = .ok (.bipush 16, 2) := by decide +kernel
theorem dX12_light_45 : decode cX12_light 45 = .ok (.iload_n 1, 1) := by decide +kernel
theorem dX12_light_46 : decode cX12_light 46 = .ok (.imul, 1) := by decide +kernel
theorem dX12_light_47 : decode cX12_light 47 = .ok (.iload_n 2, 1) := by decide +kernel
theorem dX12_light_48 : decode cX12_light 48 = .ok (.iadd, 1) := by decide +kernel
theorem dX12_light_49 : decode cX12_light 49 = .ok (.iload_n 3, 1) := by decide +kernel
theorem dX12_light_50 : decode cX12_light 50 = .ok (.iastore, 1) := by decide +kernel
theorem dX12_light_51 : decode cX12_light 51 = .ok (.aload_n 0, 1) := by decide +kernel
theorem dX12_light_52 : decode cX12_light 52 = .ok (.iconst 0, 1) := by decide +kernel
theorem dX12_light_53 : decode cX12_light 53 = .ok (.putfield 153, 3) := by decide +kernel
theorem dX12_light_56 : decode cX12_light 56 = .ok (.iconst 1, 1) := by decide +kernel
theorem dX12_light_57 : decode cX12_light 57 = .ok (.ireturn, 1) := by decide +kernel
set_option maxRecDepth 20000 in
theorem ggX12_eye_X12_is : GoodIn wsX12_eye wsX12_is := goodIn_r _ [8] (by decide +kernel) (by decide +kernel)
set_option maxRecDepth 20000 in
theorem gX12_eye_X12_is : GoodIn wsX12_eye (wsV RX12 186 RX12 yX12_is wsX12_is) := goodIn_app (goodIn_of _ (by decide +kernel)) ggX12_eye_X12_is
set_option maxRecDepth 20000 in
theorem ggX12_eye_X12_isWeight : GoodIn wsX12_eye wsX12_isWeight := goodIn_r _ [12, 13] (by decide +kernel) (by decide +kernel)
set_option maxRecDepth 20000 in
theorem gX12_eye_X12_isWeight : GoodIn wsX12_eye (wsV RX12 279 RX12 yX12_isWeight wsX12_isWeight) := goodIn_app (goodIn_of _ (by decide +kernel)) ggX12_eye_X12_isWeight
set_option maxRecDepth 20000 in
theorem ggX12_eye_X12_not : GoodIn wsX12_eye wsX12_not := goodIn_r _ [17, 3, 18, 19, 20, 21, 22, 23, 24, 25, 26, 27, 28, 29, 30, 31, 32, 33, 34, 35, 36, 37, 38, 39, 40, 41, 42, 43, 44, 45, 46, 47, 48, 49, 50, 51, 52, 53, 54, 55, 56, 57, 58, 59, 60, 61, 62, 63, 64, 65, 66, 67, 68, 69, 70, 71, 72, 73, 74, 75, 76, 77, 78, 79, 80, 81, 82, 83, 84, 85, 86, 87, 88, 89, 90, 91, 92, 93] (by decide +kernel) (by decide +kernel)
set_option maxRecDepth 20000 in
theorem gX12_eye_X12_not : GoodIn wsX12_eye (wsV RX12 216 RX12 yX12_not wsX12_not) := goodIn_app (goodIn_of _ (by decide +kernel)) ggX12_eye_X12_not
theorem dX12_eye_0 : decode cX12_eye 0 = .ok (.aload_n 0, 1) := by decide +kernel
theorem dX12_eye_1 : decode cX12_eye 1 = .ok (.iconst 0, 1) := by decide +kernel
theorem dX12_eye_2 : decode cX12_eye 2 = .ok (.putfield 149, 3) := by decide +kernel
theorem dX12_eye_5 : decode cX12_eye 5 = .ok (.aload_n 0, 1) := by decide +kernel
theorem dX12_eye_6 : decode cX12_eye 6 = .ok (.iload_n 1, 1) := by decide +kernel
theorem dX12_eye_7 : decode cX12_eye 7 = .ok (.iconst 2, 1) := by decide +kernel
theorem dX12_eye_8 : decode cX12_eye 8 = .ok (.invokevirtual 186, 3) := by decide +kernel
theorem dX12_eye_11 : decode cX12_eye 11 = .ok (.ifCond .eq 31, 3) := by decide +kernel
theorem dX12_eye_14 : decode cX12_eye 14 = .ok (.aload_n 0, 1) := by decide +kernel
theorem dX12_eye_15 : decode cX12_eye 15 = .ok (.iload_n 2, 1) := by decide +kernel
theorem dX12_eye_16 : decode cX12_eye 16 = .ok (.iconst 3, 1) := by decide +kernel
theorem dX12_eye_17 : decode cX12_eye 17 = .ok (.invokevirtual 186, 3) := by decide +kernel
theorem dX12_eye_20 : decode cX12_eye 20 = .ok (.ifCond .eq 22, 3) := by decide +kernel
theorem dX12_eye_23 : decode cX12_eye 23 = .ok (.aload_n 0, 1) := by decide +kernel
theorem dX12_eye_24 : decode cX12_eye 24 = .ok (.iload_n 3, 1) := by decide +kernel
theorem dX12_eye_25 : decode cX12_eye 25 = .ok (.bipush 16, 2) := by decide +kernel
theorem dX12_eye_27 : decode cX12_eye 27 = .ok (.invokevirtual 186, 3) := by decide +kernel
theorem dX12_eye_30 : decode cX12_eye 30 = .ok (.ifCond .eq 12, 3) := by decide +kernel
theorem dX12_eye_33 : decode cX12_eye 33 = .ok (.aload_n 0, 1) := by decide +kernel
theorem dX12_eye_34 : decode cX12_eye 34 = .ok (.iload 4, 2) := by decide +kernel
theorem dX12_eye_36 : decode cX12_eye 36 = .ok (.invokevirtual 279, 3) := by decide +kernel
theorem dX12_eye_39 : decode cX12_eye 39 = .ok (.ifCond .ne 9, 3) := by decide +kernel
theorem dX12_eye_42 : decode cX12_eye 42 = .ok (.aload_n 0, 1) := by decide +kernel
theorem dX12_eye_43 : decode cX12_eye 43 = .ok (.iconst 3, 1) := by decide +kernel
theorem dX12_eye_44 : decode cX12_eye 44 = .ok (.invokevirtual 216, 3) := by decide +kernel
theorem dX12_eye_47 : decode cX12_eye 47 = .ok (.ireturn, 1) := by decide +kernel
theorem dX12_eye_48 : decode cX12_eye 48 = .ok (.aload_n 0, 1) := by decide +kernel
theorem dX12_eye_49 : decode cX12_eye 49 = .ok (.getfield 66, 3) := by decide +kernel
theorem dX12_eye_52 : decode cX12_eye 52 = .ok (.bipush 48, 2) := by decide +kernel
theorem dX12_eye_54 : decode cX12_eye 54 = .ok (.iload_n 1, 1) := by decide +kernel
theorem dX12_eye_55 : decode cX12_eye 55 = .ok (.imul, 1) := by decide +kernel
theorem dX12_eye_56 : decode cX12_eye 56 = .ok (.bipush 16, 2) := by decide +kernel
theorem dX12_eye_58 : decode cX12_eye 58 = .ok (.iload_n 2, 1) := by decide +kernel
theorem dX12_eye_59 : decode cX12_eye 59 = .ok (.imul, 1) := by decide +kernel
theorem dX12_eye_60 : decode cX12_eye 60 = .ok (.iadd, 1) := by decide +kernel
theorem dX12_eye_61 : decode cX12_eye 61 = .ok (.iload_n 3, 1) := by decide +kernel
theorem dX12_eye_62 : decode cX12_eye 62 = .ok (.iadd, 1) := by decide +kernel
theorem dX12_eye_63 : decode cX12_eye 63 = .ok (.iload 4, 2) := by decide +kernel
theorem dX12_eye_65 : decode cX12_eye 65 = .ok (.iastore, 1) := by decide +kernel
theorem dX12_eye_66 : decode cX12_eye 66 = .ok (.aload_n 0, 1) := by decide +kernel
theorem dX12_eye_67 : decode cX12_eye 67 = .ok (.iconst 0, 1) := by decide +kernel
theorem dX12_eye_68 : decode cX12_eye 68 = .ok (.putfield 153, 3) := by decide +kernel
theorem dX12_eye_71 : decode cX12_eye 71 = .ok (.iconst 1, 1) := by decide +kernel
theorem dX12_eye_72 : decode cX12_eye 72 = .ok (.ireturn, 1) := by decide +kernel
set_option maxRecDepth 20000 in
theorem ggX12_measure_X12_not : GoodIn wsX12_measure wsX12_not := goodIn_r _ [8, 3, 9, 10, 11, 12, 13, 14, 15, 16, 17, 18, 19, 20, 21, 22, 23, 24, 25, 26, 27, 28, 29, 30, 31, 32, 33, 34, 35, 36, 37, 38, 39, 40, 41, 42, 43, 44, 45, 46, 47, 48, 49, 50, 51, 52, 53, 54, 55, 56, 57, 58, 59, 60, 61, 62, 63, 64, 65, 66, 67, 68, 69, 70, 71, 72, 73, 74, 75, 76, 77, 78, 79, 80, 81, 82, 83, 84] (by decide +kernel) (by decide +kernel)
set_option maxRecDepth 20000 in
theorem gX12_measure_X12_not : GoodIn wsX12_measure (wsV RX12 216 RX12 yX12_not wsX12_not) := goodIn_app (goodIn_of _ (by decide +kernel)) ggX12_measure_X12_not
theorem dX12_measure_0 : decode cX12_measure 0 = .ok (.aload_n 0, 1) := by decide +kernel
theorem dX12_measure_1 : decode cX12_measure 1 = .ok (.iconst 0, 1) := by decide +kernel
theorem dX12_measure_2 : decode cX12_measure 2 = .ok (.putfield 149, 3) := by decide +kernel
theorem dX12_measure_5 : decode cX12_measure 5 = .ok (.iload_n 1, 1) := by decide +kernel
theorem dX12_measure_6 : decode cX12_measure 6 = .ok (.iconst 1, 1) := by decide +kernel
theorem dX12_measure_7 : decode cX12_measure 7 = .ok (.if_icmp .lt 31, 3) := by decide +kernel
theorem dX12_measure_10 : decode cX12_measure 10 = .ok (.iload_n 1, 1) := by decide +kernel
theorem dX12_measure_11 : decode cX12_measure 11 = .ok (.bipush 100, 2) := by decide +kernel
theorem dX12_measure_13 : decode cX12_measure 13 = .ok (.if_icmp .gt 25, 3) := by decide +kernel
theorem dX12_measure_16 : decode cX12_measure 16 = .ok (.iload_n 2, 1) := by decide +kernel
theorem dX12_measure_17 : decode cX12_measure 17 = .ok (.iconst 1, 1) := by decide +kernel
theorem dX12_measure_18 : decode cX12_measure 18 = .ok (.if_icmp .lt 20, 3) := by decide +kernel
theorem dX12_measure_21 : decode cX12_measure 21 = .ok (.iload_n 2, 1) := by decide +kernel
theorem dX12_measure_22 : decode cX12_measure 22 = .ok (.bipush 100, 2) := by decide +kernel
theorem dX12_measure_24 : decode cX12_measure 24 = .ok (.if_icmp .gt 14, 3) := by decide +kernel
theorem dX12_measure_27 : decode cX12_measure 27 = .ok (.iload_n 3, 1) := by decide +kernel
theorem dX12_measure_28 : decode cX12_measure 28 = .ok (.iconst 1, 1) := by decide +kernel
theorem dX12_measure_29 : decode cX12_measure 29 = .ok (.if_icmp .lt 9, 3) := by decide +kernel
theorem dX12_measure_32 : decode cX12_measure 32 = .ok (.iload_n 3, 1) := by decide +kernel
theorem dX12_measure_33 : decode cX12_measure 33 = .ok (.bipush 100, 2) := by decide +kernel
theorem dX12_measure_35 : decode cX12_measure 35 = .ok (.if_icmp .le 9, 3) := by decide +kernel
theorem dX12_measure_38 : decode cX12_measure 38 = .ok (.aload_n 0, 1) := by decide +kernel
theorem dX12_measure_39 : decode cX12_measure 39 = .ok (.iconst 3, 1) := by decide +kernel
theorem dX12_measure_40 : decode cX12_measure 40 = .ok (.invokevirtual 216, 3) := by decide +kernel
theorem dX12_measure_43 : decode cX12_measure 43 = .ok (.ireturn, 1) := by decide +kernel
theorem dX12_measure_44 : decode cX12_measure 44 = .ok (.aload_n 0, 1) := by decide +kernel
theorem dX12_measure_45 : decode cX12_measure 45 = .ok (.getfield 69, 3) := by decide +kernel
theorem dX12_measure_48 : decode cX12_measure 48 = .ok (.iconst 0, 1) := by decide +kernel
theorem dX12_measure_49 : decode cX12_measure 49 = .ok (.iload_n 1, 1) := by decide +kernel
theorem dX12_measure_50 : decode cX12_measure 50 = .ok (.iastore, 1) := by decide +kernel
theorem dX12_measure_51 : decode cX12_measure 51 = .ok (.aload_n 0, 1) := by decide +kernel
theorem dX12_measure_52 : decode cX12_measure 52 = .ok (.getfield 69, 3) := by decide +kernel
theorem dX12_measure_55 : decode cX12_measure 55 = .ok (.iconst 1, 1) := by decide +kernel
theorem dX12_measure_56 : decode cX12_measure 56 = .ok (.iload_n 2, 1) := by decide +kernel
theorem dX12_measure_57 : decode cX12_measure 57 = .ok (.iastore, 1) := by decide +kernel
theorem dX12_measure_58 : decode cX12_measure 58 = .ok (.aload_n 0, 1) := by decide +kernel
theorem dX12_measure_59 : decode cX12_measure 59 = .ok (.getfield 69, 3) := by decide +kernel
theorem dX12_measure_62 : decode cX12_measure 62 = .ok (.iconst 2, 1) := by decide +kernel
theorem dX12_measure_63 : decode cX12_measure 63 = .ok (.iload_n 3, 1) := by decide +kernel
theorem dX12_measure_64 : decode cX12_measure 64 = .ok (.iastore, 1) := by decide +kernel
theorem dX12_measure_65 : decode cX12_measure 65 = .ok (.aload_n 0, 1) := by decide +kernel
theorem dX12_measure_66 : decode cX12_measure 66 = .ok (.iconst 0, 1) := by decide +kernel
theorem dX12_measure_67 : decode cX12_measure 67 = .ok (.putfield 153, 3) := by decide +kernel
theorem dX12_measure_70 : decode cX12_measure 70 = .ok (.iconst 1, 1) := by decide +kernel
theorem dX12_measure_71 : decode cX12_measure 71 = .ok (.ireturn, 1) := by decide +kernel
set_option maxRecDepth 20000 in
theorem ggX12_axisOf_X12_rootOf : GoodIn wsX12_axisOf wsX12_rootOf := goodIn_r _ [8, 9, 10, 11, 12, 13, 14, 15, 16, 17, 18, 19, 20, 21, 22, 23, 24, 25, 26, 27] (by decide +kernel) (by decide +kernel)
set_option maxRecDepth 20000 in
theorem gX12_axisOf_X12_rootOf : GoodIn wsX12_axisOf (wsV RX12 268 RX12 yX12_rootOf wsX12_rootOf) := goodIn_app (goodIn_of _ (by decide +kernel)) ggX12_axisOf_X12_rootOf
theorem dX12_axisOf_0 : decode cX12_axisOf 0 = .ok (.dconst 0, 1) := by decide +kernel
theorem dX12_axisOf_1 : decode cX12_axisOf 1 = .ok (.dstore 5, 2) := by decide +kernel
theorem dX12_axisOf_3 : decode cX12_axisOf 3 = .ok (.lconst 0, 1) := by decide +kernel
theorem dX12_axisOf_4 : decode cX12_axisOf 4 = .ok (.lstore 7, 2) := by decide +kernel
theorem dX12_axisOf_6 : decode cX12_axisOf 6 = .ok (.iconst 0, 1) := by decide +kernel
theorem dX12_axisOf_7 : decode cX12_axisOf 7 = .ok (.istore 9, 2) := by decide +kernel
theorem dX12_axisOf_9 : decode cX12_axisOf 9 = .ok (.iload 9, 2) := by decide +kernel
theorem dX12_axisOf_11 : decode cX12_axisOf 11 = .ok (.bipush 16, 2) := by decide +kernel
theorem dX12_axisOf_13 : decode cX12_axisOf 13 = .ok (.if_icmp .ge 77, 3) := by decide +kernel
theorem dX12_axisOf_16 : decode cX12_axisOf 16 = .ok (.aload_n 0, 1) := by decide +kernel
theorem dX12_axisOf_17 : decode cX12_axisOf 17 = .ok (.getfield 63, 3) := by decide +kernel
theorem dX12_axisOf_20 : decode cX12_axisOf 20 = .ok (.bipush 16, 2) := by decide +kernel
theorem dX12_axisOf_22 : decode cX12_axisOf 22 = .ok (.iload_n 2, 1) := by decide +kernel
theorem dX12_axisOf_23 : decode cX12_axisOf 23 = .ok (.imul, 1) := by decide +kernel
theorem dX12_axisOf_24 : decode cX12_axisOf 24 = .ok (.iload 9, 2) := by decide +kernel
theorem dX12_axisOf_26 : decode cX12_axisOf 26 = .ok (.iadd, 1) := by decide +kernel
theorem dX12_axisOf_27 : decode cX12_axisOf 27 = .ok (.iaload, 1) := by decide +kernel
theorem dX12_axisOf_28 : decode cX12_axisOf 28 = .ok (.i2l, 1) := by decide +kernel
theorem dX12_axisOf_29 : decode cX12_axisOf 29 = .ok (.aload_n 0, 1) := by decide +kernel
theorem dX12_axisOf_30 : decode cX12_axisOf 30 = .ok (.getfield 66, 3) := by decide +kernel
theorem dX12_axisOf_33 : decode cX12_axisOf 33 = .ok (.bipush 48, 2) := by decide +kernel
theorem dX12_axisOf_35 : decode cX12_axisOf 35 = .ok (.iload_n 3, 1) := by decide +kernel
theorem dX12_axisOf_36 : decode cX12_axisOf 36 = .ok (.imul, 1) := by decide +kernel
theorem dX12_axisOf_37 : decode cX12_axisOf 37 = .ok (.bipush 16, 2) := by decide +kernel
theorem dX12_axisOf_39 : decode cX12_axisOf 39 = .ok (.iload 4, 2) := by decide +kernel
theorem dX12_axisOf_41 : decode cX12_axisOf 41 = .ok (.imul, 1) := by decide +kernel
theorem dX12_axisOf_42 : decode cX12_axisOf 42 = .ok (.iadd, 1) := by decide +kernel
theorem dX12_axisOf_43 : decode cX12_axisOf 43 = .ok (.iload 9, 2) := by decide +kernel
theorem dX12_axisOf_45 : decode cX12_axisOf 45 = .ok (.iadd, 1) := by decide +kernel
theorem dX12_axisOf_46 : decode cX12_axisOf 46 = .ok (.iaload, 1) := by decide +kernel
theorem dX12_axisOf_47 : decode cX12_axisOf 47 = .ok (.i2l, 1) := by decide +kernel
theorem dX12_axisOf_48 : decode cX12_axisOf 48 = .ok (.lmul, 1) := by decide +kernel
theorem dX12_axisOf_49 : decode cX12_axisOf 49 = .ok (.lstore 10, 2) := by decide +kernel
theorem dX12_axisOf_51 : decode cX12_axisOf 51 = .ok (.aload_n 0, 1) := by decide +kernel
theorem dX12_axisOf_52 : decode cX12_axisOf 52 = .ok (.getfield 7, 3) := by decide +kernel
theorem dX12_axisOf_55 : decode cX12_axisOf 55 = .ok (.bipush 16, 2) := by decide +kernel
theorem dX12_axisOf_57 : decode cX12_axisOf 57 = .ok (.iload_n 1, 1) := by decide +kernel
theorem dX12_axisOf_58 : decode cX12_axisOf 58 = .ok (.imul, 1) := by decide +kernel
theorem dX12_axisOf_59 : decode cX12_axisOf 59 = .ok (.iload 9, 2) := by decide +kernel
theorem dX12_axisOf_61 : decode cX12_axisOf 61 = .ok (.iadd, 1) := by decide +kernel
theorem dX12_axisOf_62 : decode cX12_axisOf 62 = .ok (.faload, 1) := by decide +kernel
theorem dX12_axisOf_63 : decode cX12_axisOf 63 = .ok (.f2d, 1) := by decide +kernel
theorem dX12_axisOf_64 : decode cX12_axisOf 64 = .ok (.dstore 12, 2) := by decide +kernel
theorem dX12_axisOf_66 : decode cX12_axisOf 66 = .ok (.dload 5, 2) := by decide +kernel
theorem dX12_axisOf_68 : decode cX12_axisOf 68 = .ok (.dload 12, 2) := by decide +kernel
theorem dX12_axisOf_70 : decode cX12_axisOf 70 = .ok (.lload 10, 2) := by decide +kernel
theorem dX12_axisOf_72 : decode cX12_axisOf 72 = .ok (.l2d, 1) := by decide +kernel
theorem dX12_axisOf_73 : decode cX12_axisOf 73 = .ok (.dmul, 1) := by decide +kernel
theorem dX12_axisOf_74 : decode cX12_axisOf 74 = .ok (.dadd, 1) := by decide +kernel
theorem dX12_axisOf_75 : decode cX12_axisOf 75 = .ok (.dstore 5, 2) := by decide +kernel
theorem dX12_axisOf_77 : decode cX12_axisOf 77 = .ok (.lload 7, 2) := by decide +kernel
theorem dX12_axisOf_79 : decode cX12_axisOf 79 = .ok (.lload 10, 2) := by decide +kernel
theorem dX12_axisOf_81 : decode cX12_axisOf 81 = .ok (.ladd, 1) := by decide +kernel
theorem dX12_axisOf_82 : decode cX12_axisOf 82 = .ok (.lstore 7, 2) := by decide +kernel
theorem dX12_axisOf_84 : decode cX12_axisOf 84 = .ok (.iinc 9 1, 3) := by decide +kernel
theorem dX12_axisOf_87 : decode cX12_axisOf 87 = .ok (.goto (-78), 3) := by decide +kernel
theorem dX12_axisOf_90 : decode cX12_axisOf 90 = .ok (.lload 7, 2) := by decide +kernel
theorem dX12_axisOf_92 : decode cX12_axisOf 92 = .ok (.lconst 0, 1) := by decide +kernel
theorem dX12_axisOf_93 : decode cX12_axisOf 93 = .ok (.lcmp, 1) := by decide +kernel
theorem dX12_axisOf_94 : decode cX12_axisOf 94 = .ok (.ifCond .ne 11, 3) := by decide +kernel
theorem dX12_axisOf_97 : decode cX12_axisOf 97 = .ok (.aload_n 0, 1) := by decide +kernel
theorem dX12_axisOf_98 : decode cX12_axisOf 98 = .ok (.dconst 0, 1) := by decide +kernel
theorem dX12_axisOf_99 : decode cX12_axisOf 99 = .ok (.invokevirtual 268, 3) := by decide +kernel
theorem dX12_axisOf_102 : decode cX12_axisOf 102 = .ok (.goto 13, 3) := by decide +kernel
theorem dX12_axisOf_105 : decode cX12_axisOf 105 = .ok (.aload_n 0, 1) := by decide +kernel
theorem dX12_axisOf_106 : decode cX12_axisOf 106 = .ok (.dload 5, 2) := by decide +kernel
theorem dX12_axisOf_108 : decode cX12_axisOf 108 = .ok (.lload 7, 2) := by decide +kernel
theorem dX12_axisOf_110 : decode cX12_axisOf 110 = .ok (.l2d, 1) := by decide +kernel
theorem dX12_axisOf_111 : decode cX12_axisOf 111 = .ok (.ddiv, 1) := by decide +kernel
theorem dX12_axisOf_112 : decode cX12_axisOf 112 = .ok (.invokevirtual 268, 3) := by decide +kernel
theorem dX12_axisOf_115 : decode cX12_axisOf 115 = .ok (.dreturn, 1) := by decide +kernel
set_option maxRecDepth 20000 in
theorem ggX12_colourOf_X12_axisOf : GoodIn wsX12_colourOf wsX12_axisOf := goodIn_r _ [7, 8, 9, 10, 11, 12, 13, 6, 14, 15, 16, 17, 18, 19, 20, 21, 22, 23, 24, 25, 26, 27, 28, 29, 30, 31, 32, 33, 34, 35, 36, 37, 38, 39, 40, 41, 42, 43, 44, 45, 46, 47, 48, 49, 50, 51, 52, 53, 54, 55, 56, 57, 58, 59, 60, 61, 62, 63, 64, 65, 66, 67, 68, 69, 70, 71, 72, 73, 74, 75, 76, 77, 78, 79, 80, 81, 82, 83, 84, 85, 86, 87, 88, 89, 90, 91, 92, 93, 94, 95, 96, 97, 98, 99, 100, 101, 102, 103, 104, 105, 106, 107, 108, 109] (by decide +kernel) (by decide +kernel)
set_option maxRecDepth 20000 in
theorem gX12_colourOf_X12_axisOf : GoodIn wsX12_colourOf (wsV RX12 284 RX12 yX12_axisOf wsX12_axisOf) := goodIn_app (goodIn_of _ (by decide +kernel)) ggX12_colourOf_X12_axisOf
theorem dX12_colourOf_0 : decode cX12_colourOf 0 = .ok (.iload 4, 2) := by decide +kernel
theorem dX12_colourOf_2 : decode cX12_colourOf 2 = .ok (.ifCond .ne 16, 3) := by decide +kernel
theorem dX12_colourOf_5 : decode cX12_colourOf 5 = .ok (.ldc2_w 282, 3) := by decide +kernel
theorem dX12_colourOf_8 : decode cX12_colourOf 8 = .ok (.aload_n 0, 1) := by decide +kernel
theorem dX12_colourOf_9 : decode cX12_colourOf 9 = .ok (.iload_n 1, 1) := by decide +kernel
theorem dX12_colourOf_10 : decode cX12_colourOf 10 = .ok (.iload_n 2, 1) := by decide +kernel
theorem dX12_colourOf_11 : decode cX12_colourOf 11 = .ok (.iload_n 3, 1) := by decide +kernel
theorem dX12_colourOf_12 : decode cX12_colourOf 12 = .ok (.iconst 1, 1) := by decide +kernel
theorem dX12_colourOf_13 : decode cX12_colourOf 13 = .ok (.invokevirtual 284, 3) := by decide +kernel
theorem dX12_colourOf_16 : decode cX12_colourOf 16 = .ok (.dmul, 1) := by decide +kernel
theorem dX12_colourOf_17 : decode cX12_colourOf 17 = .ok (.dreturn, 1) := by decide +kernel
theorem dX12_colourOf_18 : decode cX12_colourOf 18 = .ok (.iload 4, 2) := by decide +kernel
theorem dX12_colourOf_20 : decode cX12_colourOf 20 = .ok (.iconst 1, 1) := by decide +kernel
theorem dX12_colourOf_21 : decode cX12_colourOf 21 = .ok (.if_icmp .ne 27, 3) := by decide +kernel
theorem dX12_colourOf_24 : decode cX12_colourOf 24 = .ok (.ldc2_w 288, 3) := by decide +kernel
theorem dX12_colourOf_27 : decode cX12_colourOf 27 = .ok (.aload_n 0, 1) := by decide +kernel
theorem dX12_colourOf_28 : decode cX12_colourOf 28 = .ok (.iload_n 1, 1) := by decide +kernel
theorem dX12_colourOf_29 : decode cX12_colourOf 29 = .ok (.iload_n 2, 1) := by decide +kernel
theorem dX12_colourOf_30 : decode cX12_colourOf 30 = .ok (.iload_n 3, 1) := by decide +kernel
theorem dX12_colourOf_31 : decode cX12_colourOf 31 = .ok (.iconst 0, 1) := by decide +kernel
theorem dX12_colourOf_32 : decode cX12_colourOf 32 = .ok (.invokevirtual 284, 3) := by decide +kernel
theorem dX12_colourOf_35 : decode cX12_colourOf 35 = .ok (.aload_n 0, 1) := by decide +kernel
theorem dX12_colourOf_36 : decode cX12_colourOf 36 = .ok (.iload_n 1, 1) := by decide +kernel
theorem dX12_colourOf_37 : decode cX12_colourOf 37 = .ok (.iload_n 2, 1) := by decide +kernel
theorem dX12_colourOf_38 : decode cX12_colourOf 38 = .ok (.iload_n 3, 1) := by decide +kernel
theorem dX12_colourOf_39 : decode cX12_colourOf 39 = .ok (.iconst 1, 1) := by decide +kernel
theorem dX12_colourOf_40 : decode cX12_colourOf 40 = .ok (.invokevirtual 284, 3) := by decide +kernel
theorem dX12_colourOf_43 : decode cX12_colourOf 43 = .ok (.dsub, 1) := by decide +kernel
theorem dX12_colourOf_44 : decode cX12_colourOf 44 = .ok (.dmul, 1) := by decide +kernel
theorem dX12_colourOf_45 : decode cX12_colourOf 45 = .ok (.goto 24, 3) := by decide +kernel
theorem dX12_colourOf_48 : decode cX12_colourOf 48 = .ok (.ldc2_w 282, 3) := by decide +kernel
theorem dX12_colourOf_51 : decode cX12_colourOf 51 = .ok (.aload_n 0, 1) := by decide +kernel
theorem dX12_colourOf_52 : decode cX12_colourOf 52 = .ok (.iload_n 1, 1) := by decide +kernel
theorem dX12_colourOf_53 : decode cX12_colourOf 53 = .ok (.iload_n 2, 1) := by decide +kernel
theorem dX12_colourOf_54 : decode cX12_colourOf 54 = .ok (.iload_n 3, 1) := by decide +kernel
theorem dX12_colourOf_55 : decode cX12_colourOf 55 = .ok (.iconst 1, 1) := by decide +kernel
theorem dX12_colourOf_56 : decode cX12_colourOf 56 = .ok (.invokevirtual 284, 3) := by decide +kernel
theorem dX12_colourOf_59 : decode cX12_colourOf 59 = .ok (.aload_n 0, 1) := by decide +kernel
theorem dX12_colourOf_60 : decode cX12_colourOf 60 = .ok (.iload_n 1, 1) := by decide +kernel
theorem dX12_colourOf_61 : decode cX12_colourOf 61 = .ok (.iload_n 2, 1) := by decide +kernel
theorem dX12_colourOf_62 : decode cX12_colourOf 62 = .ok (.iload_n 3, 1) := by decide +kernel
theorem dX12_colourOf_63 : decode cX12_colourOf 63 = .ok (.iconst 2, 1) := by decide +kernel
theorem dX12_colourOf_64 : decode cX12_colourOf 64 = .ok (.invokevirtual 284, 3) := by decide +kernel
theorem dX12_colourOf_67 : decode cX12_colourOf 67 = .ok (.dsub, 1) := by decide +kernel
theorem dX12_colourOf_68 : decode cX12_colourOf 68 = .ok (.dmul, 1) := by decide +kernel
theorem dX12_colourOf_69 : decode cX12_colourOf 69 = .ok (.dreturn, 1) := by decide +kernel
set_option maxRecDepth 20000 in
theorem ggX12_goalIs_X12_colourOf : GoodIn wsX12_goalIs wsX12_colourOf := goodIn_r _ [6, 7, 8, 9, 10, 11, 5, 12, 13, 14, 15, 16, 17, 18, 19, 20, 21, 22, 23, 24, 25, 26, 27, 28, 29, 30, 31, 32, 33, 34, 35, 36, 37, 38, 39, 40, 41, 42, 43, 44, 45, 46, 47, 48, 49, 50, 51, 52, 53, 54, 55, 56, 57, 58, 59, 60, 61, 62, 63, 64, 65, 66, 67, 68, 69, 70, 71, 72, 73, 74, 75, 76, 77, 78, 79, 80, 81, 82, 83, 84, 85, 86, 87, 88, 89, 90, 91, 92, 93, 94, 95, 96, 97, 98, 99, 100, 101, 102, 103, 104, 105, 106, 107, 108, 109, 110, 111, 112, 113, 114] (by decide +kernel) (by decide +kernel)
set_option maxRecDepth 20000 in
theorem gX12_goalIs_X12_colourOf : GoodIn wsX12_goalIs (wsV RX12 290 RX12 yX12_colourOf wsX12_colourOf) := goodIn_app (goodIn_of _ (by decide +kernel)) ggX12_goalIs_X12_colourOf
theorem dX12_goalIs_0 : decode cX12_goalIs 0 = .ok (.iconst 0, 1) := by decide +kernel
theorem dX12_goalIs_1 : decode cX12_goalIs 1 = .ok (.istore 4, 2) := by decide +kernel
theorem dX12_goalIs_3 : decode cX12_goalIs 3 = .ok (.iload 4, 2) := by decide +kernel
theorem dX12_goalIs_5 : decode cX12_goalIs 5 = .ok (.iconst 3, 1) := by decide +kernel
theorem dX12_goalIs_6 : decode cX12_goalIs 6 = .ok (.if_icmp .ge 25, 3) := by decide +kernel
theorem dX12_goalIs_9 : decode cX12_goalIs 9 = .ok (.aload_n 0, 1) := by decide +kernel
theorem dX12_goalIs_10 : decode cX12_goalIs 10 = .ok (.getfield 115, 3) := by decide +kernel
theorem dX12_goalIs_13 : decode cX12_goalIs 13 = .ok (.iload 4, 2) := by decide +kernel
theorem dX12_goalIs_15 : decode cX12_goalIs 15 = .ok (.aload_n 0, 1) := by decide +kernel
theorem dX12_goalIs_16 : decode cX12_goalIs 16 = .ok (.iload_n 1, 1) := by decide +kernel
theorem dX12_goalIs_17 : decode cX12_goalIs 17 = .ok (.iload_n 2, 1) := by decide +kernel
theorem dX12_goalIs_18 : decode cX12_goalIs 18 = .ok (.iload_n 3, 1) := by decide +kernel
theorem dX12_goalIs_19 : decode cX12_goalIs 19 = .ok (.iload 4, 2) := by decide +kernel
theorem dX12_goalIs_21 : decode cX12_goalIs 21 = .ok (.invokevirtual 290, 3) := by decide +kernel
theorem dX12_goalIs_24 : decode cX12_goalIs 24 = .ok (.dastore, 1) := by decide +kernel
theorem dX12_goalIs_25 : decode cX12_goalIs 25 = .ok (.iinc 4 1, 3) := by decide +kernel
theorem dX12_goalIs_28 : decode cX12_goalIs 28 = .ok (.goto (-25), 3) := by decide +kernel
theorem dX12_goalIs_31 : decode cX12_goalIs 31 = .ok (.return_, 1) := by decide +kernel
set_option maxRecDepth 20000 in
theorem ggX12_fromTo_X12_colourOf : GoodIn wsX12_fromTo wsX12_colourOf := goodIn_r _ [7, 8, 9, 10, 11, 12, 6, 13, 14, 15, 16, 17, 18, 19, 20, 21, 22, 23, 24, 25, 26, 27, 28, 29, 30, 31, 32, 33, 34, 35, 36, 37, 38, 39, 40, 41, 42, 43, 44, 45, 46, 47, 48, 49, 50, 51, 52, 53, 54, 55, 56, 57, 58, 59, 60, 61, 62, 63, 64, 65, 66, 67, 68, 69, 70, 71, 72, 73, 74, 75, 76, 77, 78, 79, 80, 81, 82, 83, 84, 85, 86, 87, 88, 89, 90, 91, 92, 93, 94, 95, 96, 97, 98, 99, 100, 101, 102, 103, 104, 105, 106, 107, 108, 109, 110, 111, 112, 113, 114, 115] (by decide +kernel) (by decide +kernel)
set_option maxRecDepth 20000 in
theorem gX12_fromTo_X12_colourOf : GoodIn wsX12_fromTo (wsV RX12 290 RX12 yX12_colourOf wsX12_colourOf) := goodIn_app (goodIn_of _ (by decide +kernel)) ggX12_fromTo_X12_colourOf
theorem dX12_fromTo_0 : decode cX12_fromTo 0 = .ok (.aload_n 0, 1) := by decide +kernel
theorem dX12_fromTo_1 : decode cX12_fromTo 1 = .ok (.iload_n 1, 1) := by decide +kernel
theorem dX12_fromTo_2 : decode cX12_fromTo 2 = .ok (.iload_n 2, 1) := by decide +kernel
theorem dX12_fromTo_3 : decode cX12_fromTo 3 = .ok (.iload_n 3, 1) := by decide +kernel
theorem dX12_fromTo_4 : decode cX12_fromTo 4 = .ok (.iconst 0, 1) := by decide +kernel
theorem dX12_fromTo_5 : decode cX12_fromTo 5 = .ok (.invokevirtual 290, 3) := by decide +kernel
theorem dX12_fromTo_8 : decode cX12_fromTo 8 = .ok (.aload_n 0, 1) := by decide +kernel
theorem dX12_fromTo_9 : decode cX12_fromTo 9 = .ok (.getfield 115, 3) := by decide +kernel
theorem dX12_fromTo_12 : decode cX12_fromTo 12 = .ok (.iconst 0, 1) := by decide +kernel
theorem dX12_fromTo_13 : decode cX12_fromTo 13 = .ok (.daload, 1) := by decide +kernel
theorem dX12_fromTo_14 : decode cX12_fromTo 14 = .ok (.dsub, 1) := by decide +kernel
theorem dX12_fromTo_15 : decode cX12_fromTo 15 = .ok (.dstore 4, 2) := by decide +kernel
theorem dX12_fromTo_17 : decode cX12_fromTo 17 = .ok (.aload_n 0, 1) := by decide +kernel
theorem dX12_fromTo_18 : decode cX12_fromTo 18 = .ok (.iload_n 1, 1) := by decide +kernel
theorem dX12_fromTo_19 : decode cX12_fromTo 19 = .ok (.iload_n 2, 1) := by decide +kernel
theorem dX12_fromTo_20 : decode cX12_fromTo 20 = .ok (.iload_n 3, 1) := by decide +kernel
theorem dX12_fromTo_21 : decode cX12_fromTo 21 = .ok (.iconst 1, 1) := by decide +kernel
theorem dX12_fromTo_22 : decode cX12_fromTo 22 = .ok (.invokevirtual 290, 3) := by decide +kernel
theorem dX12_fromTo_25 : decode cX12_fromTo 25 = .ok (.aload_n 0, 1) := by decide +kernel
theorem dX12_fromTo_26 : decode cX12_fromTo 26 = .ok (.getfield 115, 3) := by decide +kernel
theorem dX12_fromTo_29 : decode cX12_fromTo 29 = .ok (.iconst 1, 1) := by decide +kernel
theorem dX12_fromTo_30 : decode cX12_fromTo 30 = .ok (.daload, 1) := by decide +kernel
theorem dX12_fromTo_31 : decode cX12_fromTo 31 = .ok (.dsub, 1) := by decide +kernel
theorem dX12_fromTo_32 : decode cX12_fromTo 32 = .ok (.dstore 6, 2) := by decide +kernel
theorem dX12_fromTo_34 : decode cX12_fromTo 34 = .ok (.aload_n 0, 1) := by decide +kernel
theorem dX12_fromTo_35 : decode cX12_fromTo 35 = .ok (.iload_n 1, 1) := by decide +kernel
theorem dX12_fromTo_36 : decode cX12_fromTo 36 = .ok (.iload_n 2, 1) := by decide +kernel
theorem dX12_fromTo_37 : decode cX12_fromTo 37 = .ok (.iload_n 3, 1) := by decide +kernel
theorem dX12_fromTo_38 : decode cX12_fromTo 38 = .ok (.iconst 2, 1) := by decide +kernel
theorem dX12_fromTo_39 : decode cX12_fromTo 39 = .ok (.invokevirtual 290, 3) := by decide +kernel
theorem dX12_fromTo_42 : decode cX12_fromTo 42 = .ok (.aload_n 0, 1) := by decide +kernel
theorem dX12_fromTo_43 : decode cX12_fromTo 43 = .ok (.getfield 115, 3) := by decide +kernel
theorem dX12_fromTo_46 : decode cX12_fromTo 46 = .ok (.iconst 2, 1) := by decide +kernel
theorem dX12_fromTo_47 : decode cX12_fromTo 47 = .ok (.daload, 1) := by decide +kernel
theorem dX12_fromTo_48 : decode cX12_fromTo 48 = .ok (.dsub, 1) := by decide +kernel
theorem dX12_fromTo_49 : decode cX12_fromTo 49 = .ok (.dstore 8, 2) := by decide +kernel
theorem dX12_fromTo_51 : decode cX12_fromTo 51 = .ok (.aload_n 0, 1) := by decide +kernel
theorem dX12_fromTo_52 : decode cX12_fromTo 52 = .ok (.getfield 69, 3) := by decide +kernel
theorem dX12_fromTo_55 : decode cX12_fromTo 55 = .ok (.iconst 0, 1) := by decide +kernel
theorem dX12_fromTo_56 : decode cX12_fromTo 56 = .ok (.iaload, 1) := by decide +kernel
theorem dX12_fromTo_57 : decode cX12_fromTo 57 = .ok (.i2d, 1) := by decide +kernel
theorem dX12_fromTo_58 : decode cX12_fromTo 58 = .ok (.dload 4, 2) := by decide +kernel
theorem dX12_fromTo_60 : decode cX12_fromTo 60 = .ok (.dmul, 1) := by decide +kernel
theorem dX12_fromTo_61 : decode cX12_fromTo 61 = .ok (.dload 4, 2) := by decide +kernel
theorem dX12_fromTo_63 : decode cX12_fromTo 63 = .ok (.dmul, 1) := by decide +kernel
theorem dX12_fromTo_64 : decode cX12_fromTo 64 = .ok (.aload_n 0, 1) := by decide +kernel
theorem dX12_fromTo_65 : decode cX12_fromTo 65 = .ok (.getfield 69, 3) := by decide +kernel
theorem dX12_fromTo_68 : decode cX12_fromTo 68 = .ok (.iconst 1, 1) := by decide +kernel
theorem dX12_fromTo_69 : decode cX12_fromTo 69 = .ok (.iaload, 1) := by decide +kernel
theorem dX12_fromTo_70 : decode cX12_fromTo 70 = .ok (.i2d, 1) := by decide +kernel
