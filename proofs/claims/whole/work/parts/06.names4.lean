theorem dX12_fromTo_71 : decode cX12_fromTo 71 = .ok (.dload 6, 2) := by decide +kernel
theorem dX12_fromTo_73 : decode cX12_fromTo 73 = .ok (.dmul, 1) := by decide +kernel
theorem dX12_fromTo_74 : decode cX12_fromTo 74 = .ok (.dload 6, 2) := by decide +kernel
theorem dX12_fromTo_76 : decode cX12_fromTo 76 = .ok (.dmul, 1) := by decide +kernel
theorem dX12_fromTo_77 : decode cX12_fromTo 77 = .ok (.dadd, 1) := by decide +kernel
theorem dX12_fromTo_78 : decode cX12_fromTo 78 = .ok (.aload_n 0, 1) := by decide +kernel
theorem dX12_fromTo_79 : decode cX12_fromTo 79 = .ok (.getfield 69, 3) := by decide +kernel
theorem dX12_fromTo_82 : decode cX12_fromTo 82 = .ok (.iconst 2, 1) := by decide +kernel
theorem dX12_fromTo_83 : decode cX12_fromTo 83 = .ok (.iaload, 1) := by decide +kernel
theorem dX12_fromTo_84 : decode cX12_fromTo 84 = .ok (.i2d, 1) := by decide +kernel
theorem dX12_fromTo_85 : decode cX12_fromTo 85 = .ok (.dload 8, 2) := by decide +kernel
theorem dX12_fromTo_87 : decode cX12_fromTo 87 = .ok (.dmul, 1) := by decide +kernel
theorem dX12_fromTo_88 : decode cX12_fromTo 88 = .ok (.dload 8, 2) := by decide +kernel
theorem dX12_fromTo_90 : decode cX12_fromTo 90 = .ok (.dmul, 1) := by decide +kernel
theorem dX12_fromTo_91 : decode cX12_fromTo 91 = .ok (.dadd, 1) := by decide +kernel
theorem dX12_fromTo_92 : decode cX12_fromTo 92 = .ok (.dreturn, 1) := by decide +kernel
set_option maxRecDepth 20000 in
theorem ggX12_colour_X12_placeOf : GoodIn wsX12_colour wsX12_placeOf := goodIn_r _ [6, 7, 8, 9, 10, 11, 12, 13, 14, 5, 15, 52, 53, 54, 55, 56, 57, 58, 59, 60, 61, 62, 63, 64, 65, 66, 67, 68, 69, 70, 71, 72, 73, 74, 75, 76, 77, 78, 79, 80, 81, 82, 83, 84, 85, 86, 87, 88, 89, 90, 91, 92, 93, 94, 95, 96, 97, 98, 99, 100, 101, 102, 103, 104, 105, 106, 107, 108, 109, 110, 111, 112, 113, 114, 115, 116, 117, 118, 119, 120, 121, 122, 123, 124, 125, 126, 127] (by decide +kernel) (by decide +kernel)
set_option maxRecDepth 20000 in
theorem gX12_colour_X12_placeOf : GoodIn wsX12_colour (wsV RX12 227 RX12 yX12_placeOf wsX12_placeOf) := goodIn_app (goodIn_of _ (by decide +kernel)) ggX12_colour_X12_placeOf
set_option maxRecDepth 20000 in
theorem ggX12_colour_X12_is : GoodIn wsX12_colour wsX12_is := goodIn_r _ [15] (by decide +kernel) (by decide +kernel)
set_option maxRecDepth 20000 in
theorem gX12_colour_X12_is : GoodIn wsX12_colour (wsV RX12 186 RX12 yX12_is wsX12_is) := goodIn_app (goodIn_of _ (by decide +kernel)) ggX12_colour_X12_is
set_option maxRecDepth 20000 in
theorem ggX12_colour_X12_colourOf : GoodIn wsX12_colour wsX12_colourOf := goodIn_r _ [19, 20, 21, 22, 23, 24, 5, 25, 26, 27, 28, 29, 30, 31, 32, 33, 34, 35, 36, 37, 38, 39, 40, 41, 42, 43, 44, 45, 46, 47, 48, 49, 50, 51, 52, 53, 54, 55, 56, 57, 58, 59, 60, 61, 62, 63, 64, 65, 66, 67, 68, 69, 70, 71, 72, 73, 74, 75, 76, 77, 78, 79, 80, 81, 82, 83, 84, 85, 86, 87, 88, 89, 90, 91, 92, 93, 94, 95, 96, 97, 98, 99, 100, 101, 102, 103, 104, 105, 106, 107, 108, 109, 110, 111, 112, 113, 114, 115, 116, 117, 118, 119, 120, 121, 122, 123, 124, 125, 126, 127] (by decide +kernel) (by decide +kernel)
set_option maxRecDepth 20000 in
theorem gX12_colour_X12_colourOf : GoodIn wsX12_colour (wsV RX12 290 RX12 yX12_colourOf wsX12_colourOf) := goodIn_app (goodIn_of _ (by decide +kernel)) ggX12_colour_X12_colourOf
set_option maxRecDepth 20000 in
theorem ggX12_colour_Jxe99ae_doubleToLongBits_ccdee : GoodIn wsX12_colour wsJxe99ae_doubleToLongBits_ccdee := goodIn_r _ [44, 45, 46, 47, 40, 48, 49, 50, 43, 51] (by decide +kernel) (by decide +kernel)
set_option maxRecDepth 20000 in
theorem gX12_colour_Jxe99ae_doubleToLongBits_ccdee : GoodIn wsX12_colour (va_wsS RX12 250 yJxe99ae_doubleToLongBits_ccdee wsJxe99ae_doubleToLongBits_ccdee) := goodIn_app (goodIn_of _ (by decide +kernel)) ggX12_colour_Jxe99ae_doubleToLongBits_ccdee
theorem dX12_colour_0 : decode cX12_colour 0 = .ok (.aload_n 0, 1) := by decide +kernel
theorem dX12_colour_1 : decode cX12_colour 1 = .ok (.iconst 0, 1) := by decide +kernel
theorem dX12_colour_2 : decode cX12_colour 2 = .ok (.putfield 149, 3) := by decide +kernel
theorem dX12_colour_5 : decode cX12_colour 5 = .ok (.aload_n 0, 1) := by decide +kernel
theorem dX12_colour_6 : decode cX12_colour 6 = .ok (.iload_n 1, 1) := by decide +kernel
theorem dX12_colour_7 : decode cX12_colour 7 = .ok (.iload_n 2, 1) := by decide +kernel
theorem dX12_colour_8 : decode cX12_colour 8 = .ok (.invokevirtual 227, 3) := by decide +kernel
theorem dX12_colour_11 : decode cX12_colour 11 = .ok (.istore 6, 2) := by decide +kernel
theorem dX12_colour_13 : decode cX12_colour 13 = .ok (.iload 6, 2) := by decide +kernel
theorem dX12_colour_15 : decode cX12_colour 15 = .ok (.iconst (-1), 1) := by decide +kernel
theorem dX12_colour_16 : decode cX12_colour 16 = .ok (.if_icmp .eq 33, 3) := by decide +kernel
theorem dX12_colour_19 : decode cX12_colour 19 = .ok (.aload_n 0, 1) := by decide +kernel
theorem dX12_colour_20 : decode cX12_colour 20 = .ok (.iload_n 3, 1) := by decide +kernel
theorem dX12_colour_21 : decode cX12_colour 21 = .ok (.bipush 6, 2) := by decide +kernel
theorem dX12_colour_23 : decode cX12_colour 23 = .ok (.invokevirtual 186, 3) := by decide +kernel
theorem dX12_colour_26 : decode cX12_colour 26 = .ok (.ifCond .eq 23, 3) := by decide +kernel
theorem dX12_colour_29 : decode cX12_colour 29 = .ok (.aload_n 0, 1) := by decide +kernel
theorem dX12_colour_30 : decode cX12_colour 30 = .ok (.iload 4, 2) := by decide +kernel
theorem dX12_colour_32 : decode cX12_colour 32 = .ok (.iconst 2, 1) := by decide +kernel
theorem dX12_colour_33 : decode cX12_colour 33 = .ok (.invokevirtual 186, 3) := by decide +kernel
theorem dX12_colour_36 : decode cX12_colour 36 = .ok (.ifCond .eq 13, 3) := by decide +kernel
theorem dX12_colour_39 : decode cX12_colour 39 = .ok (.aload_n 0, 1) := by decide +kernel
theorem dX12_colour_40 : decode cX12_colour 40 = .ok (.iload 5, 2) := by decide +kernel
theorem dX12_colour_42 : decode cX12_colour 42 = .ok (.iconst 3, 1) := by decide +kernel
theorem dX12_colour_43 : decode cX12_colour 43 = .ok (.invokevirtual 186, 3) := by decide +kernel
theorem dX12_colour_46 : decode cX12_colour 46 = .ok (.ifCond .ne 5, 3) := by decide +kernel
theorem dX12_colour_49 : decode cX12_colour 49 = .ok (.lconst 0, 1) := by decide +kernel
theorem dX12_colour_50 : decode cX12_colour 50 = .ok (.lreturn, 1) := by decide +kernel
theorem dX12_colour_51 : decode cX12_colour 51 = .ok (.aload_n 0, 1) := by decide +kernel
theorem dX12_colour_52 : decode cX12_colour 52 = .ok (.iload 6, 2) := by decide +kernel
theorem dX12_colour_54 : decode cX12_colour 54 = .ok (.iload_n 3, 1) := by decide +kernel
theorem dX12_colour_55 : decode cX12_colour 55 = .ok (.iload 4, 2) := by decide +kernel
theorem dX12_colour_57 : decode cX12_colour 57 = .ok (.iload 5, 2) := by decide +kernel
theorem dX12_colour_59 : decode cX12_colour 59 = .ok (.invokevirtual 290, 3) := by decide +kernel
theorem dX12_colour_62 : decode cX12_colour 62 = .ok (.invokestatic 250, 3) := by decide +kernel
theorem dX12_colour_65 : decode cX12_colour 65 = .ok (.lreturn, 1) := by decide +kernel
set_option maxRecDepth 20000 in
theorem ggX12_distance_X12_is : GoodIn wsX12_distance wsX12_is := goodIn_r _ [8] (by decide +kernel) (by decide +kernel)
set_option maxRecDepth 20000 in
theorem gX12_distance_X12_is : GoodIn wsX12_distance (wsV RX12 186 RX12 yX12_is wsX12_is) := goodIn_app (goodIn_of _ (by decide +kernel)) ggX12_distance_X12_is
set_option maxRecDepth 20000 in
theorem ggX12_distance_X12_goalIs : GoodIn wsX12_distance wsX12_goalIs := goodIn_r _ [12, 13, 14, 15, 16, 7, 17, 18, 19, 20, 21, 22, 23, 24, 25, 26, 27, 28, 29, 30, 31, 32, 33, 34, 35, 36, 37, 38, 39, 40, 41, 42, 43, 44, 45, 46, 47, 48, 49, 55, 56, 57, 58, 59, 60, 61, 62, 63, 64, 65, 66, 67, 68, 69, 70, 71, 72, 73, 74, 75, 76, 77, 78, 79, 80, 81, 82, 83, 84, 85, 86, 87, 88, 89, 90, 91, 92, 93, 94, 95, 96, 97, 98, 99, 100, 101, 102, 103, 104, 105, 106, 107, 108, 109, 110, 111, 112, 113, 114, 115, 116, 117, 118, 119, 120, 121, 122, 123, 124, 125, 126, 127, 128, 129, 130] (by decide +kernel) (by decide +kernel)
set_option maxRecDepth 20000 in
theorem gX12_distance_X12_goalIs : GoodIn wsX12_distance (wsV RX12 295 RX12 yX12_goalIs wsX12_goalIs) := goodIn_app (goodIn_of _ (by decide +kernel)) ggX12_distance_X12_goalIs
set_option maxRecDepth 20000 in
theorem ggX12_distance_X12_fromTo : GoodIn wsX12_distance wsX12_fromTo := goodIn_r _ [53, 13, 54, 14, 15, 16, 7, 17, 18, 19, 20, 21, 22, 23, 24, 25, 26, 27, 28, 29, 30, 31, 32, 33, 34, 35, 36, 37, 38, 39, 40, 41, 42, 43, 44, 45, 46, 47, 48, 49, 55, 56, 57, 58, 59, 60, 61, 62, 63, 64, 65, 66, 67, 68, 69, 70, 71, 72, 73, 74, 75, 76, 77, 78, 79, 80, 81, 82, 83, 84, 85, 86, 87, 88, 89, 90, 91, 92, 93, 94, 95, 96, 97, 98, 99, 100, 101, 102, 103, 104, 105, 106, 107, 108, 109, 110, 111, 112, 113, 114, 115, 116, 117, 118, 119, 120, 121, 122, 123, 124, 125, 126, 127, 128, 129, 130] (by decide +kernel) (by decide +kernel)
set_option maxRecDepth 20000 in
theorem gX12_distance_X12_fromTo : GoodIn wsX12_distance (wsV RX12 298 RX12 yX12_fromTo wsX12_fromTo) := goodIn_app (goodIn_of _ (by decide +kernel)) ggX12_distance_X12_fromTo
set_option maxRecDepth 20000 in
theorem ggX12_distance_Jxe99ae_doubleToLongBits_ccdee : GoodIn wsX12_distance wsJxe99ae_doubleToLongBits_ccdee := goodIn_r _ [42, 43, 44, 45, 38, 46, 47, 48, 41, 49] (by decide +kernel) (by decide +kernel)
set_option maxRecDepth 20000 in
theorem gX12_distance_Jxe99ae_doubleToLongBits_ccdee : GoodIn wsX12_distance (va_wsS RX12 250 yJxe99ae_doubleToLongBits_ccdee wsJxe99ae_doubleToLongBits_ccdee) := goodIn_app (goodIn_of _ (by decide +kernel)) ggX12_distance_Jxe99ae_doubleToLongBits_ccdee
theorem dX12_distance_0 : decode cX12_distance 0 = .ok (.aload_n 0, 1) := by decide +kernel
theorem dX12_distance_1 : decode cX12_distance 1 = .ok (.iconst 0, 1) := by decide +kernel
theorem dX12_distance_2 : decode cX12_distance 2 = .ok (.putfield 149, 3) := by decide +kernel
theorem dX12_distance_5 : decode cX12_distance 5 = .ok (.aload_n 0, 1) := by decide +kernel
theorem dX12_distance_6 : decode cX12_distance 6 = .ok (.iload_n 1, 1) := by decide +kernel
theorem dX12_distance_7 : decode cX12_distance 7 = .ok (.aload_n 0, 1) := by decide +kernel
theorem dX12_distance_8 : decode cX12_distance 8 = .ok (.getfield 160, 3) := by decide +kernel
theorem dX12_distance_11 : decode cX12_distance 11 = .ok (.invokevirtual 186, 3) := by decide +kernel
theorem dX12_distance_14 : decode cX12_distance 14 = .ok (.ifCond .eq 35, 3) := by decide +kernel
theorem dX12_distance_17 : decode cX12_distance 17 = .ok (.aload_n 0, 1) := by decide +kernel
theorem dX12_distance_18 : decode cX12_distance 18 = .ok (.iload_n 2, 1) := by decide +kernel
theorem dX12_distance_19 : decode cX12_distance 19 = .ok (.aload_n 0, 1) := by decide +kernel
theorem dX12_distance_20 : decode cX12_distance 20 = .ok (.getfield 160, 3) := by decide +kernel
theorem dX12_distance_23 : decode cX12_distance 23 = .ok (.invokevirtual 186, 3) := by decide +kernel
theorem dX12_distance_26 : decode cX12_distance 26 = .ok (.ifCond .eq 23, 3) := by decide +kernel
theorem dX12_distance_29 : decode cX12_distance 29 = .ok (.aload_n 0, 1) := by decide +kernel
theorem dX12_distance_30 : decode cX12_distance 30 = .ok (.iload_n 3, 1) := by decide +kernel
theorem dX12_distance_31 : decode cX12_distance 31 = .ok (.bipush 6, 2) := by decide +kernel
theorem dX12_distance_33 : decode cX12_distance 33 = .ok (.invokevirtual 186, 3) := by decide +kernel
theorem dX12_distance_36 : decode cX12_distance 36 = .ok (.ifCond .eq 13, 3) := by decide +kernel
theorem dX12_distance_39 : decode cX12_distance 39 = .ok (.aload_n 0, 1) := by decide +kernel
theorem dX12_distance_40 : decode cX12_distance 40 = .ok (.iload 4, 2) := by decide +kernel
theorem dX12_distance_42 : decode cX12_distance 42 = .ok (.iconst 2, 1) := by decide +kernel
theorem dX12_distance_43 : decode cX12_distance 43 = .ok (.invokevirtual 186, 3) := by decide +kernel
theorem dX12_distance_46 : decode cX12_distance 46 = .ok (.ifCond .ne 7, 3) := by decide +kernel
theorem dX12_distance_49 : decode cX12_distance 49 = .ok (.ldc2_w 293, 3) := by decide +kernel
theorem dX12_distance_52 : decode cX12_distance 52 = .ok (.lreturn, 1) := by decide +kernel
theorem dX12_distance_53 : decode cX12_distance 53 = .ok (.aload_n 0, 1) := by decide +kernel
theorem dX12_distance_54 : decode cX12_distance 54 = .ok (.iconst 1, 1) := by decide +kernel
theorem dX12_distance_55 : decode cX12_distance 55 = .ok (.iload_n 2, 1) := by decide +kernel
theorem dX12_distance_56 : decode cX12_distance 56 = .ok (.iadd, 1) := by decide +kernel
theorem dX12_distance_57 : decode cX12_distance 57 = .ok (.iload_n 3, 1) := by decide +kernel
theorem dX12_distance_58 : decode cX12_distance 58 = .ok (.iload 4, 2) := by decide +kernel
theorem dX12_distance_60 : decode cX12_distance 60 = .ok (.invokevirtual 295, 3) := by decide +kernel
theorem dX12_distance_63 : decode cX12_distance 63 = .ok (.aload_n 0, 1) := by decide +kernel
theorem dX12_distance_64 : decode cX12_distance 64 = .ok (.iconst 1, 1) := by decide +kernel
theorem dX12_distance_65 : decode cX12_distance 65 = .ok (.iload_n 1, 1) := by decide +kernel
theorem dX12_distance_66 : decode cX12_distance 66 = .ok (.iadd, 1) := by decide +kernel
theorem dX12_distance_67 : decode cX12_distance 67 = .ok (.iload_n 3, 1) := by decide +kernel
theorem dX12_distance_68 : decode cX12_distance 68 = .ok (.iload 4, 2) := by decide +kernel
theorem dX12_distance_70 : decode cX12_distance 70 = .ok (.invokevirtual 298, 3) := by decide +kernel
theorem dX12_distance_73 : decode cX12_distance 73 = .ok (.invokestatic 250, 3) := by decide +kernel
theorem dX12_distance_76 : decode cX12_distance 76 = .ok (.lreturn, 1) := by decide +kernel
set_option maxRecDepth 20000 in
theorem ggX12_nearest_X12_is : GoodIn wsX12_nearest wsX12_is := goodIn_r _ [9] (by decide +kernel) (by decide +kernel)
set_option maxRecDepth 20000 in
theorem gX12_nearest_X12_is : GoodIn wsX12_nearest (wsV RX12 186 RX12 yX12_is wsX12_is) := goodIn_app (goodIn_of _ (by decide +kernel)) ggX12_nearest_X12_is
set_option maxRecDepth 20000 in
theorem ggX12_nearest_X12_goalIs : GoodIn wsX12_nearest wsX12_goalIs := goodIn_r _ [13, 14, 15, 16, 17, 8, 18, 19, 20, 21, 22, 23, 24, 25, 26, 27, 28, 29, 30, 31, 32, 33, 34, 35, 36, 37, 38, 39, 40, 41, 42, 43, 44, 45, 46, 47, 48, 49, 50, 56, 57, 58, 59, 60, 61, 62, 63, 64, 65, 66, 67, 68, 69, 70, 71, 72, 73, 74, 75, 76, 77, 78, 79, 80, 81, 82, 83, 84, 85, 86, 87, 88, 89, 90, 91, 92, 93, 94, 95, 96, 97, 98, 99, 100, 101, 102, 103, 104, 105, 106, 107, 108, 109, 110, 111, 112, 113, 114, 115, 116, 117, 118, 119, 120, 121, 122, 123, 124, 125, 126, 127, 128, 129, 130, 131] (by decide +kernel) (by decide +kernel)
set_option maxRecDepth 20000 in
theorem gX12_nearest_X12_goalIs : GoodIn wsX12_nearest (wsV RX12 295 RX12 yX12_goalIs wsX12_goalIs) := goodIn_app (goodIn_of _ (by decide +kernel)) ggX12_nearest_X12_goalIs
set_option maxRecDepth 20000 in
theorem ggX12_nearest_X12_fromTo : GoodIn wsX12_nearest wsX12_fromTo := goodIn_r _ [54, 14, 55, 15, 16, 17, 8, 18, 19, 20, 21, 22, 23, 24, 25, 26, 27, 28, 29, 30, 31, 32, 33, 34, 35, 36, 37, 38, 39, 40, 41, 42, 43, 44, 45, 46, 47, 48, 49, 50, 56, 57, 58, 59, 60, 61, 62, 63, 64, 65, 66, 67, 68, 69, 70, 71, 72, 73, 74, 75, 76, 77, 78, 79, 80, 81, 82, 83, 84, 85, 86, 87, 88, 89, 90, 91, 92, 93, 94, 95, 96, 97, 98, 99, 100, 101, 102, 103, 104, 105, 106, 107, 108, 109, 110, 111, 112, 113, 114, 115, 116, 117, 118, 119, 120, 121, 122, 123, 124, 125, 126, 127, 128, 129, 130, 131] (by decide +kernel) (by decide +kernel)
set_option maxRecDepth 20000 in
theorem gX12_nearest_X12_fromTo : GoodIn wsX12_nearest (wsV RX12 298 RX12 yX12_fromTo wsX12_fromTo) := goodIn_app (goodIn_of _ (by decide +kernel)) ggX12_nearest_X12_fromTo
theorem dX12_nearest_0 : decode cX12_nearest 0 = .ok (.aload_n 0, 1) := by decide +kernel
theorem dX12_nearest_1 : decode cX12_nearest 1 = .ok (.iconst 0, 1) := by decide +kernel
theorem dX12_nearest_2 : decode cX12_nearest 2 = .ok (.putfield 149, 3) := by decide +kernel
theorem dX12_nearest_5 : decode cX12_nearest 5 = .ok (.aload_n 0, 1) := by decide +kernel
theorem dX12_nearest_6 : decode cX12_nearest 6 = .ok (.getfield 219, 3) := by decide +kernel
theorem dX12_nearest_9 : decode cX12_nearest 9 = .ok (.ifCond .eq 34, 3) := by decide +kernel
theorem dX12_nearest_12 : decode cX12_nearest 12 = .ok (.aload_n 0, 1) := by decide +kernel
theorem dX12_nearest_13 : decode cX12_nearest 13 = .ok (.iload_n 1, 1) := by decide +kernel
theorem dX12_nearest_14 : decode cX12_nearest 14 = .ok (.bipush 6, 2) := by decide +kernel
theorem dX12_nearest_16 : decode cX12_nearest 16 = .ok (.invokevirtual 186, 3) := by decide +kernel
theorem dX12_nearest_19 : decode cX12_nearest 19 = .ok (.ifCond .eq 24, 3) := by decide +kernel
theorem dX12_nearest_22 : decode cX12_nearest 22 = .ok (.aload_n 0, 1) := by decide +kernel
theorem dX12_nearest_23 : decode cX12_nearest 23 = .ok (.iload_n 2, 1) := by decide +kernel
theorem dX12_nearest_24 : decode cX12_nearest 24 = .ok (.iconst 2, 1) := by decide +kernel
theorem dX12_nearest_25 : decode cX12_nearest 25 = .ok (.invokevirtual 186, 3) := by decide +kernel
theorem dX12_nearest_28 : decode cX12_nearest 28 = .ok (.ifCond .eq 15, 3) := by decide +kernel
theorem dX12_nearest_31 : decode cX12_nearest 31 = .ok (.aload_n 0, 1) := by decide +kernel
theorem dX12_nearest_32 : decode cX12_nearest 32 = .ok (.iload_n 3, 1) := by decide +kernel
theorem dX12_nearest_33 : decode cX12_nearest 33 = .ok (.aload_n 0, 1) := by decide +kernel
theorem dX12_nearest_34 : decode cX12_nearest 34 = .ok (.getfield 160, 3) := by decide +kernel
theorem dX12_nearest_37 : decode cX12_nearest 37 = .ok (.invokevirtual 186, 3) := by decide +kernel
theorem dX12_nearest_40 : decode cX12_nearest 40 = .ok (.ifCond .ne 5, 3) := by decide +kernel
theorem dX12_nearest_43 : decode cX12_nearest 43 = .ok (.iconst (-1), 1) := by decide +kernel
theorem dX12_nearest_44 : decode cX12_nearest 44 = .ok (.ireturn, 1) := by decide +kernel
theorem dX12_nearest_45 : decode cX12_nearest 45 = .ok (.aload_n 0, 1) := by decide +kernel
theorem dX12_nearest_46 : decode cX12_nearest 46 = .ok (.bipush 49, 2) := by decide +kernel
theorem dX12_nearest_48 : decode cX12_nearest 48 = .ok (.iload_n 1, 1) := by decide +kernel
theorem dX12_nearest_49 : decode cX12_nearest 49 = .ok (.iload_n 2, 1) := by decide +kernel
theorem dX12_nearest_50 : decode cX12_nearest 50 = .ok (.invokevirtual 295, 3) := by decide +kernel
theorem dX12_nearest_53 : decode cX12_nearest 53 = .ok (.iconst 0, 1) := by decide +kernel
theorem dX12_nearest_54 : decode cX12_nearest 54 = .ok (.istore 4, 2) := by decide +kernel
theorem dX12_nearest_56 : decode cX12_nearest 56 = .ok (.iload 4, 2) := by decide +kernel
theorem dX12_nearest_58 : decode cX12_nearest 58 = .ok (.aload_n 0, 1) := by decide +kernel
theorem dX12_nearest_59 : decode cX12_nearest 59 = .ok (.getfield 160, 3) := by decide +kernel
theorem dX12_nearest_62 : decode cX12_nearest 62 = .ok (.if_icmp .ge 26, 3) := by decide +kernel
theorem dX12_nearest_65 : decode cX12_nearest 65 = .ok (.aload_n 0, 1) := by decide +kernel
theorem dX12_nearest_66 : decode cX12_nearest 66 = .ok (.getfield 118, 3) := by decide +kernel
theorem dX12_nearest_69 : decode cX12_nearest 69 = .ok (.iload 4, 2) := by decide +kernel
theorem dX12_nearest_71 : decode cX12_nearest 71 = .ok (.aload_n 0, 1) := by decide +kernel
theorem dX12_nearest_72 : decode cX12_nearest 72 = .ok (.iconst 1, 1) := by decide +kernel
theorem dX12_nearest_73 : decode cX12_nearest 73 = .ok (.iload 4, 2) := by decide +kernel
theorem dX12_nearest_75 : decode cX12_nearest 75 = .ok (.iadd, 1) := by decide +kernel
theorem dX12_nearest_76 : decode cX12_nearest 76 = .ok (.iload_n 1, 1) := by decide +kernel
theorem dX12_nearest_77 : decode cX12_nearest 77 = .ok (.iload_n 2, 1) := by decide +kernel
theorem dX12_nearest_78 : decode cX12_nearest 78 = .ok (.invokevirtual 298, 3) := by decide +kernel
theorem dX12_nearest_81 : decode cX12_nearest 81 = .ok (.dastore, 1) := by decide +kernel
theorem dX12_nearest_82 : decode cX12_nearest 82 = .ok (.iinc 4 1, 3) := by decide +kernel
theorem dX12_nearest_85 : decode cX12_nearest 85 = .ok (.goto (-29), 3) := by decide +kernel
theorem dX12_nearest_88 : decode cX12_nearest 88 = .ok (.iconst 0, 1) := by decide +kernel
theorem dX12_nearest_89 : decode cX12_nearest 89 = .ok (.istore 4, 2) := by decide +kernel
theorem dX12_nearest_91 : decode cX12_nearest 91 = .ok (.iload 4, 2) := by decide +kernel
theorem dX12_nearest_93 : decode cX12_nearest 93 = .ok (.aload_n 0, 1) := by decide +kernel
theorem dX12_nearest_94 : decode cX12_nearest 94 = .ok (.getfield 160, 3) := by decide +kernel
theorem dX12_nearest_97 : decode cX12_nearest 97 = .ok (.if_icmp .ge 92, 3) := by decide +kernel
theorem dX12_nearest_100 : decode cX12_nearest 100 = .ok (.iconst 0, 1) := by decide +kernel
theorem dX12_nearest_101 : decode cX12_nearest 101 = .ok (.istore 5, 2) := by decide +kernel
theorem dX12_nearest_103 : decode cX12_nearest 103 = .ok (.iconst 0, 1) := by decide +kernel
theorem dX12_nearest_104 : decode cX12_nearest 104 = .ok (.istore 6, 2) := by decide +kernel
theorem dX12_nearest_106 : decode cX12_nearest 106 = .ok (.iload 6, 2) := by decide +kernel
theorem dX12_nearest_108 : decode cX12_nearest 108 = .ok (.aload_n 0, 1) := by decide +kernel
theorem dX12_nearest_109 : decode cX12_nearest 109 = .ok (.getfield 160, 3) := by decide +kernel
theorem dX12_nearest_112 : decode cX12_nearest 112 = .ok (.if_icmp .ge 62, 3) := by decide +kernel
theorem dX12_nearest_115 : decode cX12_nearest 115 = .ok (.iload 5, 2) := by decide +kernel
theorem dX12_nearest_117 : decode cX12_nearest 117 = .ok (.aload_n 0, 1) := by decide +kernel
theorem dX12_nearest_118 : decode cX12_nearest 118 = .ok (.getfield 118, 3) := by decide +kernel
theorem dX12_nearest_121 : decode cX12_nearest 121 = .ok (.iload 6, 2) := by decide +kernel
theorem dX12_nearest_123 : decode cX12_nearest 123 = .ok (.daload, 1) := by decide +kernel
theorem dX12_nearest_124 : decode cX12_nearest 124 = .ok (.aload_n 0, 1) := by decide +kernel
theorem dX12_nearest_125 : decode cX12_nearest 125 = .ok (.getfield 118, 3) := by decide +kernel
theorem dX12_nearest_128 : decode cX12_nearest 128 = .ok (.iload 4, 2) := by decide +kernel
theorem dX12_nearest_130 : decode cX12_nearest 130 = .ok (.daload, 1) := by decide +kernel
theorem dX12_nearest_131 : decode cX12_nearest 131 = .ok (.dcmp .g, 1) := by decide +kernel
theorem dX12_nearest_132 : decode cX12_nearest 132 = .ok (.ifCond .lt 28, 3) := by decide +kernel
theorem dX12_nearest_135 : decode cX12_nearest 135 = .ok (.aload_n 0, 1) := by decide +kernel
theorem dX12_nearest_136 : decode cX12_nearest 136 = .ok (.getfield 118, 3) := by decide +kernel
theorem dX12_nearest_139 : decode cX12_nearest 139 = .ok (.iload 6, 2) := by decide +kernel
theorem dX12_nearest_141 : decode cX12_nearest 141 = .ok (.daload, 1) := by decide +kernel
theorem dX12_nearest_142 : decode cX12_nearest 142 = .ok (.aload_n 0, 1) := by decide +kernel
theorem dX12_nearest_143 : decode cX12_nearest 143 = .ok (.getfield 118, 3) := by decide +kernel
theorem dX12_nearest_146 : decode cX12_nearest 146 = .ok (.iload 4, 2) := by decide +kernel
theorem dX12_nearest_148 : decode cX12_nearest 148 = .ok (.daload, 1) := by decide +kernel
theorem dX12_nearest_149 : decode cX12_nearest 149 = .ok (.dcmp .l, 1) := by decide +kernel
theorem dX12_nearest_150 : decode cX12_nearest 150 = .ok (.ifCond .ne 14, 3) := by decide +kernel
theorem dX12_nearest_153 : decode cX12_nearest 153 = .ok (.iload 6, 2) := by decide +kernel
theorem dX12_nearest_155 : decode cX12_nearest 155 = .ok (.iload 4, 2) := by decide +kernel
theorem dX12_nearest_157 : decode cX12_nearest 157 = .ok (.if_icmp .ge 7, 3) := by decide +kernel
theorem dX12_nearest_160 : decode cX12_nearest 160 = .ok (.iconst 1, 1) := by decide +kernel
theorem dX12_nearest_161 : decode cX12_nearest 161 = .ok (.goto 4, 3) := by decide +kernel
theorem dX12_nearest_164 : decode cX12_nearest 164 = .ok (.iconst 0, 1) := by decide +kernel
theorem dX12_nearest_165 : decode cX12_nearest 165 = .ok (.iadd, 1) := by decide +kernel
theorem dX12_nearest_166 : decode cX12_nearest 166 = .ok (.istore 5, 2) := by decide +kernel
theorem dX12_nearest_168 : decode cX12_nearest 168 = .ok (.iinc 6 1, 3) := by decide +kernel
theorem dX12_nearest_171 : decode cX12_nearest 171 = .ok (.goto (-65), 3) := by decide +kernel
theorem dX12_nearest_174 : decode cX12_nearest 174 = .ok (.iload 5, 2) := by decide +kernel
theorem dX12_nearest_176 : decode cX12_nearest 176 = .ok (.iload_n 3, 1) := by decide +kernel
theorem dX12_nearest_177 : decode cX12_nearest 177 = .ok (.if_icmp .ne 6, 3) := by decide +kernel
theorem dX12_nearest_180 : decode cX12_nearest 180 = .ok (.iload 4, 2) := by decide +kernel
theorem dX12_nearest_182 : decode cX12_nearest 182 = .ok (.ireturn, 1) := by decide +kernel
theorem dX12_nearest_183 : decode cX12_nearest 183 = .ok (.iinc 4 1, 3) := by decide +kernel
theorem dX12_nearest_186 : decode cX12_nearest 186 = .ok (.goto (-95), 3) := by decide +kernel
theorem dX12_nearest_189 : decode cX12_nearest 189 = .ok (.iconst (-1), 1) := by decide +kernel
theorem dX12_nearest_190 : decode cX12_nearest 190 = .ok (.ireturn, 1) := by decide +kernel
set_option maxRecDepth 20000 in
theorem ggX12_parting_X12_is : GoodIn wsX12_parting wsX12_is := goodIn_r _ [8] (by decide +kernel) (by decide +kernel)
set_option maxRecDepth 20000 in
theorem gX12_parting_X12_is : GoodIn wsX12_parting (wsV RX12 186 RX12 yX12_is wsX12_is) := goodIn_app (goodIn_of _ (by decide +kernel)) ggX12_parting_X12_is
set_option maxRecDepth 20000 in
theorem ggX12_parting_X12_goalIs : GoodIn wsX12_parting wsX12_goalIs := goodIn_r _ [12, 13, 14, 15, 16, 7, 17, 18, 19, 20, 21, 22, 23, 24, 25, 26, 27, 28, 29, 30, 31, 32, 33, 34, 35, 36, 37, 38, 39, 40, 41, 42, 43, 44, 45, 46, 47, 48, 49, 55, 56, 57, 58, 59, 60, 61, 62, 63, 64, 65, 66, 67, 68, 69, 70, 71, 72, 73, 74, 75, 76, 77, 78, 79, 80, 81, 82, 83, 84, 85, 86, 87, 88, 89, 90, 91, 92, 93, 94, 95, 96, 97, 98, 99, 100, 101, 102, 103, 104, 105, 106, 107, 108, 109, 110, 111, 112, 113, 114, 115, 116, 117, 118, 119, 120, 121, 122, 123, 124, 125, 126, 127, 128, 129, 130] (by decide +kernel) (by decide +kernel)
set_option maxRecDepth 20000 in
theorem gX12_parting_X12_goalIs : GoodIn wsX12_parting (wsV RX12 295 RX12 yX12_goalIs wsX12_goalIs) := goodIn_app (goodIn_of _ (by decide +kernel)) ggX12_parting_X12_goalIs
set_option maxRecDepth 20000 in
theorem ggX12_parting_X12_fromTo : GoodIn wsX12_parting wsX12_fromTo := goodIn_r _ [53, 13, 54, 14, 15, 16, 7, 17, 18, 19, 20, 21, 22, 23, 24, 25, 26, 27, 28, 29, 30, 31, 32, 33, 34, 35, 36, 37, 38, 39, 40, 41, 42, 43, 44, 45, 46, 47, 48, 49, 55, 56, 57, 58, 59, 60, 61, 62, 63, 64, 65, 66, 67, 68, 69, 70, 71, 72, 73, 74, 75, 76, 77, 78, 79, 80, 81, 82, 83, 84, 85, 86, 87, 88, 89, 90, 91, 92, 93, 94, 95, 96, 97, 98, 99, 100, 101, 102, 103, 104, 105, 106, 107, 108, 109, 110, 111, 112, 113, 114, 115, 116, 117, 118, 119, 120, 121, 122, 123, 124, 125, 126, 127, 128, 129, 130] (by decide +kernel) (by decide +kernel)
set_option maxRecDepth 20000 in
theorem gX12_parting_X12_fromTo : GoodIn wsX12_parting (wsV RX12 298 RX12 yX12_fromTo wsX12_fromTo) := goodIn_app (goodIn_of _ (by decide +kernel)) ggX12_parting_X12_fromTo
theorem dX12_parting_0 : decode cX12_parting 0 = .ok (.aload_n 0, 1) := by decide +kernel
theorem dX12_parting_1 : decode cX12_parting 1 = .ok (.iconst 0, 1) := by decide +kernel
theorem dX12_parting_2 : decode cX12_parting 2 = .ok (.putfield 149, 3) := by decide +kernel
theorem dX12_parting_5 : decode cX12_parting 5 = .ok (.aload_n 0, 1) := by decide +kernel
theorem dX12_parting_6 : decode cX12_parting 6 = .ok (.iload_n 1, 1) := by decide +kernel
theorem dX12_parting_7 : decode cX12_parting 7 = .ok (.aload_n 0, 1) := by decide +kernel
theorem dX12_parting_8 : decode cX12_parting 8 = .ok (.getfield 160, 3) := by decide +kernel
theorem dX12_parting_11 : decode cX12_parting 11 = .ok (.invokevirtual 186, 3) := by decide +kernel
theorem dX12_parting_14 : decode cX12_parting 14 = .ok (.ifCond .eq 24, 3) := by decide +kernel
theorem dX12_parting_17 : decode cX12_parting 17 = .ok (.aload_n 0, 1) := by decide +kernel
theorem dX12_parting_18 : decode cX12_parting 18 = .ok (.iload_n 2, 1) := by decide +kernel
theorem dX12_parting_19 : decode cX12_parting 19 = .ok (.aload_n 0, 1) := by decide +kernel
theorem dX12_parting_20 : decode cX12_parting 20 = .ok (.getfield 160, 3) := by decide +kernel
theorem dX12_parting_23 : decode cX12_parting 23 = .ok (.invokevirtual 186, 3) := by decide +kernel
theorem dX12_parting_26 : decode cX12_parting 26 = .ok (.ifCond .eq 12, 3) := by decide +kernel
theorem dX12_parting_29 : decode cX12_parting 29 = .ok (.aload_n 0, 1) := by decide +kernel
theorem dX12_parting_30 : decode cX12_parting 30 = .ok (.iload_n 3, 1) := by decide +kernel
theorem dX12_parting_31 : decode cX12_parting 31 = .ok (.iconst 2, 1) := by decide +kernel
theorem dX12_parting_32 : decode cX12_parting 32 = .ok (.invokevirtual 186, 3) := by decide +kernel
theorem dX12_parting_35 : decode cX12_parting 35 = .ok (.ifCond .ne 5, 3) := by decide +kernel
theorem dX12_parting_38 : decode cX12_parting 38 = .ok (.iconst (-1), 1) := by decide +kernel
theorem dX12_parting_39 : decode cX12_parting 39 = .ok (.ireturn, 1) := by decide +kernel
theorem dX12_parting_40 : decode cX12_parting 40 = .ok (.iconst 0, 1) := by decide +kernel
theorem dX12_parting_41 : decode cX12_parting 41 = .ok (.istore 4, 2) := by decide +kernel
theorem dX12_parting_43 : decode cX12_parting 43 = .ok (.ldc2_w 301, 3) := by decide +kernel
theorem dX12_parting_46 : decode cX12_parting 46 = .ok (.dstore 5, 2) := by decide +kernel
theorem dX12_parting_48 : decode cX12_parting 48 = .ok (.iconst 0, 1) := by decide +kernel
theorem dX12_parting_49 : decode cX12_parting 49 = .ok (.istore 7, 2) := by decide +kernel
theorem dX12_parting_51 : decode cX12_parting 51 = .ok (.iload 7, 2) := by decide +kernel
theorem dX12_parting_53 : decode cX12_parting 53 = .ok (.bipush 6, 2) := by decide +kernel
theorem dX12_parting_55 : decode cX12_parting 55 = .ok (.if_icmp .ge 50, 3) := by decide +kernel
theorem dX12_parting_58 : decode cX12_parting 58 = .ok (.aload_n 0, 1) := by decide +kernel
theorem dX12_parting_59 : decode cX12_parting 59 = .ok (.iconst 1, 1) := by decide +kernel
theorem dX12_parting_60 : decode cX12_parting 60 = .ok (.iload_n 2, 1) := by decide +kernel
theorem dX12_parting_61 : decode cX12_parting 61 = .ok (.iadd, 1) := by decide +kernel
theorem dX12_parting_62 : decode cX12_parting 62 = .ok (.iload 7, 2) := by decide +kernel
theorem dX12_parting_64 : decode cX12_parting 64 = .ok (.iload_n 3, 1) := by decide +kernel
theorem dX12_parting_65 : decode cX12_parting 65 = .ok (.invokevirtual 295, 3) := by decide +kernel
theorem dX12_parting_68 : decode cX12_parting 68 = .ok (.aload_n 0, 1) := by decide +kernel
theorem dX12_parting_69 : decode cX12_parting 69 = .ok (.iconst 1, 1) := by decide +kernel
theorem dX12_parting_70 : decode cX12_parting 70 = .ok (.iload_n 1, 1) := by decide +kernel
theorem dX12_parting_71 : decode cX12_parting 71 = .ok (.iadd, 1) := by decide +kernel
theorem dX12_parting_72 : decode cX12_parting 72 = .ok (.iload 7, 2) := by decide +kernel
theorem dX12_parting_74 : decode cX12_parting 74 = .ok (.iload_n 3, 1) := by decide +kernel
theorem dX12_parting_75 : decode cX12_parting 75 = .ok (.invokevirtual 298, 3) := by decide +kernel
theorem dX12_parting_78 : decode cX12_parting 78 = .ok (.dstore 8, 2) := by decide +kernel
theorem dX12_parting_80 : decode cX12_parting 80 = .ok (.dload 8, 2) := by decide +kernel
theorem dX12_parting_82 : decode cX12_parting 82 = .ok (.dload 5, 2) := by decide +kernel
theorem dX12_parting_84 : decode cX12_parting 84 = .ok (.dcmp .g, 1) := by decide +kernel
theorem dX12_parting_85 : decode cX12_parting 85 = .ok (.ifCond .gt 6, 3) := by decide +kernel
theorem dX12_parting_88 : decode cX12_parting 88 = .ok (.goto 11, 3) := by decide +kernel
theorem dX12_parting_91 : decode cX12_parting 91 = .ok (.dload 8, 2) := by decide +kernel
theorem dX12_parting_93 : decode cX12_parting 93 = .ok (.dstore 5, 2) := by decide +kernel
theorem dX12_parting_95 : decode cX12_parting 95 = .ok (.iload 7, 2) := by decide +kernel
theorem dX12_parting_97 : decode cX12_parting 97 = .ok (.istore 4, 2) := by decide +kernel
theorem dX12_parting_99 : decode cX12_parting 99 = .ok (.iinc 7 1, 3) := by decide +kernel
theorem dX12_parting_102 : decode cX12_parting 102 = .ok (.goto (-51), 3) := by decide +kernel
theorem dX12_parting_105 : decode cX12_parting 105 = .ok (.iload 4, 2) := by decide +kernel
theorem dX12_parting_107 : decode cX12_parting 107 = .ok (.ireturn, 1) := by decide +kernel
theorem dX12_isSize_0 : decode cX12_isSize 0 = .ok (.iload_n 1, 1) := by decide +kernel
theorem dX12_isSize_1 : decode cX12_isSize 1 = .ok (.iconst 1, 1) := by decide +kernel
theorem dX12_isSize_2 : decode cX12_isSize 2 = .ok (.if_icmp .lt 14, 3) := by decide +kernel
theorem dX12_isSize_5 : decode cX12_isSize 5 = .ok (.iload_n 1, 1) := by decide +kernel
theorem dX12_isSize_6 : decode cX12_isSize 6 = .ok (.sipush 1000, 3) := by decide +kernel
theorem dX12_isSize_9 : decode cX12_isSize 9 = .ok (.if_icmp .gt 7, 3) := by decide +kernel
theorem dX12_isSize_12 : decode cX12_isSize 12 = .ok (.iconst 1, 1) := by decide +kernel
theorem dX12_isSize_13 : decode cX12_isSize 13 = .ok (.goto 4, 3) := by decide +kernel
theorem dX12_isSize_16 : decode cX12_isSize 16 = .ok (.iconst 0, 1) := by decide +kernel
theorem dX12_isSize_17 : decode cX12_isSize 17 = .ok (.ireturn, 1) := by decide +kernel
set_option maxRecDepth 20000 in
theorem ggX12_solid_X12_is : GoodIn wsX12_solid wsX12_is := goodIn_r _ [14] (by decide +kernel) (by decide +kernel)
set_option maxRecDepth 20000 in
theorem gX12_solid_X12_is : GoodIn wsX12_solid (wsV RX12 186 RX12 yX12_is wsX12_is) := goodIn_app (goodIn_of _ (by decide +kernel)) ggX12_solid_X12_is
set_option maxRecDepth 20000 in
theorem ggX12_solid_X12_no : GoodIn wsX12_solid wsX12_no := goodIn_r _ [18, 19, 71, 72, 73, 74, 75, 76, 77, 78, 79, 80, 81, 82, 83, 84, 85, 86, 87, 88, 89, 90, 91, 92, 93, 94, 95, 96, 97, 98, 99, 100, 101, 102, 103, 104, 105, 106, 107, 108, 109, 110, 111, 112, 113, 114, 115, 116, 117, 118, 119, 120, 121, 122, 123, 124, 125, 126, 127, 128, 129, 130, 131, 132, 133, 134, 135, 136, 137, 138, 139, 140, 141, 142, 143, 144, 145, 146] (by decide +kernel) (by decide +kernel)
set_option maxRecDepth 20000 in
theorem gX12_solid_X12_no : GoodIn wsX12_solid (wsV RX12 208 RX12 yX12_no wsX12_no) := goodIn_app (goodIn_of _ (by decide +kernel)) ggX12_solid_X12_no
set_option maxRecDepth 20000 in
theorem ggX12_solid_X12_isSize : GoodIn wsX12_solid wsX12_isSize := goodIn_r _ [23] (by decide +kernel) (by decide +kernel)
set_option maxRecDepth 20000 in
theorem gX12_solid_X12_isSize : GoodIn wsX12_solid (wsV RX12 303 RX12 yX12_isSize wsX12_isSize) := goodIn_app (goodIn_of _ (by decide +kernel)) ggX12_solid_X12_isSize
set_option maxRecDepth 20000 in
theorem ggX12_solid_X12_colourOf : GoodIn wsX12_solid wsX12_colourOf := goodIn_r _ [27, 28, 29, 30, 31, 32, 13, 33, 34, 35, 36, 37, 38, 39, 40, 41, 42, 43, 44, 45, 46, 47, 48, 49, 50, 51, 52, 53, 54, 55, 56, 57, 58, 59, 71, 72, 73, 74, 75, 76, 77, 78, 79, 80, 81, 82, 83, 84, 85, 86, 87, 88, 89, 90, 91, 92, 93, 94, 95, 96, 97, 98, 99, 100, 101, 102, 103, 104, 105, 106, 107, 108, 109, 110, 111, 112, 113, 114, 115, 116, 117, 118, 119, 120, 121, 122, 123, 124, 125, 126, 127, 128, 129, 130, 131, 132, 133, 134, 135, 136, 137, 138, 139, 140, 141, 142, 143, 144, 145, 146] (by decide +kernel) (by decide +kernel)
set_option maxRecDepth 20000 in
theorem gX12_solid_X12_colourOf : GoodIn wsX12_solid (wsV RX12 290 RX12 yX12_colourOf wsX12_colourOf) := goodIn_app (goodIn_of _ (by decide +kernel)) ggX12_solid_X12_colourOf
set_option maxRecDepth 20000 in
theorem ggX12_solid_X12_act : GoodIn wsX12_solid wsX12_act := goodIn_r _ [63, 64, 65, 66, 67, 68, 69, 70, 19, 71, 72, 73, 74, 75, 76, 77, 78, 79, 80, 81, 82, 83, 84, 85, 86, 87, 88, 89, 90, 91, 92, 93, 94, 95, 96, 97, 98, 99, 100, 101, 102, 103, 104, 105, 106, 107, 108, 109, 110, 111, 112, 113, 114, 115, 116, 117, 118, 119, 120, 121, 122, 123, 124, 125, 126, 127, 128, 129, 130, 131, 132, 133, 134, 135, 136, 137, 138, 139, 140, 141, 142, 143, 144, 145, 146] (by decide +kernel) (by decide +kernel)
set_option maxRecDepth 20000 in
theorem gX12_solid_X12_act : GoodIn wsX12_solid (wsV RX12 204 RX12 yX12_act wsX12_act) := goodIn_app (goodIn_of _ (by decide +kernel)) ggX12_solid_X12_act
theorem dX12_solid_0 : decode cX12_solid 0 = .ok (.aload_n 0, 1) := by decide +kernel
theorem dX12_solid_1 : decode cX12_solid 1 = .ok (.iconst 0, 1) := by decide +kernel
theorem dX12_solid_2 : decode cX12_solid 2 = .ok (.putfield 149, 3) := by decide +kernel
theorem dX12_solid_5 : decode cX12_solid 5 = .ok (.aload_n 0, 1) := by decide +kernel
theorem dX12_solid_6 : decode cX12_solid 6 = .ok (.iload_n 2, 1) := by decide +kernel
theorem dX12_solid_7 : decode cX12_solid 7 = .ok (.aload_n 0, 1) := by decide +kernel
theorem dX12_solid_8 : decode cX12_solid 8 = .ok (.getfield 160, 3) := by decide +kernel
theorem dX12_solid_11 : decode cX12_solid 11 = .ok (.invokevirtual 186, 3) := by decide +kernel
theorem dX12_solid_14 : decode cX12_solid 14 = .ok (.ifCond .ne 9, 3) := by decide +kernel
theorem dX12_solid_17 : decode cX12_solid 17 = .ok (.aload_n 0, 1) := by decide +kernel
theorem dX12_solid_18 : decode cX12_solid 18 = .ok (.iconst 2, 1) := by decide +kernel
theorem dX12_solid_19 : decode cX12_solid 19 = .ok (.invokevirtual 208, 3) := by decide +kernel
theorem dX12_solid_22 : decode cX12_solid 22 = .ok (.ireturn, 1) := by decide +kernel
theorem dX12_solid_23 : decode cX12_solid 23 = .ok (.aload_n 0, 1) := by decide +kernel
theorem dX12_solid_24 : decode cX12_solid 24 = .ok (.iload_n 1, 1) := by decide +kernel
theorem dX12_solid_25 : decode cX12_solid 25 = .ok (.iconst 2, 1) := by decide +kernel
theorem dX12_solid_26 : decode cX12_solid 26 = .ok (.invokevirtual 186, 3) := by decide +kernel
theorem dX12_solid_29 : decode cX12_solid 29 = .ok (.ifCond .eq 50, 3) := by decide +kernel
theorem dX12_solid_32 : decode cX12_solid 32 = .ok (.aload_n 0, 1) := by decide +kernel
theorem dX12_solid_33 : decode cX12_solid 33 = .ok (.iload 5, 2) := by decide +kernel
theorem dX12_solid_35 : decode cX12_solid 35 = .ok (.invokevirtual 303, 3) := by decide +kernel
theorem dX12_solid_38 : decode cX12_solid 38 = .ok (.ifCond .eq 41, 3) := by decide +kernel
theorem dX12_solid_41 : decode cX12_solid 41 = .ok (.aload_n 0, 1) := by decide +kernel
theorem dX12_solid_42 : decode cX12_solid 42 = .ok (.iload 6, 2) := by decide +kernel
theorem dX12_solid_44 : decode cX12_solid 44 = .ok (.invokevirtual 303, 3) := by decide +kernel
theorem dX12_solid_47 : decode cX12_solid 47 = .ok (.ifCond .eq 32, 3) := by decide +kernel
theorem dX12_solid_50 : decode cX12_solid 50 = .ok (.aload_n 0, 1) := by decide +kernel
theorem dX12_solid_51 : decode cX12_solid 51 = .ok (.iload 7, 2) := by decide +kernel
theorem dX12_solid_53 : decode cX12_solid 53 = .ok (.invokevirtual 303, 3) := by decide +kernel
theorem dX12_solid_56 : decode cX12_solid 56 = .ok (.ifCond .eq 23, 3) := by decide +kernel
theorem dX12_solid_59 : decode cX12_solid 59 = .ok (.aload_n 0, 1) := by decide +kernel
theorem dX12_solid_60 : decode cX12_solid 60 = .ok (.iload_n 3, 1) := by decide +kernel
theorem dX12_solid_61 : decode cX12_solid 61 = .ok (.bipush 6, 2) := by decide +kernel
theorem dX12_solid_63 : decode cX12_solid 63 = .ok (.invokevirtual 186, 3) := by decide +kernel
theorem dX12_solid_66 : decode cX12_solid 66 = .ok (.ifCond .eq 13, 3) := by decide +kernel
theorem dX12_solid_69 : decode cX12_solid 69 = .ok (.aload_n 0, 1) := by decide +kernel
theorem dX12_solid_70 : decode cX12_solid 70 = .ok (.iload 4, 2) := by decide +kernel
theorem dX12_solid_72 : decode cX12_solid 72 = .ok (.iconst 2, 1) := by decide +kernel
theorem dX12_solid_73 : decode cX12_solid 73 = .ok (.invokevirtual 186, 3) := by decide +kernel
theorem dX12_solid_76 : decode cX12_solid 76 = .ok (.ifCond .ne 9, 3) := by decide +kernel
theorem dX12_solid_79 : decode cX12_solid 79 = .ok (.aload_n 0, 1) := by decide +kernel
theorem dX12_solid_80 : decode cX12_solid 80 = .ok (.iconst 3, 1) := by decide +kernel
theorem dX12_solid_81 : decode cX12_solid 81 = .ok (.invokevirtual 208, 3) := by decide +kernel
theorem dX12_solid_84 : decode cX12_solid 84 = .ok (.ireturn, 1) := by decide +kernel
theorem dX12_solid_85 : decode cX12_solid 85 = .ok (.aload_n 0, 1) := by decide +kernel
theorem dX12_solid_86 : decode cX12_solid 86 = .ok (.getfield 169, 3) := by decide +kernel
theorem dX12_solid_89 : decode cX12_solid 89 = .ok (.bipush 12, 2) := by decide +kernel
theorem dX12_solid_91 : decode cX12_solid 91 = .ok (.if_icmp .ne 9, 3) := by decide +kernel
theorem dX12_solid_94 : decode cX12_solid 94 = .ok (.aload_n 0, 1) := by decide +kernel
theorem dX12_solid_95 : decode cX12_solid 95 = .ok (.iconst 1, 1) := by decide +kernel
theorem dX12_solid_96 : decode cX12_solid 96 = .ok (.invokevirtual 208, 3) := by decide +kernel
theorem dX12_solid_99 : decode cX12_solid 99 = .ok (.ireturn, 1) := by decide +kernel
theorem dX12_solid_100 : decode cX12_solid 100 = .ok (.aload_n 0, 1) := by decide +kernel
theorem dX12_solid_101 : decode cX12_solid 101 = .ok (.getfield 81, 3) := by decide +kernel
theorem dX12_solid_104 : decode cX12_solid 104 = .ok (.aload_n 0, 1) := by decide +kernel
theorem dX12_solid_105 : decode cX12_solid 105 = .ok (.getfield 169, 3) := by decide +kernel
theorem dX12_solid_108 : decode cX12_solid 108 = .ok (.iload_n 1, 1) := by decide +kernel
theorem dX12_solid_109 : decode cX12_solid 109 = .ok (.iastore, 1) := by decide +kernel
theorem dX12_solid_110 : decode cX12_solid 110 = .ok (.aload_n 0, 1) := by decide +kernel
theorem dX12_solid_111 : decode cX12_solid 111 = .ok (.getfield 84, 3) := by decide +kernel
theorem dX12_solid_114 : decode cX12_solid 114 = .ok (.aload_n 0, 1) := by decide +kernel
theorem dX12_solid_115 : decode cX12_solid 115 = .ok (.getfield 169, 3) := by decide +kernel
theorem dX12_solid_118 : decode cX12_solid 118 = .ok (.iload_n 3, 1) := by decide +kernel
theorem dX12_solid_119 : decode cX12_solid 119 = .ok (.iastore, 1) := by decide +kernel
theorem dX12_solid_120 : decode cX12_solid 120 = .ok (.aload_n 0, 1) := by decide +kernel
theorem dX12_solid_121 : decode cX12_solid 121 = .ok (.getfield 87, 3) := by decide +kernel
theorem dX12_solid_124 : decode cX12_solid 124 = .ok (.aload_n 0, 1) := by decide +kernel
theorem dX12_solid_125 : decode cX12_solid 125 = .ok (.getfield 169, 3) := by decide +kernel
theorem dX12_solid_128 : decode cX12_solid 128 = .ok (.iload 4, 2) := by decide +kernel
theorem dX12_solid_130 : decode cX12_solid 130 = .ok (.iastore, 1) := by decide +kernel
theorem dX12_solid_131 : decode cX12_solid 131 = .ok (.iconst 0, 1) := by decide +kernel
theorem dX12_solid_132 : decode cX12_solid 132 = .ok (.istore 8, 2) := by decide +kernel
theorem dX12_solid_134 : decode cX12_solid 134 = .ok (.iload 8, 2) := by decide +kernel
theorem dX12_solid_136 : decode cX12_solid 136 = .ok (.iconst 3, 1) := by decide +kernel
theorem dX12_solid_137 : decode cX12_solid 137 = .ok (.if_icmp .ge 77, 3) := by decide +kernel
theorem dX12_solid_140 : decode cX12_solid 140 = .ok (.aload_n 0, 1) := by decide +kernel
theorem dX12_solid_141 : decode cX12_solid 141 = .ok (.getfield 90, 3) := by decide +kernel
theorem dX12_solid_144 : decode cX12_solid 144 = .ok (.iconst 3, 1) := by decide +kernel
theorem dX12_solid_145 : decode cX12_solid 145 = .ok (.aload_n 0, 1) := by decide +kernel
theorem dX12_solid_146 : decode cX12_solid 146 = .ok (.getfield 169, 3) := by decide +kernel
theorem dX12_solid_149 : decode cX12_solid 149 = .ok (.imul, 1) := by decide +kernel
theorem dX12_solid_150 : decode cX12_solid 150 = .ok (.iload 8, 2) := by decide +kernel
theorem dX12_solid_152 : decode cX12_solid 152 = .ok (.iadd, 1) := by decide +kernel
theorem dX12_solid_153 : decode cX12_solid 153 = .ok (.aload_n 0, 1) := by decide +kernel
theorem dX12_solid_154 : decode cX12_solid 154 = .ok (.iconst 1, 1) := by decide +kernel
theorem dX12_solid_155 : decode cX12_solid 155 = .ok (.iload_n 2, 1) := by decide +kernel
theorem dX12_solid_156 : decode cX12_solid 156 = .ok (.iadd, 1) := by decide +kernel
theorem dX12_solid_157 : decode cX12_solid 157 = .ok (.iload_n 3, 1) := by decide +kernel
theorem dX12_solid_158 : decode cX12_solid 158 = .ok (.iload 4, 2) := by decide +kernel
theorem dX12_solid_160 : decode cX12_solid 160 = .ok (.iload 8, 2) := by decide +kernel
theorem dX12_solid_162 : decode cX12_solid 162 = .ok (.invokevirtual 290, 3) := by decide +kernel
theorem dX12_solid_165 : decode cX12_solid 165 = .ok (.dastore, 1) := by decide +kernel
theorem dX12_solid_166 : decode cX12_solid 166 = .ok (.aload_n 0, 1) := by decide +kernel
theorem dX12_solid_167 : decode cX12_solid 167 = .ok (.getfield 94, 3) := by decide +kernel
theorem dX12_solid_170 : decode cX12_solid 170 = .ok (.iconst 3, 1) := by decide +kernel
theorem dX12_solid_171 : decode cX12_solid 171 = .ok (.aload_n 0, 1) := by decide +kernel
theorem dX12_solid_172 : decode cX12_solid 172 = .ok (.getfield 169, 3) := by decide +kernel
theorem dX12_solid_175 : decode cX12_solid 175 = .ok (.imul, 1) := by decide +kernel
theorem dX12_solid_176 : decode cX12_solid 176 = .ok (.iload 8, 2) := by decide +kernel
theorem dX12_solid_178 : decode cX12_solid 178 = .ok (.iadd, 1) := by decide +kernel
theorem dX12_solid_179 : decode cX12_solid 179 = .ok (.iload 8, 2) := by decide +kernel
theorem dX12_solid_181 : decode cX12_solid 181 = .ok (.ifCond .ne 8, 3) := by decide +kernel
theorem dX12_solid_184 : decode cX12_solid 184 = .ok (.iload 5, 2) := by decide +kernel
theorem dX12_solid_186 : decode cX12_solid 186 = .ok (.goto 16, 3) := by decide +kernel
theorem dX12_solid_189 : decode cX12_solid 189 = .ok (.iload 8, 2) := by decide +kernel
theorem dX12_solid_191 : decode cX12_solid 191 = .ok (.iconst 1, 1) := by decide +kernel
theorem dX12_solid_192 : decode cX12_solid 192 = .ok (.if_icmp .ne 8, 3) := by decide +kernel
theorem dX12_solid_195 : decode cX12_solid 195 = .ok (.iload 6, 2) := by decide +kernel
theorem dX12_solid_197 : decode cX12_solid 197 = .ok (.goto 5, 3) := by decide +kernel
theorem dX12_solid_200 : decode cX12_solid 200 = .ok (.iload 7, 2) := by decide +kernel
theorem dX12_solid_202 : decode cX12_solid 202 = .ok (.i2d, 1) := by decide +kernel
theorem dX12_solid_203 : decode cX12_solid 203 = .ok (.ldc2_w 306, 3) := by decide +kernel
theorem dX12_solid_206 : decode cX12_solid 206 = .ok (.ddiv, 1) := by decide +kernel
theorem dX12_solid_207 : decode cX12_solid 207 = .ok (.dastore, 1) := by decide +kernel
theorem dX12_solid_208 : decode cX12_solid 208 = .ok (.iinc 8 1, 3) := by decide +kernel
theorem dX12_solid_211 : decode cX12_solid 211 = .ok (.goto (-77), 3) := by decide +kernel
theorem dX12_solid_214 : decode cX12_solid 214 = .ok (.aload_n 0, 1) := by decide +kernel
theorem dX12_solid_215 : decode cX12_solid 215 = .ok (.dup, 1) := by decide +kernel
theorem dX12_solid_216 : decode cX12_solid 216 = .ok (.getfield 169, 3) := by decide +kernel
theorem dX12_solid_219 : decode cX12_solid 219 = .ok (.iconst 1, 1) := by decide +kernel
theorem dX12_solid_220 : decode cX12_solid 220 = .ok (.iadd, 1) := by decide +kernel
theorem dX12_solid_221 : decode cX12_solid 221 = .ok (.putfield 169, 3) := by decide +kernel
theorem dX12_solid_224 : decode cX12_solid 224 = .ok (.aload_n 0, 1) := by decide +kernel
theorem dX12_solid_225 : decode cX12_solid 225 = .ok (.iconst 5, 1) := by decide +kernel
theorem dX12_solid_226 : decode cX12_solid 226 = .ok (.iconst 0, 1) := by decide +kernel
theorem dX12_solid_227 : decode cX12_solid 227 = .ok (.iconst 0, 1) := by decide +kernel
theorem dX12_solid_228 : decode cX12_solid 228 = .ok (.iconst 0, 1) := by decide +kernel
theorem dX12_solid_229 : decode cX12_solid 229 = .ok (.invokevirtual 204, 3) := by decide +kernel
theorem dX12_solid_232 : decode cX12_solid 232 = .ok (.aload_n 0, 1) := by decide +kernel
theorem dX12_solid_233 : decode cX12_solid 233 = .ok (.getfield 169, 3) := by decide +kernel
theorem dX12_solid_236 : decode cX12_solid 236 = .ok (.iconst 1, 1) := by decide +kernel
theorem dX12_solid_237 : decode cX12_solid 237 = .ok (.isub, 1) := by decide +kernel
theorem dX12_solid_238 : decode cX12_solid 238 = .ok (.ireturn, 1) := by decide +kernel
set_option maxRecDepth 20000 in
theorem ggX12_insideOf_X12_colourOf : GoodIn wsX12_insideOf wsX12_colourOf := goodIn_r _ [10, 11, 12, 13, 14, 15, 9, 16, 17, 18, 19, 20, 21, 22, 23, 24, 25, 26, 27, 28, 29, 30, 31, 32, 33, 34, 35, 36, 37, 38, 39, 40, 41, 42, 43, 44, 45, 46, 47, 48, 49, 50, 51, 52, 53, 54, 55, 56, 57, 58, 59, 60, 61, 62, 63, 64, 65, 66, 67, 68, 69, 70, 71, 72, 73, 74, 75, 76, 77, 78, 79, 80, 81, 82, 83, 84, 85, 86, 87, 88, 89, 90, 91, 92, 93, 94, 95, 96, 97, 98, 99, 100, 101, 102, 103, 104, 105, 106, 107, 108, 109, 110, 111, 112, 113, 114, 115, 116, 117, 118] (by decide +kernel) (by decide +kernel)
set_option maxRecDepth 20000 in
theorem gX12_insideOf_X12_colourOf : GoodIn wsX12_insideOf (wsV RX12 290 RX12 yX12_colourOf wsX12_colourOf) := goodIn_app (goodIn_of _ (by decide +kernel)) ggX12_insideOf_X12_colourOf
theorem dX12_insideOf_0 : decode cX12_insideOf 0 = .ok (.iconst 0, 1) := by decide +kernel
theorem dX12_insideOf_1 : decode cX12_insideOf 1 = .ok (.istore_n 3, 1) := by decide +kernel
theorem dX12_insideOf_2 : decode cX12_insideOf 2 = .ok (.dconst 0, 1) := by decide +kernel
theorem dX12_insideOf_3 : decode cX12_insideOf 3 = .ok (.dstore 4, 2) := by decide +kernel
theorem dX12_insideOf_5 : decode cX12_insideOf 5 = .ok (.iconst 0, 1) := by decide +kernel
theorem dX12_insideOf_6 : decode cX12_insideOf 6 = .ok (.istore 6, 2) := by decide +kernel
theorem dX12_insideOf_8 : decode cX12_insideOf 8 = .ok (.iload 6, 2) := by decide +kernel
theorem dX12_insideOf_10 : decode cX12_insideOf 10 = .ok (.iconst 3, 1) := by decide +kernel
theorem dX12_insideOf_11 : decode cX12_insideOf 11 = .ok (.if_icmp .ge 145, 3) := by decide +kernel
theorem dX12_insideOf_14 : decode cX12_insideOf 14 = .ok (.aload_n 0, 1) := by decide +kernel
theorem dX12_insideOf_15 : decode cX12_insideOf 15 = .ok (.iload_n 2, 1) := by decide +kernel
theorem dX12_insideOf_16 : decode cX12_insideOf 16 = .ok (.aload_n 0, 1) := by decide +kernel
theorem dX12_insideOf_17 : decode cX12_insideOf 17 = .ok (.getfield 84, 3) := by decide +kernel
theorem dX12_insideOf_20 : decode cX12_insideOf 20 = .ok (.iload_n 1, 1) := by decide +kernel
theorem dX12_insideOf_21 : decode cX12_insideOf 21 = .ok (.iaload, 1) := by decide +kernel
theorem dX12_insideOf_22 : decode cX12_insideOf 22 = .ok (.aload_n 0, 1) := by decide +kernel
theorem dX12_insideOf_23 : decode cX12_insideOf 23 = .ok (.getfield 87, 3) := by decide +kernel
theorem dX12_insideOf_26 : decode cX12_insideOf 26 = .ok (.iload_n 1, 1) := by decide +kernel
theorem dX12_insideOf_27 : decode cX12_insideOf 27 = .ok (.iaload, 1) := by decide +kernel
theorem dX12_insideOf_28 : decode cX12_insideOf 28 = .ok (.iload 6, 2) := by decide +kernel
theorem dX12_insideOf_30 : decode cX12_insideOf 30 = .ok (.invokevirtual 290, 3) := by decide +kernel
theorem dX12_insideOf_33 : decode cX12_insideOf 33 = .ok (.aload_n 0, 1) := by decide +kernel
theorem dX12_insideOf_34 : decode cX12_insideOf 34 = .ok (.getfield 90, 3) := by decide +kernel
theorem dX12_insideOf_37 : decode cX12_insideOf 37 = .ok (.iconst 3, 1) := by decide +kernel
theorem dX12_insideOf_38 : decode cX12_insideOf 38 = .ok (.iload_n 1, 1) := by decide +kernel
theorem dX12_insideOf_39 : decode cX12_insideOf 39 = .ok (.imul, 1) := by decide +kernel
theorem dX12_insideOf_40 : decode cX12_insideOf 40 = .ok (.iload 6, 2) := by decide +kernel
theorem dX12_insideOf_42 : decode cX12_insideOf 42 = .ok (.iadd, 1) := by decide +kernel
theorem dX12_insideOf_43 : decode cX12_insideOf 43 = .ok (.daload, 1) := by decide +kernel
theorem dX12_insideOf_44 : decode cX12_insideOf 44 = .ok (.dsub, 1) := by decide +kernel
theorem dX12_insideOf_45 : decode cX12_insideOf 45 = .ok (.dstore 7, 2) := by decide +kernel
theorem dX12_insideOf_47 : decode cX12_insideOf 47 = .ok (.aload_n 0, 1) := by decide +kernel
theorem dX12_insideOf_48 : decode cX12_insideOf 48 = .ok (.getfield 94, 3) := by decide +kernel
theorem dX12_insideOf_51 : decode cX12_insideOf 51 = .ok (.iconst 3, 1) := by decide +kernel
theorem dX12_insideOf_52 : decode cX12_insideOf 52 = .ok (.iload_n 1, 1) := by decide +kernel
theorem dX12_insideOf_53 : decode cX12_insideOf 53 = .ok (.imul, 1) := by decide +kernel
theorem dX12_insideOf_54 : decode cX12_insideOf 54 = .ok (.iload 6, 2) := by decide +kernel
theorem dX12_insideOf_56 : decode cX12_insideOf 56 = .ok (.iadd, 1) := by decide +kernel
theorem dX12_insideOf_57 : decode cX12_insideOf 57 = .ok (.daload, 1) := by decide +kernel
theorem dX12_insideOf_58 : decode cX12_insideOf 58 = .ok (.dstore 9, 2) := by decide +kernel
theorem dX12_insideOf_60 : decode cX12_insideOf 60 = .ok (.aload_n 0, 1) := by decide +kernel
theorem dX12_insideOf_61 : decode cX12_insideOf 61 = .ok (.getfield 81, 3) := by decide +kernel
theorem dX12_insideOf_64 : decode cX12_insideOf 64 = .ok (.iload_n 1, 1) := by decide +kernel
theorem dX12_insideOf_65 : decode cX12_insideOf 65 = .ok (.iaload, 1) := by decide +kernel
theorem dX12_insideOf_66 : decode cX12_insideOf 66 = .ok (.ifCond .ne 22, 3) := by decide +kernel
theorem dX12_insideOf_69 : decode cX12_insideOf 69 = .ok (.dload 7, 2) := by decide +kernel
theorem dX12_insideOf_71 : decode cX12_insideOf 71 = .ok (.dload 9, 2) := by decide +kernel
theorem dX12_insideOf_73 : decode cX12_insideOf 73 = .ok (.dcmp .l, 1) := by decide +kernel
theorem dX12_insideOf_74 : decode cX12_insideOf 74 = .ok (.ifCond .gt 12, 3) := by decide +kernel
theorem dX12_insideOf_77 : decode cX12_insideOf 77 = .ok (.dload 7, 2) := by decide +kernel
theorem dX12_insideOf_79 : decode cX12_insideOf 79 = .ok (.dload 9, 2) := by decide +kernel
theorem dX12_insideOf_81 : decode cX12_insideOf 81 = .ok (.dneg, 1) := by decide +kernel
theorem dX12_insideOf_82 : decode cX12_insideOf 82 = .ok (.dcmp .g, 1) := by decide +kernel
theorem dX12_insideOf_83 : decode cX12_insideOf 83 = .ok (.ifCond .ge 5, 3) := by decide +kernel
theorem dX12_insideOf_86 : decode cX12_insideOf 86 = .ok (.iconst 0, 1) := by decide +kernel
theorem dX12_insideOf_87 : decode cX12_insideOf 87 = .ok (.ireturn, 1) := by decide +kernel
theorem dX12_insideOf_88 : decode cX12_insideOf 88 = .ok (.iload_n 3, 1) := by decide +kernel
theorem dX12_insideOf_89 : decode cX12_insideOf 89 = .ok (.ifCond .ne 20, 3) := by decide +kernel
theorem dX12_insideOf_92 : decode cX12_insideOf 92 = .ok (.dload 7, 2) := by decide +kernel
theorem dX12_insideOf_94 : decode cX12_insideOf 94 = .ok (.dload 9, 2) := by decide +kernel
theorem dX12_insideOf_96 : decode cX12_insideOf 96 = .ok (.dcmp .l, 1) := by decide +kernel
theorem dX12_insideOf_97 : decode cX12_insideOf 97 = .ok (.ifCond .eq 12, 3) := by decide +kernel
theorem dX12_insideOf_100 : decode cX12_insideOf 100 = .ok (.dload 7, 2) := by decide +kernel
theorem dX12_insideOf_102 : decode cX12_insideOf 102 = .ok (.dload 9, 2) := by decide +kernel
theorem dX12_insideOf_104 : decode cX12_insideOf 104 = .ok (.dneg, 1) := by decide +kernel
theorem dX12_insideOf_105 : decode cX12_insideOf 105 = .ok (.dcmp .l, 1) := by decide +kernel
theorem dX12_insideOf_106 : decode cX12_insideOf 106 = .ok (.ifCond .ne 7, 3) := by decide +kernel
theorem dX12_insideOf_109 : decode cX12_insideOf 109 = .ok (.iconst 1, 1) := by decide +kernel
theorem dX12_insideOf_110 : decode cX12_insideOf 110 = .ok (.goto 4, 3) := by decide +kernel
theorem dX12_insideOf_113 : decode cX12_insideOf 113 = .ok (.iconst 0, 1) := by decide +kernel
theorem dX12_insideOf_114 : decode cX12_insideOf 114 = .ok (.istore_n 3, 1) := by decide +kernel
theorem dX12_insideOf_115 : decode cX12_insideOf 115 = .ok (.iload 6, 2) := by decide +kernel
theorem dX12_insideOf_117 : decode cX12_insideOf 117 = .ok (.ifCond .ne 17, 3) := by decide +kernel
theorem dX12_insideOf_120 : decode cX12_insideOf 120 = .ok (.dload 7, 2) := by decide +kernel
theorem dX12_insideOf_122 : decode cX12_insideOf 122 = .ok (.dload 7, 2) := by decide +kernel
theorem dX12_insideOf_124 : decode cX12_insideOf 124 = .ok (.dmul, 1) := by decide +kernel
theorem dX12_insideOf_125 : decode cX12_insideOf 125 = .ok (.dload 9, 2) := by decide +kernel
theorem dX12_insideOf_127 : decode cX12_insideOf 127 = .ok (.dload 9, 2) := by decide +kernel
theorem dX12_insideOf_129 : decode cX12_insideOf 129 = .ok (.dmul, 1) := by decide +kernel
theorem dX12_insideOf_130 : decode cX12_insideOf 130 = .ok (.ddiv, 1) := by decide +kernel
theorem dX12_insideOf_131 : decode cX12_insideOf 131 = .ok (.goto 17, 3) := by decide +kernel
theorem dX12_insideOf_134 : decode cX12_insideOf 134 = .ok (.dload 4, 2) := by decide +kernel
theorem dX12_insideOf_136 : decode cX12_insideOf 136 = .ok (.dload 7, 2) := by decide +kernel
theorem dX12_insideOf_138 : decode cX12_insideOf 138 = .ok (.dload 7, 2) := by decide +kernel
theorem dX12_insideOf_140 : decode cX12_insideOf 140 = .ok (.dmul, 1) := by decide +kernel
theorem dX12_insideOf_141 : decode cX12_insideOf 141 = .ok (.dload 9, 2) := by decide +kernel
theorem dX12_insideOf_143 : decode cX12_insideOf 143 = .ok (.dload 9, 2) := by decide +kernel
theorem dX12_insideOf_145 : decode cX12_insideOf 145 = .ok (.dmul, 1) := by decide +kernel
theorem dX12_insideOf_146 : decode cX12_insideOf 146 = .ok (.ddiv, 1) := by decide +kernel
theorem dX12_insideOf_147 : decode cX12_insideOf 147 = .ok (.dadd, 1) := by decide +kernel
theorem dX12_insideOf_148 : decode cX12_insideOf 148 = .ok (.dstore 4, 2) := by decide +kernel
theorem dX12_insideOf_150 : decode cX12_insideOf 150 = .ok (.iinc 6 1, 3) := by decide +kernel
theorem dX12_insideOf_153 : decode cX12_insideOf 153 = .ok (.goto (-145), 3) := by decide +kernel
theorem dX12_insideOf_156 : decode cX12_insideOf 156 = .ok (.aload_n 0, 1) := by decide +kernel
theorem dX12_insideOf_157 : decode cX12_insideOf 157 = .ok (.getfield 81, 3) := by decide +kernel
theorem dX12_insideOf_160 : decode cX12_insideOf 160 = .ok (.iload_n 1, 1) := by decide +kernel
theorem dX12_insideOf_161 : decode cX12_insideOf 161 = .ok (.iaload, 1) := by decide +kernel
theorem dX12_insideOf_162 : decode cX12_insideOf 162 = .ok (.ifCond .ne 13, 3) := by decide +kernel
theorem dX12_insideOf_165 : decode cX12_insideOf 165 = .ok (.iload_n 3, 1) := by decide +kernel
theorem dX12_insideOf_166 : decode cX12_insideOf 166 = .ok (.ifCond .eq 7, 3) := by decide +kernel
theorem dX12_insideOf_169 : decode cX12_insideOf 169 = .ok (.iconst 2, 1) := by decide +kernel
theorem dX12_insideOf_170 : decode cX12_insideOf 170 = .ok (.goto 4, 3) := by decide +kernel
theorem dX12_insideOf_173 : decode cX12_insideOf 173 = .ok (.iconst 1, 1) := by decide +kernel
theorem dX12_insideOf_174 : decode cX12_insideOf 174 = .ok (.ireturn, 1) := by decide +kernel
theorem dX12_insideOf_175 : decode cX12_insideOf 175 = .ok (.dload 4, 2) := by decide +kernel
theorem dX12_insideOf_177 : decode cX12_insideOf 177 = .ok (.dconst 1, 1) := by decide +kernel
theorem dX12_insideOf_178 : decode cX12_insideOf 178 = .ok (.dcmp .g, 1) := by decide +kernel
theorem dX12_insideOf_179 : decode cX12_insideOf 179 = .ok (.ifCond .ge 7, 3) := by decide +kernel
theorem dX12_insideOf_182 : decode cX12_insideOf 182 = .ok (.iconst 1, 1) := by decide +kernel
theorem dX12_insideOf_183 : decode cX12_insideOf 183 = .ok (.goto 15, 3) := by decide +kernel
theorem dX12_insideOf_186 : decode cX12_insideOf 186 = .ok (.dload 4, 2) := by decide +kernel
theorem dX12_insideOf_188 : decode cX12_insideOf 188 = .ok (.dconst 1, 1) := by decide +kernel
theorem dX12_insideOf_189 : decode cX12_insideOf 189 = .ok (.dcmp .l, 1) := by decide +kernel
theorem dX12_insideOf_190 : decode cX12_insideOf 190 = .ok (.ifCond .ne 7, 3) := by decide +kernel
theorem dX12_insideOf_193 : decode cX12_insideOf 193 = .ok (.iconst 2, 1) := by decide +kernel
theorem dX12_insideOf_194 : decode cX12_insideOf 194 = .ok (.goto 4, 3) := by decide +kernel
theorem dX12_insideOf_197 : decode cX12_insideOf 197 = .ok (.iconst 0, 1) := by decide +kernel
theorem dX12_insideOf_198 : decode cX12_insideOf 198 = .ok (.ireturn, 1) := by decide +kernel
set_option maxRecDepth 20000 in
theorem ggX12_inside_X12_is : GoodIn wsX12_inside wsX12_is := goodIn_r _ [8] (by decide +kernel) (by decide +kernel)
set_option maxRecDepth 20000 in
theorem gX12_inside_X12_is : GoodIn wsX12_inside (wsV RX12 186 RX12 yX12_is wsX12_is) := goodIn_app (goodIn_of _ (by decide +kernel)) ggX12_inside_X12_is
set_option maxRecDepth 20000 in
theorem ggX12_inside_X12_insideOf : GoodIn wsX12_inside wsX12_insideOf := goodIn_r _ [12, 13, 14, 15, 16, 17, 18, 19, 20, 7, 21, 22, 23, 24, 25, 26, 27, 28, 29, 30, 31, 32, 33, 34, 35, 36, 37, 38, 39, 40, 41, 42, 43, 44, 45, 46, 47, 48, 49, 50, 51, 52, 53, 54, 55, 56, 57, 58, 59, 60, 61, 62, 63, 64, 65, 66, 67, 68, 69, 70, 71, 72, 73, 74, 75, 76, 77, 78, 79, 80, 81, 82, 83, 84, 85, 86, 87, 88, 89, 90, 91, 92, 93, 94, 95, 96, 97, 98, 99, 100, 101, 102, 103, 104, 105, 106, 107, 108, 109, 110, 111, 112, 113, 114, 115, 116, 117, 118, 119, 120, 121, 122, 123, 124, 125, 126, 127, 128, 129] (by decide +kernel) (by decide +kernel)
set_option maxRecDepth 20000 in
theorem gX12_inside_X12_insideOf : GoodIn wsX12_inside (wsV RX12 308 RX12 yX12_insideOf wsX12_insideOf) := goodIn_app (goodIn_of _ (by decide +kernel)) ggX12_inside_X12_insideOf
theorem dX12_inside_0 : decode cX12_inside 0 = .ok (.aload_n 0, 1) := by decide +kernel
theorem dX12_inside_1 : decode cX12_inside 1 = .ok (.iconst 0, 1) := by decide +kernel
theorem dX12_inside_2 : decode cX12_inside 2 = .ok (.putfield 149, 3) := by decide +kernel
theorem dX12_inside_5 : decode cX12_inside 5 = .ok (.aload_n 0, 1) := by decide +kernel
theorem dX12_inside_6 : decode cX12_inside 6 = .ok (.iload_n 1, 1) := by decide +kernel
theorem dX12_inside_7 : decode cX12_inside 7 = .ok (.aload_n 0, 1) := by decide +kernel
theorem dX12_inside_8 : decode cX12_inside 8 = .ok (.getfield 169, 3) := by decide +kernel
theorem dX12_inside_11 : decode cX12_inside 11 = .ok (.invokevirtual 186, 3) := by decide +kernel
theorem dX12_inside_14 : decode cX12_inside 14 = .ok (.ifCond .eq 26, 3) := by decide +kernel
theorem dX12_inside_17 : decode cX12_inside 17 = .ok (.aload_n 0, 1) := by decide +kernel
theorem dX12_inside_18 : decode cX12_inside 18 = .ok (.iload_n 2, 1) := by decide +kernel
theorem dX12_inside_19 : decode cX12_inside 19 = .ok (.aload_n 0, 1) := by decide +kernel
theorem dX12_inside_20 : decode cX12_inside 20 = .ok (.getfield 160, 3) := by decide +kernel
theorem dX12_inside_23 : decode cX12_inside 23 = .ok (.invokevirtual 186, 3) := by decide +kernel
theorem dX12_inside_26 : decode cX12_inside 26 = .ok (.ifCond .eq 14, 3) := by decide +kernel
theorem dX12_inside_29 : decode cX12_inside 29 = .ok (.aload_n 0, 1) := by decide +kernel
theorem dX12_inside_30 : decode cX12_inside 30 = .ok (.iload_n 1, 1) := by decide +kernel
theorem dX12_inside_31 : decode cX12_inside 31 = .ok (.iconst 1, 1) := by decide +kernel
theorem dX12_inside_32 : decode cX12_inside 32 = .ok (.iload_n 2, 1) := by decide +kernel
theorem dX12_inside_33 : decode cX12_inside 33 = .ok (.iadd, 1) := by decide +kernel
theorem dX12_inside_34 : decode cX12_inside 34 = .ok (.invokevirtual 308, 3) := by decide +kernel
theorem dX12_inside_37 : decode cX12_inside 37 = .ok (.goto 4, 3) := by decide +kernel
theorem dX12_inside_40 : decode cX12_inside 40 = .ok (.iconst (-1), 1) := by decide +kernel
theorem dX12_inside_41 : decode cX12_inside 41 = .ok (.ireturn, 1) := by decide +kernel
set_option maxRecDepth 20000 in
theorem ggX12_tryRecipe_X12_quotient : GoodIn wsX12_tryRecipe wsX12_quotient := goodIn_r _ [18, 19, 20] (by decide +kernel) (by decide +kernel)
set_option maxRecDepth 20000 in
theorem gX12_tryRecipe_X12_quotient : GoodIn wsX12_tryRecipe (wsV RX12 238 RX12 yX12_quotient wsX12_quotient) := goodIn_app (goodIn_of _ (by decide +kernel)) ggX12_tryRecipe_X12_quotient
set_option maxRecDepth 20000 in
theorem ggX12_tryRecipe_X12_dyeAt : GoodIn wsX12_tryRecipe wsX12_dyeAt := goodIn_r _ [24, 25, 26, 27, 28, 29, 17, 30, 6, 31, 14, 15, 16, 18, 19, 20, 77, 78, 79, 80, 81, 82, 83, 84, 85, 86, 87, 88, 89, 90, 91, 92, 93, 94, 95, 96, 97, 98, 99, 100, 101, 102, 103, 104, 105, 106, 107, 108, 109, 110, 111, 112, 113, 114, 115, 116, 117, 118, 119, 120, 121, 122, 123, 124, 125, 126, 127, 128, 129, 130, 131, 132, 133, 134, 135, 136, 137, 138, 139, 140, 141, 142, 143, 144, 145, 146, 147, 148, 149, 150, 151, 152] (by decide +kernel) (by decide +kernel)
set_option maxRecDepth 20000 in
theorem gX12_tryRecipe_X12_dyeAt : GoodIn wsX12_tryRecipe (wsV RX12 246 RX12 yX12_dyeAt wsX12_dyeAt) := goodIn_app (goodIn_of _ (by decide +kernel)) ggX12_tryRecipe_X12_dyeAt
set_option maxRecDepth 20000 in
theorem ggX12_tryRecipe_X12_bandOf : GoodIn wsX12_tryRecipe wsX12_bandOf := goodIn_r _ [35, 20, 36, 37, 38, 17, 39, 40, 41, 42, 43, 44, 45, 46, 47, 48, 49, 50, 51, 52, 53, 54, 55, 56, 57, 58] (by decide +kernel) (by decide +kernel)
set_option maxRecDepth 20000 in
theorem gX12_tryRecipe_X12_bandOf : GoodIn wsX12_tryRecipe (wsV RX12 275 RX12 yX12_bandOf wsX12_bandOf) := goodIn_app (goodIn_of _ (by decide +kernel)) ggX12_tryRecipe_X12_bandOf
set_option maxRecDepth 20000 in
theorem ggX12_tryRecipe_X12_fromTo : GoodIn wsX12_tryRecipe wsX12_fromTo := goodIn_r _ [62, 63, 64, 65, 66, 67, 17, 68, 69, 70, 71, 72, 73, 74, 75, 76, 6, 36, 37, 38, 39, 40, 41, 42, 43, 44, 45, 46, 47, 48, 49, 50, 51, 52, 53, 54, 55, 56, 57, 58, 77, 78, 79, 80, 81, 82, 83, 84, 85, 86, 87, 88, 89, 90, 91, 92, 93, 94, 95, 96, 97, 98, 99, 100, 101, 102, 103, 104, 105, 106, 107, 108, 109, 110, 111, 112, 113, 114, 115, 116, 117, 118, 119, 120, 121, 122, 123, 124, 125, 126, 127, 128, 129, 130, 131, 132, 133, 134, 135, 136, 137, 138, 139, 140, 141, 142, 143, 144, 145, 146, 147, 148, 149, 150, 151, 152] (by decide +kernel) (by decide +kernel)
set_option maxRecDepth 20000 in
theorem gX12_tryRecipe_X12_fromTo : GoodIn wsX12_tryRecipe (wsV RX12 298 RX12 yX12_fromTo wsX12_fromTo) := goodIn_app (goodIn_of _ (by decide +kernel)) ggX12_tryRecipe_X12_fromTo
theorem dX12_tryRecipe_0 : decode cX12_tryRecipe 0 = .ok (.aload_n 0, 1) := by decide +kernel
theorem dX12_tryRecipe_1 : decode cX12_tryRecipe 1 = .ok (.getfield 311, 3) := by decide +kernel
theorem dX12_tryRecipe_4 : decode cX12_tryRecipe 4 = .ok (.sipush 1000, 3) := by decide +kernel
theorem dX12_tryRecipe_7 : decode cX12_tryRecipe 7 = .ok (.if_icmp .ne 9, 3) := by decide +kernel
theorem dX12_tryRecipe_10 : decode cX12_tryRecipe 10 = .ok (.aload_n 0, 1) := by decide +kernel
theorem dX12_tryRecipe_11 : decode cX12_tryRecipe 11 = .ok (.iconst 1, 1) := by decide +kernel
theorem dX12_tryRecipe_12 : decode cX12_tryRecipe 12 = .ok (.putfield 314, 3) := by decide +kernel
theorem dX12_tryRecipe_15 : decode cX12_tryRecipe 15 = .ok (.return_, 1) := by decide +kernel
theorem dX12_tryRecipe_16 : decode cX12_tryRecipe 16 = .ok (.aload_n 0, 1) := by decide +kernel
theorem dX12_tryRecipe_17 : decode cX12_tryRecipe 17 = .ok (.dup, 1) := by decide +kernel
theorem dX12_tryRecipe_18 : decode cX12_tryRecipe 18 = .ok (.getfield 311, 3) := by decide +kernel
theorem dX12_tryRecipe_21 : decode cX12_tryRecipe 21 = .ok (.iconst 1, 1) := by decide +kernel
theorem dX12_tryRecipe_22 : decode cX12_tryRecipe 22 = .ok (.iadd, 1) := by decide +kernel
theorem dX12_tryRecipe_23 : decode cX12_tryRecipe 23 = .ok (.putfield 311, 3) := by decide +kernel
theorem dX12_tryRecipe_26 : decode cX12_tryRecipe 26 = .ok (.lconst 0, 1) := by decide +kernel
theorem dX12_tryRecipe_27 : decode cX12_tryRecipe 27 = .ok (.lstore_n 1, 1) := by decide +kernel
theorem dX12_tryRecipe_28 : decode cX12_tryRecipe 28 = .ok (.iconst 0, 1) := by decide +kernel
theorem dX12_tryRecipe_29 : decode cX12_tryRecipe 29 = .ok (.istore_n 3, 1) := by decide +kernel
theorem dX12_tryRecipe_30 : decode cX12_tryRecipe 30 = .ok (.iload_n 3, 1) := by decide +kernel
theorem dX12_tryRecipe_31 : decode cX12_tryRecipe 31 = .ok (.aload_n 0, 1) := by decide +kernel
theorem dX12_tryRecipe_32 : decode cX12_tryRecipe 32 = .ok (.getfield 317, 3) := by decide +kernel
theorem dX12_tryRecipe_35 : decode cX12_tryRecipe 35 = .ok (.if_icmp .ge 38, 3) := by decide +kernel
theorem dX12_tryRecipe_38 : decode cX12_tryRecipe 38 = .ok (.lload_n 1, 1) := by decide +kernel
theorem dX12_tryRecipe_39 : decode cX12_tryRecipe 39 = .ok (.aload_n 0, 1) := by decide +kernel
theorem dX12_tryRecipe_40 : decode cX12_tryRecipe 40 = .ok (.getfield 121, 3) := by decide +kernel
theorem dX12_tryRecipe_43 : decode cX12_tryRecipe 43 = .ok (.iconst 2, 1) := by decide +kernel
theorem dX12_tryRecipe_44 : decode cX12_tryRecipe 44 = .ok (.iload_n 3, 1) := by decide +kernel
theorem dX12_tryRecipe_45 : decode cX12_tryRecipe 45 = .ok (.imul, 1) := by decide +kernel
theorem dX12_tryRecipe_46 : decode cX12_tryRecipe 46 = .ok (.iconst 1, 1) := by decide +kernel
theorem dX12_tryRecipe_47 : decode cX12_tryRecipe 47 = .ok (.iadd, 1) := by decide +kernel
theorem dX12_tryRecipe_48 : decode cX12_tryRecipe 48 = .ok (.iaload, 1) := by decide +kernel
theorem dX12_tryRecipe_49 : decode cX12_tryRecipe 49 = .ok (.i2l, 1) := by decide +kernel
theorem dX12_tryRecipe_50 : decode cX12_tryRecipe 50 = .ok (.aload_n 0, 1) := by decide +kernel
theorem dX12_tryRecipe_51 : decode cX12_tryRecipe 51 = .ok (.getfield 26, 3) := by decide +kernel
theorem dX12_tryRecipe_54 : decode cX12_tryRecipe 54 = .ok (.aload_n 0, 1) := by decide +kernel
theorem dX12_tryRecipe_55 : decode cX12_tryRecipe 55 = .ok (.getfield 121, 3) := by decide +kernel
theorem dX12_tryRecipe_58 : decode cX12_tryRecipe 58 = .ok (.iconst 2, 1) := by decide +kernel
theorem dX12_tryRecipe_59 : decode cX12_tryRecipe 59 = .ok (.iload_n 3, 1) := by decide +kernel
theorem dX12_tryRecipe_60 : decode cX12_tryRecipe 60 = .ok (.imul, 1) := by decide +kernel
theorem dX12_tryRecipe_61 : decode cX12_tryRecipe 61 = .ok (.iaload, 1) := by decide +kernel
theorem dX12_tryRecipe_62 : decode cX12_tryRecipe 62 = .ok (.iaload, 1) := by decide +kernel
theorem dX12_tryRecipe_63 : decode cX12_tryRecipe 63 = .ok (.i2l, 1) := by decide +kernel
theorem dX12_tryRecipe_64 : decode cX12_tryRecipe 64 = .ok (.lmul, 1) := by decide +kernel
theorem dX12_tryRecipe_65 : decode cX12_tryRecipe 65 = .ok (.ladd, 1) := by decide +kernel
theorem dX12_tryRecipe_66 : decode cX12_tryRecipe 66 = .ok (.lstore_n 1, 1) := by decide +kernel
theorem dX12_tryRecipe_67 : decode cX12_tryRecipe 67 = .ok (.iinc 3 1, 3) := by decide +kernel
theorem dX12_tryRecipe_70 : decode cX12_tryRecipe 70 = .ok (.goto (-40), 3) := by decide +kernel
theorem dX12_tryRecipe_73 : decode cX12_tryRecipe 73 = .ok (.iconst 0, 1) := by decide +kernel
theorem dX12_tryRecipe_74 : decode cX12_tryRecipe 74 = .ok (.istore_n 3, 1) := by decide +kernel
theorem dX12_tryRecipe_75 : decode cX12_tryRecipe 75 = .ok (.iload_n 3, 1) := by decide +kernel
theorem dX12_tryRecipe_76 : decode cX12_tryRecipe 76 = .ok (.bipush 16, 2) := by decide +kernel
theorem dX12_tryRecipe_78 : decode cX12_tryRecipe 78 = .ok (.if_icmp .ge 97, 3) := by decide +kernel
theorem dX12_tryRecipe_81 : decode cX12_tryRecipe 81 = .ok (.aload_n 0, 1) := by decide +kernel
theorem dX12_tryRecipe_82 : decode cX12_tryRecipe 82 = .ok (.aload_n 0, 1) := by decide +kernel
theorem dX12_tryRecipe_83 : decode cX12_tryRecipe 83 = .ok (.getfield 7, 3) := by decide +kernel
theorem dX12_tryRecipe_86 : decode cX12_tryRecipe 86 = .ok (.bipush 16, 2) := by decide +kernel
theorem dX12_tryRecipe_88 : decode cX12_tryRecipe 88 = .ok (.bipush 41, 2) := by decide +kernel
theorem dX12_tryRecipe_90 : decode cX12_tryRecipe 90 = .ok (.aload_n 0, 1) := by decide +kernel
theorem dX12_tryRecipe_91 : decode cX12_tryRecipe 91 = .ok (.getfield 320, 3) := by decide +kernel
theorem dX12_tryRecipe_94 : decode cX12_tryRecipe 94 = .ok (.iadd, 1) := by decide +kernel
theorem dX12_tryRecipe_95 : decode cX12_tryRecipe 95 = .ok (.imul, 1) := by decide +kernel
theorem dX12_tryRecipe_96 : decode cX12_tryRecipe 96 = .ok (.iload_n 3, 1) := by decide +kernel
theorem dX12_tryRecipe_97 : decode cX12_tryRecipe 97 = .ok (.iadd, 1) := by decide +kernel
theorem dX12_tryRecipe_98 : decode cX12_tryRecipe 98 = .ok (.faload, 1) := by decide +kernel
theorem dX12_tryRecipe_99 : decode cX12_tryRecipe 99 = .ok (.invokevirtual 238, 3) := by decide +kernel
theorem dX12_tryRecipe_102 : decode cX12_tryRecipe 102 = .ok (.dstore 4, 2) := by decide +kernel
theorem dX12_tryRecipe_104 : decode cX12_tryRecipe 104 = .ok (.iconst 0, 1) := by decide +kernel
theorem dX12_tryRecipe_105 : decode cX12_tryRecipe 105 = .ok (.istore 6, 2) := by decide +kernel
theorem dX12_tryRecipe_107 : decode cX12_tryRecipe 107 = .ok (.iload 6, 2) := by decide +kernel
theorem dX12_tryRecipe_109 : decode cX12_tryRecipe 109 = .ok (.aload_n 0, 1) := by decide +kernel
theorem dX12_tryRecipe_110 : decode cX12_tryRecipe 110 = .ok (.getfield 317, 3) := by decide +kernel
theorem dX12_tryRecipe_113 : decode cX12_tryRecipe 113 = .ok (.if_icmp .ge 40, 3) := by decide +kernel
theorem dX12_tryRecipe_116 : decode cX12_tryRecipe 116 = .ok (.dload 4, 2) := by decide +kernel
theorem dX12_tryRecipe_118 : decode cX12_tryRecipe 118 = .ok (.aload_n 0, 1) := by decide +kernel
theorem dX12_tryRecipe_119 : decode cX12_tryRecipe 119 = .ok (.aload_n 0, 1) := by decide +kernel
theorem dX12_tryRecipe_120 : decode cX12_tryRecipe 120 = .ok (.getfield 121, 3) := by decide +kernel
theorem dX12_tryRecipe_123 : decode cX12_tryRecipe 123 = .ok (.iconst 2, 1) := by decide +kernel
theorem dX12_tryRecipe_124 : decode cX12_tryRecipe 124 = .ok (.iload 6, 2) := by decide +kernel
theorem dX12_tryRecipe_126 : decode cX12_tryRecipe 126 = .ok (.imul, 1) := by decide +kernel
theorem dX12_tryRecipe_127 : decode cX12_tryRecipe 127 = .ok (.iaload, 1) := by decide +kernel
theorem dX12_tryRecipe_128 : decode cX12_tryRecipe 128 = .ok (.aload_n 0, 1) := by decide +kernel
theorem dX12_tryRecipe_129 : decode cX12_tryRecipe 129 = .ok (.getfield 121, 3) := by decide +kernel
theorem dX12_tryRecipe_132 : decode cX12_tryRecipe 132 = .ok (.iconst 2, 1) := by decide +kernel
theorem dX12_tryRecipe_133 : decode cX12_tryRecipe 133 = .ok (.iload 6, 2) := by decide +kernel
theorem dX12_tryRecipe_135 : decode cX12_tryRecipe 135 = .ok (.imul, 1) := by decide +kernel
theorem dX12_tryRecipe_136 : decode cX12_tryRecipe 136 = .ok (.iconst 1, 1) := by decide +kernel
theorem dX12_tryRecipe_137 : decode cX12_tryRecipe 137 = .ok (.iadd, 1) := by decide +kernel
theorem dX12_tryRecipe_138 : decode cX12_tryRecipe 138 = .ok (.iaload, 1) := by decide +kernel
theorem dX12_tryRecipe_139 : decode cX12_tryRecipe 139 = .ok (.i2d, 1) := by decide +kernel
theorem dX12_tryRecipe_140 : decode cX12_tryRecipe 140 = .ok (.iload_n 3, 1) := by decide +kernel
theorem dX12_tryRecipe_141 : decode cX12_tryRecipe 141 = .ok (.invokevirtual 246, 3) := by decide +kernel
theorem dX12_tryRecipe_144 : decode cX12_tryRecipe 144 = .ok (.dadd, 1) := by decide +kernel
theorem dX12_tryRecipe_145 : decode cX12_tryRecipe 145 = .ok (.dstore 4, 2) := by decide +kernel
theorem dX12_tryRecipe_147 : decode cX12_tryRecipe 147 = .ok (.iinc 6 1, 3) := by decide +kernel
theorem dX12_tryRecipe_150 : decode cX12_tryRecipe 150 = .ok (.goto (-43), 3) := by decide +kernel
theorem dX12_tryRecipe_153 : decode cX12_tryRecipe 153 = .ok (.aload_n 0, 1) := by decide +kernel
theorem dX12_tryRecipe_154 : decode cX12_tryRecipe 154 = .ok (.getfield 7, 3) := by decide +kernel
theorem dX12_tryRecipe_157 : decode cX12_tryRecipe 157 = .ok (.sipush 2144, 3) := by decide +kernel
theorem dX12_tryRecipe_160 : decode cX12_tryRecipe 160 = .ok (.iload_n 3, 1) := by decide +kernel
theorem dX12_tryRecipe_161 : decode cX12_tryRecipe 161 = .ok (.iadd, 1) := by decide +kernel
theorem dX12_tryRecipe_162 : decode cX12_tryRecipe 162 = .ok (.aload_n 0, 1) := by decide +kernel
theorem dX12_tryRecipe_163 : decode cX12_tryRecipe 163 = .ok (.dload 4, 2) := by decide +kernel
theorem dX12_tryRecipe_165 : decode cX12_tryRecipe 165 = .ok (.invokevirtual 275, 3) := by decide +kernel
theorem dX12_tryRecipe_168 : decode cX12_tryRecipe 168 = .ok (.fastore, 1) := by decide +kernel
theorem dX12_tryRecipe_169 : decode cX12_tryRecipe 169 = .ok (.iinc 3 1, 3) := by decide +kernel
theorem dX12_tryRecipe_172 : decode cX12_tryRecipe 172 = .ok (.goto (-97), 3) := by decide +kernel
theorem dX12_tryRecipe_175 : decode cX12_tryRecipe 175 = .ok (.aload_n 0, 1) := by decide +kernel
theorem dX12_tryRecipe_176 : decode cX12_tryRecipe 176 = .ok (.sipush 134, 3) := by decide +kernel
theorem dX12_tryRecipe_179 : decode cX12_tryRecipe 179 = .ok (.aload_n 0, 1) := by decide +kernel
theorem dX12_tryRecipe_180 : decode cX12_tryRecipe 180 = .ok (.getfield 323, 3) := by decide +kernel
theorem dX12_tryRecipe_183 : decode cX12_tryRecipe 183 = .ok (.aload_n 0, 1) := by decide +kernel
theorem dX12_tryRecipe_184 : decode cX12_tryRecipe 184 = .ok (.getfield 326, 3) := by decide +kernel
theorem dX12_tryRecipe_187 : decode cX12_tryRecipe 187 = .ok (.invokevirtual 298, 3) := by decide +kernel
theorem dX12_tryRecipe_190 : decode cX12_tryRecipe 190 = .ok (.dstore_n 3, 1) := by decide +kernel
theorem dX12_tryRecipe_191 : decode cX12_tryRecipe 191 = .ok (.aload_n 0, 1) := by decide +kernel
theorem dX12_tryRecipe_192 : decode cX12_tryRecipe 192 = .ok (.getfield 311, 3) := by decide +kernel
theorem dX12_tryRecipe_195 : decode cX12_tryRecipe 195 = .ok (.iconst 1, 1) := by decide +kernel
theorem dX12_tryRecipe_196 : decode cX12_tryRecipe 196 = .ok (.if_icmp .le 31, 3) := by decide +kernel
theorem dX12_tryRecipe_199 : decode cX12_tryRecipe 199 = .ok (.dload_n 3, 1) := by decide +kernel
theorem dX12_tryRecipe_200 : decode cX12_tryRecipe 200 = .ok (.aload_n 0, 1) := by decide +kernel
theorem dX12_tryRecipe_201 : decode cX12_tryRecipe 201 = .ok (.getfield 329, 3) := by decide +kernel
theorem dX12_tryRecipe_204 : decode cX12_tryRecipe 204 = .ok (.dcmp .l, 1) := by decide +kernel
theorem dX12_tryRecipe_205 : decode cX12_tryRecipe 205 = .ok (.ifCond .gt 21, 3) := by decide +kernel
theorem dX12_tryRecipe_208 : decode cX12_tryRecipe 208 = .ok (.dload_n 3, 1) := by decide +kernel
theorem dX12_tryRecipe_209 : decode cX12_tryRecipe 209 = .ok (.aload_n 0, 1) := by decide +kernel
theorem dX12_tryRecipe_210 : decode cX12_tryRecipe 210 = .ok (.getfield 329, 3) := by decide +kernel
theorem dX12_tryRecipe_213 : decode cX12_tryRecipe 213 = .ok (.dcmp .l, 1) := by decide +kernel
theorem dX12_tryRecipe_214 : decode cX12_tryRecipe 214 = .ok (.ifCond .ne 13, 3) := by decide +kernel
theorem dX12_tryRecipe_217 : decode cX12_tryRecipe 217 = .ok (.lload_n 1, 1) := by decide +kernel
theorem dX12_tryRecipe_218 : decode cX12_tryRecipe 218 = .ok (.aload_n 0, 1) := by decide +kernel
theorem dX12_tryRecipe_219 : decode cX12_tryRecipe 219 = .ok (.getfield 333, 3) := by decide +kernel
theorem dX12_tryRecipe_222 : decode cX12_tryRecipe 222 = .ok (.lcmp, 1) := by decide +kernel
theorem dX12_tryRecipe_223 : decode cX12_tryRecipe 223 = .ok (.ifCond .lt 4, 3) := by decide +kernel
theorem dX12_tryRecipe_226 : decode cX12_tryRecipe 226 = .ok (.return_, 1) := by decide +kernel
theorem dX12_tryRecipe_227 : decode cX12_tryRecipe 227 = .ok (.aload_n 0, 1) := by decide +kernel
theorem dX12_tryRecipe_228 : decode cX12_tryRecipe 228 = .ok (.dload_n 3, 1) := by decide +kernel
theorem dX12_tryRecipe_229 : decode cX12_tryRecipe 229 = .ok (.putfield 329, 3) := by decide +kernel
theorem dX12_tryRecipe_232 : decode cX12_tryRecipe 232 = .ok (.aload_n 0, 1) := by decide +kernel
theorem dX12_tryRecipe_233 : decode cX12_tryRecipe 233 = .ok (.lload_n 1, 1) := by decide +kernel
theorem dX12_tryRecipe_234 : decode cX12_tryRecipe 234 = .ok (.putfield 333, 3) := by decide +kernel
theorem dX12_tryRecipe_237 : decode cX12_tryRecipe 237 = .ok (.aload_n 0, 1) := by decide +kernel
theorem dX12_tryRecipe_238 : decode cX12_tryRecipe 238 = .ok (.aload_n 0, 1) := by decide +kernel
theorem dX12_tryRecipe_239 : decode cX12_tryRecipe 239 = .ok (.getfield 317, 3) := by decide +kernel
theorem dX12_tryRecipe_242 : decode cX12_tryRecipe 242 = .ok (.putfield 337, 3) := by decide +kernel
theorem dX12_tryRecipe_245 : decode cX12_tryRecipe 245 = .ok (.iconst 0, 1) := by decide +kernel
theorem dX12_tryRecipe_246 : decode cX12_tryRecipe 246 = .ok (.istore 5, 2) := by decide +kernel
theorem dX12_tryRecipe_248 : decode cX12_tryRecipe 248 = .ok (.iload 5, 2) := by decide +kernel
theorem dX12_tryRecipe_250 : decode cX12_tryRecipe 250 = .ok (.iconst 2, 1) := by decide +kernel
theorem dX12_tryRecipe_251 : decode cX12_tryRecipe 251 = .ok (.aload_n 0, 1) := by decide +kernel
theorem dX12_tryRecipe_252 : decode cX12_tryRecipe 252 = .ok (.getfield 317, 3) := by decide +kernel
theorem dX12_tryRecipe_255 : decode cX12_tryRecipe 255 = .ok (.imul, 1) := by decide +kernel
theorem dX12_tryRecipe_256 : decode cX12_tryRecipe 256 = .ok (.if_icmp .ge 23, 3) := by decide +kernel
theorem dX12_tryRecipe_259 : decode cX12_tryRecipe 259 = .ok (.aload_n 0, 1) := by decide +kernel
theorem dX12_tryRecipe_260 : decode cX12_tryRecipe 260 = .ok (.getfield 124, 3) := by decide +kernel
theorem dX12_tryRecipe_263 : decode cX12_tryRecipe 263 = .ok (.iload 5, 2) := by decide +kernel
theorem dX12_tryRecipe_265 : decode cX12_tryRecipe 265 = .ok (.aload_n 0, 1) := by decide +kernel
theorem dX12_tryRecipe_266 : decode cX12_tryRecipe 266 = .ok (.getfield 121, 3) := by decide +kernel
theorem dX12_tryRecipe_269 : decode cX12_tryRecipe 269 = .ok (.iload 5, 2) := by decide +kernel
theorem dX12_tryRecipe_271 : decode cX12_tryRecipe 271 = .ok (.iaload, 1) := by decide +kernel
theorem dX12_tryRecipe_272 : decode cX12_tryRecipe 272 = .ok (.iastore, 1) := by decide +kernel
theorem dX12_tryRecipe_273 : decode cX12_tryRecipe 273 = .ok (.iinc 5 1, 3) := by decide +kernel
theorem dX12_tryRecipe_276 : decode cX12_tryRecipe 276 = .ok (.goto (-28), 3) := by decide +kernel
theorem dX12_tryRecipe_279 : decode cX12_tryRecipe 279 = .ok (.return_, 1) := by decide +kernel
set_option maxRecDepth 20000 in
theorem ggX12_tryGrams_X12_tryRecipe : GoodIn wsX12_tryGrams wsX12_tryRecipe := goodIn_r _ [10, 11, 4, 1, 2, 12, 13, 14, 15, 16, 17, 18, 19, 20, 21, 22, 23, 9, 24, 25, 26, 27, 28, 29, 30, 31, 32, 33, 34, 35, 36, 37, 38, 39, 40, 41, 42, 43, 44, 45, 46, 47, 48, 49, 50, 51, 52, 53, 54, 55, 56, 57, 58, 59, 60, 61, 62, 63, 64, 65, 66, 67, 68, 69, 70, 71, 72, 73, 74, 75, 76, 77, 78, 79, 80, 81, 82, 83, 84, 85, 86, 87, 88, 89, 90, 91, 92, 93, 94, 95, 96, 97, 98, 99, 100, 101, 102, 103, 104, 105, 106, 107, 108, 109, 110, 111, 112, 113, 114, 115, 116, 117, 118, 119, 120, 121, 122, 123, 124, 125, 126, 127, 128, 129, 130, 131, 132, 133, 134, 135, 136, 137, 138, 139, 140, 141, 142, 143, 144, 145, 146, 147, 148, 149, 150, 151, 152, 153, 154, 155, 156, 157, 158] (by decide +kernel) (by decide +kernel)
set_option maxRecDepth 20000 in
theorem gX12_tryGrams_X12_tryRecipe : GoodIn wsX12_tryGrams (wsV RX12 343 RX12 yX12_tryRecipe wsX12_tryRecipe) := goodIn_app (goodIn_of _ (by decide +kernel)) ggX12_tryGrams_X12_tryRecipe
theorem dX12_tryGrams_0 : decode cX12_tryGrams 0 = .ok (.iconst 0, 1) := by decide +kernel
theorem dX12_tryGrams_1 : decode cX12_tryGrams 1 = .ok (.istore_n 1, 1) := by decide +kernel
theorem dX12_tryGrams_2 : decode cX12_tryGrams 2 = .ok (.iload_n 1, 1) := by decide +kernel
theorem dX12_tryGrams_3 : decode cX12_tryGrams 3 = .ok (.aload_n 0, 1) := by decide +kernel
theorem dX12_tryGrams_4 : decode cX12_tryGrams 4 = .ok (.getfield 317, 3) := by decide +kernel
theorem dX12_tryGrams_7 : decode cX12_tryGrams 7 = .ok (.if_icmp .ge 23, 3) := by decide +kernel
theorem dX12_tryGrams_10 : decode cX12_tryGrams 10 = .ok (.aload_n 0, 1) := by decide +kernel
theorem dX12_tryGrams_11 : decode cX12_tryGrams 11 = .ok (.getfield 121, 3) := by decide +kernel
theorem dX12_tryGrams_14 : decode cX12_tryGrams 14 = .ok (.iconst 2, 1) := by decide +kernel
theorem dX12_tryGrams_15 : decode cX12_tryGrams 15 = .ok (.iload_n 1, 1) := by decide +kernel
theorem dX12_tryGrams_16 : decode cX12_tryGrams 16 = .ok (.imul, 1) := by decide +kernel
theorem dX12_tryGrams_17 : decode cX12_tryGrams 17 = .ok (.iconst 1, 1) := by decide +kernel
theorem dX12_tryGrams_18 : decode cX12_tryGrams 18 = .ok (.iadd, 1) := by decide +kernel
theorem dX12_tryGrams_19 : decode cX12_tryGrams 19 = .ok (.aload_n 0, 1) := by decide +kernel
theorem dX12_tryGrams_20 : decode cX12_tryGrams 20 = .ok (.getfield 340, 3) := by decide +kernel
theorem dX12_tryGrams_23 : decode cX12_tryGrams 23 = .ok (.iastore, 1) := by decide +kernel
theorem dX12_tryGrams_24 : decode cX12_tryGrams 24 = .ok (.iinc 1 1, 3) := by decide +kernel
theorem dX12_tryGrams_27 : decode cX12_tryGrams 27 = .ok (.goto (-25), 3) := by decide +kernel
theorem dX12_tryGrams_30 : decode cX12_tryGrams 30 = .ok (.iconst 1, 1) := by decide +kernel
theorem dX12_tryGrams_31 : decode cX12_tryGrams 31 = .ok (.istore_n 1, 1) := by decide +kernel
theorem dX12_tryGrams_32 : decode cX12_tryGrams 32 = .ok (.iload_n 1, 1) := by decide +kernel
theorem dX12_tryGrams_33 : decode cX12_tryGrams 33 = .ok (.ifCond .eq 101, 3) := by decide +kernel
theorem dX12_tryGrams_36 : decode cX12_tryGrams 36 = .ok (.aload_n 0, 1) := by decide +kernel
theorem dX12_tryGrams_37 : decode cX12_tryGrams 37 = .ok (.getfield 314, 3) := by decide +kernel
theorem dX12_tryGrams_40 : decode cX12_tryGrams 40 = .ok (.ifCond .ne 94, 3) := by decide +kernel
theorem dX12_tryGrams_43 : decode cX12_tryGrams 43 = .ok (.aload_n 0, 1) := by decide +kernel
theorem dX12_tryGrams_44 : decode cX12_tryGrams 44 = .ok (.invokevirtual 343, 3) := by decide +kernel
theorem dX12_tryGrams_47 : decode cX12_tryGrams 47 = .ok (.aload_n 0, 1) := by decide +kernel
theorem dX12_tryGrams_48 : decode cX12_tryGrams 48 = .ok (.getfield 317, 3) := by decide +kernel
theorem dX12_tryGrams_51 : decode cX12_tryGrams 51 = .ok (.iconst 1, 1) := by decide +kernel
theorem dX12_tryGrams_52 : decode cX12_tryGrams 52 = .ok (.isub, 1) := by decide +kernel
theorem dX12_tryGrams_53 : decode cX12_tryGrams 53 = .ok (.istore_n 2, 1) := by decide +kernel
theorem dX12_tryGrams_54 : decode cX12_tryGrams 54 = .ok (.iload_n 2, 1) := by decide +kernel
theorem dX12_tryGrams_55 : decode cX12_tryGrams 55 = .ok (.ifCond .lt 45, 3) := by decide +kernel
theorem dX12_tryGrams_58 : decode cX12_tryGrams 58 = .ok (.aload_n 0, 1) := by decide +kernel
theorem dX12_tryGrams_59 : decode cX12_tryGrams 59 = .ok (.getfield 121, 3) := by decide +kernel
theorem dX12_tryGrams_62 : decode cX12_tryGrams 62 = .ok (.iconst 2, 1) := by decide +kernel
theorem dX12_tryGrams_63 : decode cX12_tryGrams 63 = .ok (.iload_n 2, 1) := by decide +kernel
theorem dX12_tryGrams_64 : decode cX12_tryGrams 64 = .ok (.imul, 1) := by decide +kernel
theorem dX12_tryGrams_65 : decode cX12_tryGrams 65 = .ok (.iconst 1, 1) := by decide +kernel
theorem dX12_tryGrams_66 : decode cX12_tryGrams 66 = .ok (.iadd, 1) := by decide +kernel
theorem dX12_tryGrams_67 : decode cX12_tryGrams 67 = .ok (.iaload, 1) := by decide +kernel
theorem dX12_tryGrams_68 : decode cX12_tryGrams 68 = .ok (.aload_n 0, 1) := by decide +kernel
theorem dX12_tryGrams_69 : decode cX12_tryGrams 69 = .ok (.getfield 340, 3) := by decide +kernel
theorem dX12_tryGrams_72 : decode cX12_tryGrams 72 = .ok (.aload_n 0, 1) := by decide +kernel
theorem dX12_tryGrams_73 : decode cX12_tryGrams 73 = .ok (.getfield 346, 3) := by decide +kernel
theorem dX12_tryGrams_76 : decode cX12_tryGrams 76 = .ok (.imul, 1) := by decide +kernel
theorem dX12_tryGrams_77 : decode cX12_tryGrams 77 = .ok (.if_icmp .ne 23, 3) := by decide +kernel
theorem dX12_tryGrams_80 : decode cX12_tryGrams 80 = .ok (.aload_n 0, 1) := by decide +kernel
theorem dX12_tryGrams_81 : decode cX12_tryGrams 81 = .ok (.getfield 121, 3) := by decide +kernel
theorem dX12_tryGrams_84 : decode cX12_tryGrams 84 = .ok (.iconst 2, 1) := by decide +kernel
theorem dX12_tryGrams_85 : decode cX12_tryGrams 85 = .ok (.iload_n 2, 1) := by decide +kernel
theorem dX12_tryGrams_86 : decode cX12_tryGrams 86 = .ok (.imul, 1) := by decide +kernel
theorem dX12_tryGrams_87 : decode cX12_tryGrams 87 = .ok (.iconst 1, 1) := by decide +kernel
theorem dX12_tryGrams_88 : decode cX12_tryGrams 88 = .ok (.iadd, 1) := by decide +kernel
theorem dX12_tryGrams_89 : decode cX12_tryGrams 89 = .ok (.aload_n 0, 1) := by decide +kernel
theorem dX12_tryGrams_90 : decode cX12_tryGrams 90 = .ok (.getfield 340, 3) := by decide +kernel
theorem dX12_tryGrams_93 : decode cX12_tryGrams 93 = .ok (.iastore, 1) := by decide +kernel
theorem dX12_tryGrams_94 : decode cX12_tryGrams 94 = .ok (.iinc 2 (-1), 3) := by decide +kernel
theorem dX12_tryGrams_97 : decode cX12_tryGrams 97 = .ok (.goto (-43), 3) := by decide +kernel
theorem dX12_tryGrams_100 : decode cX12_tryGrams 100 = .ok (.iload_n 2, 1) := by decide +kernel
theorem dX12_tryGrams_101 : decode cX12_tryGrams 101 = .ok (.ifCond .lt 7, 3) := by decide +kernel
theorem dX12_tryGrams_104 : decode cX12_tryGrams 104 = .ok (.iconst 1, 1) := by decide +kernel
theorem dX12_tryGrams_105 : decode cX12_tryGrams 105 = .ok (.goto 4, 3) := by decide +kernel
theorem dX12_tryGrams_108 : decode cX12_tryGrams 108 = .ok (.iconst 0, 1) := by decide +kernel
theorem dX12_tryGrams_109 : decode cX12_tryGrams 109 = .ok (.istore_n 1, 1) := by decide +kernel
theorem dX12_tryGrams_110 : decode cX12_tryGrams 110 = .ok (.iload_n 1, 1) := by decide +kernel
theorem dX12_tryGrams_111 : decode cX12_tryGrams 111 = .ok (.ifCond .eq 20, 3) := by decide +kernel
theorem dX12_tryGrams_114 : decode cX12_tryGrams 114 = .ok (.aload_n 0, 1) := by decide +kernel
theorem dX12_tryGrams_115 : decode cX12_tryGrams 115 = .ok (.getfield 121, 3) := by decide +kernel
theorem dX12_tryGrams_118 : decode cX12_tryGrams 118 = .ok (.iconst 2, 1) := by decide +kernel
theorem dX12_tryGrams_119 : decode cX12_tryGrams 119 = .ok (.iload_n 2, 1) := by decide +kernel
theorem dX12_tryGrams_120 : decode cX12_tryGrams 120 = .ok (.imul, 1) := by decide +kernel
theorem dX12_tryGrams_121 : decode cX12_tryGrams 121 = .ok (.iconst 1, 1) := by decide +kernel
theorem dX12_tryGrams_122 : decode cX12_tryGrams 122 = .ok (.iadd, 1) := by decide +kernel
theorem dX12_tryGrams_123 : decode cX12_tryGrams 123 = .ok (.dup2, 1) := by decide +kernel
theorem dX12_tryGrams_124 : decode cX12_tryGrams 124 = .ok (.iaload, 1) := by decide +kernel
theorem dX12_tryGrams_125 : decode cX12_tryGrams 125 = .ok (.aload_n 0, 1) := by decide +kernel
theorem dX12_tryGrams_126 : decode cX12_tryGrams 126 = .ok (.getfield 340, 3) := by decide +kernel
theorem dX12_tryGrams_129 : decode cX12_tryGrams 129 = .ok (.iadd, 1) := by decide +kernel
theorem dX12_tryGrams_130 : decode cX12_tryGrams 130 = .ok (.iastore, 1) := by decide +kernel
theorem dX12_tryGrams_131 : decode cX12_tryGrams 131 = .ok (.goto (-99), 3) := by decide +kernel
theorem dX12_tryGrams_134 : decode cX12_tryGrams 134 = .ok (.return_, 1) := by decide +kernel
theorem dX12_isOf_0 : decode cX12_isOf 0 = .ok (.iload_n 2, 1) := by decide +kernel
theorem dX12_isOf_1 : decode cX12_isOf 1 = .ok (.aload_n 0, 1) := by decide +kernel
theorem dX12_isOf_2 : decode cX12_isOf 2 = .ok (.getfield 166, 3) := by decide +kernel
theorem dX12_isOf_5 : decode cX12_isOf 5 = .ok (.if_icmp .ge 16, 3) := by decide +kernel
theorem dX12_isOf_8 : decode cX12_isOf 8 = .ok (.iload_n 1, 1) := by decide +kernel
theorem dX12_isOf_9 : decode cX12_isOf 9 = .ok (.iload_n 2, 1) := by decide +kernel
theorem dX12_isOf_10 : decode cX12_isOf 10 = .ok (.ishr, 1) := by decide +kernel
theorem dX12_isOf_11 : decode cX12_isOf 11 = .ok (.iconst 1, 1) := by decide +kernel
theorem dX12_isOf_12 : decode cX12_isOf 12 = .ok (.iand, 1) := by decide +kernel
theorem dX12_isOf_13 : decode cX12_isOf 13 = .ok (.iconst 1, 1) := by decide +kernel
theorem dX12_isOf_14 : decode cX12_isOf 14 = .ok (.if_icmp .ne 7, 3) := by decide +kernel
theorem dX12_isOf_17 : decode cX12_isOf 17 = .ok (.iconst 1, 1) := by decide +kernel
theorem dX12_isOf_18 : decode cX12_isOf 18 = .ok (.goto 4, 3) := by decide +kernel
theorem dX12_isOf_21 : decode cX12_isOf 21 = .ok (.iconst 0, 1) := by decide +kernel
theorem dX12_isOf_22 : decode cX12_isOf 22 = .ok (.ireturn, 1) := by decide +kernel
set_option maxRecDepth 20000 in
theorem ggX12_recipe_X12_is : GoodIn wsX12_recipe wsX12_is := goodIn_r _ [29] (by decide +kernel) (by decide +kernel)
set_option maxRecDepth 20000 in
theorem gX12_recipe_X12_is : GoodIn wsX12_recipe (wsV RX12 186 RX12 yX12_is wsX12_is) := goodIn_app (goodIn_of _ (by decide +kernel)) ggX12_recipe_X12_is
set_option maxRecDepth 20000 in
theorem ggX12_recipe_X12_no : GoodIn wsX12_recipe wsX12_no := goodIn_r _ [33, 24, 114, 115, 116, 117, 118, 119, 120, 121, 122, 123, 124, 125, 126, 127, 128, 129, 130, 131, 132, 133, 134, 135, 136, 137, 138, 139, 140, 141, 142, 143, 144, 145, 146, 147, 148, 149, 150, 151, 152, 153, 154, 155, 156, 157, 158, 159, 160, 161, 162, 163, 164, 165, 166, 167, 168, 169, 170, 171, 172, 173, 174, 175, 176, 177, 178, 179, 180, 181, 182, 183, 184, 185, 186, 187, 188, 189] (by decide +kernel) (by decide +kernel)
set_option maxRecDepth 20000 in
theorem gX12_recipe_X12_no : GoodIn wsX12_recipe (wsV RX12 208 RX12 yX12_no wsX12_no) := goodIn_app (goodIn_of _ (by decide +kernel)) ggX12_recipe_X12_no
set_option maxRecDepth 20000 in
theorem ggX12_recipe_X12_goalIs : GoodIn wsX12_recipe wsX12_goalIs := goodIn_r _ [37, 38, 39, 40, 41, 28, 42, 43, 44, 45, 46, 47, 48, 49, 50, 51, 52, 53, 54, 55, 56, 57, 58, 59, 60, 61, 62, 63, 64, 65, 66, 67, 68, 69, 70, 71, 72, 73, 74, 114, 115, 116, 117, 118, 119, 120, 121, 122, 123, 124, 125, 126, 127, 128, 129, 130, 131, 132, 133, 134, 135, 136, 137, 138, 139, 140, 141, 142, 143, 144, 145, 146, 147, 148, 149, 150, 151, 152, 153, 154, 155, 156, 157, 158, 159, 160, 161, 162, 163, 164, 165, 166, 167, 168, 169, 170, 171, 172, 173, 174, 175, 176, 177, 178, 179, 180, 181, 182, 183, 184, 185, 186, 187, 188, 189] (by decide +kernel) (by decide +kernel)
set_option maxRecDepth 20000 in
theorem gX12_recipe_X12_goalIs : GoodIn wsX12_recipe (wsV RX12 295 RX12 yX12_goalIs wsX12_goalIs) := goodIn_app (goodIn_of _ (by decide +kernel)) ggX12_recipe_X12_goalIs
set_option maxRecDepth 20000 in
theorem ggX12_recipe_X12_tryRecipe : GoodIn wsX12_recipe wsX12_tryRecipe := goodIn_r _ [78, 10, 11, 12, 13, 79, 51, 5, 6, 7, 20, 22, 16, 17, 80, 81, 82, 28, 83, 84, 85, 86, 87, 88, 89, 90, 91, 92, 93, 94, 95, 96, 97, 98, 99, 100, 52, 53, 54, 55, 56, 57, 58, 59, 60, 61, 62, 63, 64, 65, 66, 67, 68, 69, 70, 71, 72, 73, 74, 101, 102, 103, 104, 38, 105, 39, 40, 41, 42, 43, 44, 45, 46, 47, 48, 49, 50, 114, 115, 116, 117, 118, 119, 120, 121, 122, 123, 124, 125, 126, 127, 128, 129, 130, 131, 132, 133, 134, 135, 136, 137, 138, 139, 140, 141, 142, 143, 144, 145, 146, 147, 148, 149, 150, 151, 152, 153, 154, 155, 156, 157, 158, 159, 160, 161, 162, 163, 164, 165, 166, 167, 168, 169, 170, 171, 172, 173, 174, 175, 176, 177, 178, 179, 180, 181, 182, 183, 184, 185, 186, 187, 188, 189] (by decide +kernel) (by decide +kernel)
set_option maxRecDepth 20000 in
theorem gX12_recipe_X12_tryRecipe : GoodIn wsX12_recipe (wsV RX12 343 RX12 yX12_tryRecipe wsX12_tryRecipe) := goodIn_app (goodIn_of _ (by decide +kernel)) ggX12_recipe_X12_tryRecipe
set_option maxRecDepth 20000 in
theorem ggX12_recipe_X12_isOf : GoodIn wsX12_recipe wsX12_isOf := goodIn_r _ [109, 4, 114, 115, 116, 117, 118, 119, 120, 121, 122, 123, 124, 125, 126, 127, 128, 129, 130, 131, 132, 133, 134, 135, 136, 137, 138, 139, 140, 141, 142, 143, 144, 145, 146, 147, 148, 149, 150, 151, 152, 153, 154, 155, 156, 157, 158, 159, 160, 161, 162, 163, 164, 165, 166, 167, 168, 169, 170, 171, 172, 173, 174, 175, 176, 177, 178, 179, 180, 181, 182, 183, 184, 185, 186, 187, 188, 189] (by decide +kernel) (by decide +kernel)
set_option maxRecDepth 20000 in
theorem gX12_recipe_X12_isOf : GoodIn wsX12_recipe (wsV RX12 349 RX12 yX12_isOf wsX12_isOf) := goodIn_app (goodIn_of _ (by decide +kernel)) ggX12_recipe_X12_isOf
set_option maxRecDepth 20000 in
theorem ggX12_recipe_X12_tryGrams : GoodIn wsX12_recipe wsX12_tryGrams := goodIn_r _ [113, 12, 13, 8, 11, 9, 75, 76, 77, 28, 78, 10, 79, 51, 5, 6, 7, 20, 22, 16, 17, 80, 81, 82, 83, 84, 85, 86, 87, 88, 89, 90, 91, 92, 93, 94, 95, 96, 97, 98, 99, 100, 52, 53, 54, 55, 56, 57, 58, 59, 60, 61, 62, 63, 64, 65, 66, 67, 68, 69, 70, 71, 72, 73, 74, 101, 102, 103, 104, 38, 105, 39, 40, 41, 42, 43, 44, 45, 46, 47, 48, 49, 50, 114, 115, 116, 117, 118, 119, 120, 121, 122, 123, 124, 125, 126, 127, 128, 129, 130, 131, 132, 133, 134, 135, 136, 137, 138, 139, 140, 141, 142, 143, 144, 145, 146, 147, 148, 149, 150, 151, 152, 153, 154, 155, 156, 157, 158, 159, 160, 161, 162, 163, 164, 165, 166, 167, 168, 169, 170, 171, 172, 173, 174, 175, 176, 177, 178, 179, 180, 181, 182, 183, 184, 185, 186, 187, 188, 189] (by decide +kernel) (by decide +kernel)
set_option maxRecDepth 20000 in
theorem gX12_recipe_X12_tryGrams : GoodIn wsX12_recipe (wsV RX12 352 RX12 yX12_tryGrams wsX12_tryGrams) := goodIn_app (goodIn_of _ (by decide +kernel)) ggX12_recipe_X12_tryGrams
theorem dX12_recipe_0 : decode cX12_recipe 0 = .ok (.aload_n 0, 1) := by decide +kernel
theorem dX12_recipe_1 : decode cX12_recipe 1 = .ok (.iconst 0, 1) := by decide +kernel
theorem dX12_recipe_2 : decode cX12_recipe 2 = .ok (.putfield 149, 3) := by decide +kernel
theorem dX12_recipe_5 : decode cX12_recipe 5 = .ok (.aload_n 0, 1) := by decide +kernel
theorem dX12_recipe_6 : decode cX12_recipe 6 = .ok (.iload_n 1, 1) := by decide +kernel
theorem dX12_recipe_7 : decode cX12_recipe 7 = .ok (.aload_n 0, 1) := by decide +kernel
theorem dX12_recipe_8 : decode cX12_recipe 8 = .ok (.getfield 160, 3) := by decide +kernel
theorem dX12_recipe_11 : decode cX12_recipe 11 = .ok (.invokevirtual 186, 3) := by decide +kernel
theorem dX12_recipe_14 : decode cX12_recipe 14 = .ok (.ifCond .eq 15, 3) := by decide +kernel
theorem dX12_recipe_17 : decode cX12_recipe 17 = .ok (.aload_n 0, 1) := by decide +kernel
theorem dX12_recipe_18 : decode cX12_recipe 18 = .ok (.iload_n 2, 1) := by decide +kernel
theorem dX12_recipe_19 : decode cX12_recipe 19 = .ok (.aload_n 0, 1) := by decide +kernel
theorem dX12_recipe_20 : decode cX12_recipe 20 = .ok (.getfield 163, 3) := by decide +kernel
theorem dX12_recipe_23 : decode cX12_recipe 23 = .ok (.invokevirtual 186, 3) := by decide +kernel
theorem dX12_recipe_26 : decode cX12_recipe 26 = .ok (.ifCond .ne 9, 3) := by decide +kernel
theorem dX12_recipe_29 : decode cX12_recipe 29 = .ok (.aload_n 0, 1) := by decide +kernel
theorem dX12_recipe_30 : decode cX12_recipe 30 = .ok (.iconst 2, 1) := by decide +kernel
theorem dX12_recipe_31 : decode cX12_recipe 31 = .ok (.invokevirtual 208, 3) := by decide +kernel
theorem dX12_recipe_34 : decode cX12_recipe 34 = .ok (.ireturn, 1) := by decide +kernel
theorem dX12_recipe_35 : decode cX12_recipe 35 = .ok (.aload_n 0, 1) := by decide +kernel
theorem dX12_recipe_36 : decode cX12_recipe 36 = .ok (.iload_n 3, 1) := by decide +kernel
theorem dX12_recipe_37 : decode cX12_recipe 37 = .ok (.bipush 6, 2) := by decide +kernel
theorem dX12_recipe_39 : decode cX12_recipe 39 = .ok (.invokevirtual 186, 3) := by decide +kernel
theorem dX12_recipe_42 : decode cX12_recipe 42 = .ok (.ifCond .eq 62, 3) := by decide +kernel
theorem dX12_recipe_45 : decode cX12_recipe 45 = .ok (.aload_n 0, 1) := by decide +kernel
theorem dX12_recipe_46 : decode cX12_recipe 46 = .ok (.iload 4, 2) := by decide +kernel
theorem dX12_recipe_48 : decode cX12_recipe 48 = .ok (.iconst 2, 1) := by decide +kernel
theorem dX12_recipe_49 : decode cX12_recipe 49 = .ok (.invokevirtual 186, 3) := by decide +kernel
theorem dX12_recipe_52 : decode cX12_recipe 52 = .ok (.ifCond .eq 52, 3) := by decide +kernel
theorem dX12_recipe_55 : decode cX12_recipe 55 = .ok (.iload 6, 2) := by decide +kernel
theorem dX12_recipe_57 : decode cX12_recipe 57 = .ok (.iconst 1, 1) := by decide +kernel
theorem dX12_recipe_58 : decode cX12_recipe 58 = .ok (.if_icmp .lt 46, 3) := by decide +kernel
theorem dX12_recipe_61 : decode cX12_recipe 61 = .ok (.iload 6, 2) := by decide +kernel
theorem dX12_recipe_63 : decode cX12_recipe 63 = .ok (.iconst 3, 1) := by decide +kernel
theorem dX12_recipe_64 : decode cX12_recipe 64 = .ok (.if_icmp .gt 40, 3) := by decide +kernel
theorem dX12_recipe_67 : decode cX12_recipe 67 = .ok (.iload 7, 2) := by decide +kernel
theorem dX12_recipe_69 : decode cX12_recipe 69 = .ok (.iconst 1, 1) := by decide +kernel
theorem dX12_recipe_70 : decode cX12_recipe 70 = .ok (.if_icmp .lt 34, 3) := by decide +kernel
theorem dX12_recipe_73 : decode cX12_recipe 73 = .ok (.iload 7, 2) := by decide +kernel
theorem dX12_recipe_75 : decode cX12_recipe 75 = .ok (.sipush 10000, 3) := by decide +kernel
theorem dX12_recipe_78 : decode cX12_recipe 78 = .ok (.if_icmp .gt 26, 3) := by decide +kernel
theorem dX12_recipe_81 : decode cX12_recipe 81 = .ok (.iload 8, 2) := by decide +kernel
theorem dX12_recipe_83 : decode cX12_recipe 83 = .ok (.iconst 1, 1) := by decide +kernel
theorem dX12_recipe_84 : decode cX12_recipe 84 = .ok (.if_icmp .lt 20, 3) := by decide +kernel
theorem dX12_recipe_87 : decode cX12_recipe 87 = .ok (.iload 8, 2) := by decide +kernel
theorem dX12_recipe_89 : decode cX12_recipe 89 = .ok (.bipush 12, 2) := by decide +kernel
theorem dX12_recipe_91 : decode cX12_recipe 91 = .ok (.if_icmp .gt 13, 3) := by decide +kernel
theorem dX12_recipe_94 : decode cX12_recipe 94 = .ok (.iload 5, 2) := by decide +kernel
theorem dX12_recipe_96 : decode cX12_recipe 96 = .ok (.aload_n 0, 1) := by decide +kernel
theorem dX12_recipe_97 : decode cX12_recipe 97 = .ok (.getfield 166, 3) := by decide +kernel
theorem dX12_recipe_100 : decode cX12_recipe 100 = .ok (.iushr, 1) := by decide +kernel
theorem dX12_recipe_101 : decode cX12_recipe 101 = .ok (.ifCond .eq 9, 3) := by decide +kernel
theorem dX12_recipe_104 : decode cX12_recipe 104 = .ok (.aload_n 0, 1) := by decide +kernel
theorem dX12_recipe_105 : decode cX12_recipe 105 = .ok (.iconst 3, 1) := by decide +kernel
theorem dX12_recipe_106 : decode cX12_recipe 106 = .ok (.invokevirtual 208, 3) := by decide +kernel
theorem dX12_recipe_109 : decode cX12_recipe 109 = .ok (.ireturn, 1) := by decide +kernel
theorem dX12_recipe_110 : decode cX12_recipe 110 = .ok (.aload_n 0, 1) := by decide +kernel
theorem dX12_recipe_111 : decode cX12_recipe 111 = .ok (.iload_n 2, 1) := by decide +kernel
theorem dX12_recipe_112 : decode cX12_recipe 112 = .ok (.putfield 320, 3) := by decide +kernel
theorem dX12_recipe_115 : decode cX12_recipe 115 = .ok (.aload_n 0, 1) := by decide +kernel
theorem dX12_recipe_116 : decode cX12_recipe 116 = .ok (.iload_n 3, 1) := by decide +kernel
theorem dX12_recipe_117 : decode cX12_recipe 117 = .ok (.putfield 323, 3) := by decide +kernel
theorem dX12_recipe_120 : decode cX12_recipe 120 = .ok (.aload_n 0, 1) := by decide +kernel
theorem dX12_recipe_121 : decode cX12_recipe 121 = .ok (.iload 4, 2) := by decide +kernel
theorem dX12_recipe_123 : decode cX12_recipe 123 = .ok (.putfield 326, 3) := by decide +kernel
theorem dX12_recipe_126 : decode cX12_recipe 126 = .ok (.aload_n 0, 1) := by decide +kernel
theorem dX12_recipe_127 : decode cX12_recipe 127 = .ok (.iload 7, 2) := by decide +kernel
theorem dX12_recipe_129 : decode cX12_recipe 129 = .ok (.putfield 340, 3) := by decide +kernel
theorem dX12_recipe_132 : decode cX12_recipe 132 = .ok (.aload_n 0, 1) := by decide +kernel
theorem dX12_recipe_133 : decode cX12_recipe 133 = .ok (.iload 8, 2) := by decide +kernel
theorem dX12_recipe_135 : decode cX12_recipe 135 = .ok (.putfield 346, 3) := by decide +kernel
theorem dX12_recipe_138 : decode cX12_recipe 138 = .ok (.aload_n 0, 1) := by decide +kernel
theorem dX12_recipe_139 : decode cX12_recipe 139 = .ok (.iconst 1, 1) := by decide +kernel
theorem dX12_recipe_140 : decode cX12_recipe 140 = .ok (.iload_n 1, 1) := by decide +kernel
theorem dX12_recipe_141 : decode cX12_recipe 141 = .ok (.iadd, 1) := by decide +kernel
theorem dX12_recipe_142 : decode cX12_recipe 142 = .ok (.iload_n 3, 1) := by decide +kernel
theorem dX12_recipe_143 : decode cX12_recipe 143 = .ok (.iload 4, 2) := by decide +kernel
theorem dX12_recipe_145 : decode cX12_recipe 145 = .ok (.invokevirtual 295, 3) := by decide +kernel
theorem dX12_recipe_148 : decode cX12_recipe 148 = .ok (.aload_n 0, 1) := by decide +kernel
theorem dX12_recipe_149 : decode cX12_recipe 149 = .ok (.iconst 0, 1) := by decide +kernel
theorem dX12_recipe_150 : decode cX12_recipe 150 = .ok (.putfield 311, 3) := by decide +kernel
theorem dX12_recipe_153 : decode cX12_recipe 153 = .ok (.aload_n 0, 1) := by decide +kernel
theorem dX12_recipe_154 : decode cX12_recipe 154 = .ok (.iconst 0, 1) := by decide +kernel
theorem dX12_recipe_155 : decode cX12_recipe 155 = .ok (.putfield 314, 3) := by decide +kernel
theorem dX12_recipe_158 : decode cX12_recipe 158 = .ok (.aload_n 0, 1) := by decide +kernel
theorem dX12_recipe_159 : decode cX12_recipe 159 = .ok (.iconst 0, 1) := by decide +kernel
theorem dX12_recipe_160 : decode cX12_recipe 160 = .ok (.putfield 317, 3) := by decide +kernel
theorem dX12_recipe_163 : decode cX12_recipe 163 = .ok (.aload_n 0, 1) := by decide +kernel
theorem dX12_recipe_164 : decode cX12_recipe 164 = .ok (.invokevirtual 343, 3) := by decide +kernel
theorem dX12_recipe_167 : decode cX12_recipe 167 = .ok (.iconst 1, 1) := by decide +kernel
theorem dX12_recipe_168 : decode cX12_recipe 168 = .ok (.istore 9, 2) := by decide +kernel
theorem dX12_recipe_170 : decode cX12_recipe 170 = .ok (.iload 9, 2) := by decide +kernel
theorem dX12_recipe_172 : decode cX12_recipe 172 = .ok (.iload 6, 2) := by decide +kernel
theorem dX12_recipe_174 : decode cX12_recipe 174 = .ok (.if_icmp .gt 207, 3) := by decide +kernel
theorem dX12_recipe_177 : decode cX12_recipe 177 = .ok (.iconst 0, 1) := by decide +kernel
theorem dX12_recipe_178 : decode cX12_recipe 178 = .ok (.istore 10, 2) := by decide +kernel
theorem dX12_recipe_180 : decode cX12_recipe 180 = .ok (.iload 10, 2) := by decide +kernel
theorem dX12_recipe_182 : decode cX12_recipe 182 = .ok (.aload_n 0, 1) := by decide +kernel
theorem dX12_recipe_183 : decode cX12_recipe 183 = .ok (.getfield 166, 3) := by decide +kernel
theorem dX12_recipe_186 : decode cX12_recipe 186 = .ok (.if_icmp .ge 189, 3) := by decide +kernel
theorem dX12_recipe_189 : decode cX12_recipe 189 = .ok (.aload_n 0, 1) := by decide +kernel
theorem dX12_recipe_190 : decode cX12_recipe 190 = .ok (.getfield 314, 3) := by decide +kernel
theorem dX12_recipe_193 : decode cX12_recipe 193 = .ok (.ifCond .ne 182, 3) := by decide +kernel
theorem dX12_recipe_196 : decode cX12_recipe 196 = .ok (.aload_n 0, 1) := by decide +kernel
theorem dX12_recipe_197 : decode cX12_recipe 197 = .ok (.iload 5, 2) := by decide +kernel
theorem dX12_recipe_199 : decode cX12_recipe 199 = .ok (.iload 10, 2) := by decide +kernel
theorem dX12_recipe_201 : decode cX12_recipe 201 = .ok (.invokevirtual 349, 3) := by decide +kernel
theorem dX12_recipe_204 : decode cX12_recipe 204 = .ok (.ifCond .ne 6, 3) := by decide +kernel
theorem dX12_recipe_207 : decode cX12_recipe 207 = .ok (.goto 162, 3) := by decide +kernel
theorem dX12_recipe_210 : decode cX12_recipe 210 = .ok (.aload_n 0, 1) := by decide +kernel
theorem dX12_recipe_211 : decode cX12_recipe 211 = .ok (.getfield 121, 3) := by decide +kernel
theorem dX12_recipe_214 : decode cX12_recipe 214 = .ok (.iconst 0, 1) := by decide +kernel
theorem dX12_recipe_215 : decode cX12_recipe 215 = .ok (.iload 10, 2) := by decide +kernel
theorem dX12_recipe_217 : decode cX12_recipe 217 = .ok (.iastore, 1) := by decide +kernel
theorem dX12_recipe_218 : decode cX12_recipe 218 = .ok (.iload 9, 2) := by decide +kernel
theorem dX12_recipe_220 : decode cX12_recipe 220 = .ok (.iconst 1, 1) := by decide +kernel
theorem dX12_recipe_221 : decode cX12_recipe 221 = .ok (.if_icmp .ne 12, 3) := by decide +kernel
theorem dX12_recipe_224 : decode cX12_recipe 224 = .ok (.aload_n 0, 1) := by decide +kernel
theorem dX12_recipe_225 : decode cX12_recipe 225 = .ok (.iconst 1, 1) := by decide +kernel
theorem dX12_recipe_226 : decode cX12_recipe 226 = .ok (.putfield 317, 3) := by decide +kernel
theorem dX12_recipe_229 : decode cX12_recipe 229 = .ok (.aload_n 0, 1) := by decide +kernel
theorem dX12_recipe_230 : decode cX12_recipe 230 = .ok (.invokevirtual 352, 3) := by decide +kernel
theorem dX12_recipe_233 : decode cX12_recipe 233 = .ok (.iload 10, 2) := by decide +kernel
theorem dX12_recipe_235 : decode cX12_recipe 235 = .ok (.iconst 1, 1) := by decide +kernel
theorem dX12_recipe_236 : decode cX12_recipe 236 = .ok (.iadd, 1) := by decide +kernel
theorem dX12_recipe_237 : decode cX12_recipe 237 = .ok (.istore 11, 2) := by decide +kernel
theorem dX12_recipe_239 : decode cX12_recipe 239 = .ok (.iload 11, 2) := by decide +kernel
theorem dX12_recipe_241 : decode cX12_recipe 241 = .ok (.aload_n 0, 1) := by decide +kernel
theorem dX12_recipe_242 : decode cX12_recipe 242 = .ok (.getfield 166, 3) := by decide +kernel
theorem dX12_recipe_245 : decode cX12_recipe 245 = .ok (.if_icmp .ge 124, 3) := by decide +kernel
theorem dX12_recipe_248 : decode cX12_recipe 248 = .ok (.iload 9, 2) := by decide +kernel
theorem dX12_recipe_250 : decode cX12_recipe 250 = .ok (.iconst 1, 1) := by decide +kernel
theorem dX12_recipe_251 : decode cX12_recipe 251 = .ok (.if_icmp .le 118, 3) := by decide +kernel
theorem dX12_recipe_254 : decode cX12_recipe 254 = .ok (.aload_n 0, 1) := by decide +kernel
theorem dX12_recipe_255 : decode cX12_recipe 255 = .ok (.getfield 314, 3) := by decide +kernel
theorem dX12_recipe_258 : decode cX12_recipe 258 = .ok (.ifCond .ne 111, 3) := by decide +kernel
theorem dX12_recipe_261 : decode cX12_recipe 261 = .ok (.aload_n 0, 1) := by decide +kernel
theorem dX12_recipe_262 : decode cX12_recipe 262 = .ok (.iload 5, 2) := by decide +kernel
theorem dX12_recipe_264 : decode cX12_recipe 264 = .ok (.iload 11, 2) := by decide +kernel
theorem dX12_recipe_266 : decode cX12_recipe 266 = .ok (.invokevirtual 349, 3) := by decide +kernel
theorem dX12_recipe_269 : decode cX12_recipe 269 = .ok (.ifCond .ne 6, 3) := by decide +kernel
theorem dX12_recipe_272 : decode cX12_recipe 272 = .ok (.goto 91, 3) := by decide +kernel
theorem dX12_recipe_275 : decode cX12_recipe 275 = .ok (.aload_n 0, 1) := by decide +kernel
theorem dX12_recipe_276 : decode cX12_recipe 276 = .ok (.getfield 121, 3) := by decide +kernel
theorem dX12_recipe_279 : decode cX12_recipe 279 = .ok (.iconst 2, 1) := by decide +kernel
theorem dX12_recipe_280 : decode cX12_recipe 280 = .ok (.iload 11, 2) := by decide +kernel
theorem dX12_recipe_282 : decode cX12_recipe 282 = .ok (.iastore, 1) := by decide +kernel
theorem dX12_recipe_283 : decode cX12_recipe 283 = .ok (.iload 9, 2) := by decide +kernel
theorem dX12_recipe_285 : decode cX12_recipe 285 = .ok (.iconst 2, 1) := by decide +kernel
theorem dX12_recipe_286 : decode cX12_recipe 286 = .ok (.if_icmp .ne 12, 3) := by decide +kernel
theorem dX12_recipe_289 : decode cX12_recipe 289 = .ok (.aload_n 0, 1) := by decide +kernel
theorem dX12_recipe_290 : decode cX12_recipe 290 = .ok (.iconst 2, 1) := by decide +kernel
theorem dX12_recipe_291 : decode cX12_recipe 291 = .ok (.putfield 317, 3) := by decide +kernel
theorem dX12_recipe_294 : decode cX12_recipe 294 = .ok (.aload_n 0, 1) := by decide +kernel
theorem dX12_recipe_295 : decode cX12_recipe 295 = .ok (.invokevirtual 352, 3) := by decide +kernel
theorem dX12_recipe_298 : decode cX12_recipe 298 = .ok (.iload 11, 2) := by decide +kernel
theorem dX12_recipe_300 : decode cX12_recipe 300 = .ok (.iconst 1, 1) := by decide +kernel
theorem dX12_recipe_301 : decode cX12_recipe 301 = .ok (.iadd, 1) := by decide +kernel
theorem dX12_recipe_302 : decode cX12_recipe 302 = .ok (.istore 12, 2) := by decide +kernel
theorem dX12_recipe_304 : decode cX12_recipe 304 = .ok (.iload 12, 2) := by decide +kernel
theorem dX12_recipe_306 : decode cX12_recipe 306 = .ok (.aload_n 0, 1) := by decide +kernel
theorem dX12_recipe_307 : decode cX12_recipe 307 = .ok (.getfield 166, 3) := by decide +kernel
theorem dX12_recipe_310 : decode cX12_recipe 310 = .ok (.if_icmp .ge 53, 3) := by decide +kernel
theorem dX12_recipe_313 : decode cX12_recipe 313 = .ok (.iload 9, 2) := by decide +kernel
theorem dX12_recipe_315 : decode cX12_recipe 315 = .ok (.iconst 2, 1) := by decide +kernel
theorem dX12_recipe_316 : decode cX12_recipe 316 = .ok (.if_icmp .le 47, 3) := by decide +kernel
theorem dX12_recipe_319 : decode cX12_recipe 319 = .ok (.aload_n 0, 1) := by decide +kernel
theorem dX12_recipe_320 : decode cX12_recipe 320 = .ok (.getfield 314, 3) := by decide +kernel
theorem dX12_recipe_323 : decode cX12_recipe 323 = .ok (.ifCond .ne 40, 3) := by decide +kernel
theorem dX12_recipe_326 : decode cX12_recipe 326 = .ok (.aload_n 0, 1) := by decide +kernel
theorem dX12_recipe_327 : decode cX12_recipe 327 = .ok (.iload 5, 2) := by decide +kernel
theorem dX12_recipe_329 : decode cX12_recipe 329 = .ok (.iload 12, 2) := by decide +kernel
theorem dX12_recipe_331 : decode cX12_recipe 331 = .ok (.invokevirtual 349, 3) := by decide +kernel
theorem dX12_recipe_334 : decode cX12_recipe 334 = .ok (.ifCond .ne 6, 3) := by decide +kernel
theorem dX12_recipe_337 : decode cX12_recipe 337 = .ok (.goto 20, 3) := by decide +kernel
theorem dX12_recipe_340 : decode cX12_recipe 340 = .ok (.aload_n 0, 1) := by decide +kernel
theorem dX12_recipe_341 : decode cX12_recipe 341 = .ok (.getfield 121, 3) := by decide +kernel
theorem dX12_recipe_344 : decode cX12_recipe 344 = .ok (.iconst 4, 1) := by decide +kernel
theorem dX12_recipe_345 : decode cX12_recipe 345 = .ok (.iload 12, 2) := by decide +kernel
theorem dX12_recipe_347 : decode cX12_recipe 347 = .ok (.iastore, 1) := by decide +kernel
theorem dX12_recipe_348 : decode cX12_recipe 348 = .ok (.aload_n 0, 1) := by decide +kernel
theorem dX12_recipe_349 : decode cX12_recipe 349 = .ok (.iconst 3, 1) := by decide +kernel
theorem dX12_recipe_350 : decode cX12_recipe 350 = .ok (.putfield 317, 3) := by decide +kernel
theorem dX12_recipe_353 : decode cX12_recipe 353 = .ok (.aload_n 0, 1) := by decide +kernel
theorem dX12_recipe_354 : decode cX12_recipe 354 = .ok (.invokevirtual 352, 3) := by decide +kernel
theorem dX12_recipe_357 : decode cX12_recipe 357 = .ok (.iinc 12 1, 3) := by decide +kernel
theorem dX12_recipe_360 : decode cX12_recipe 360 = .ok (.goto (-56), 3) := by decide +kernel
theorem dX12_recipe_363 : decode cX12_recipe 363 = .ok (.iinc 11 1, 3) := by decide +kernel
theorem dX12_recipe_366 : decode cX12_recipe 366 = .ok (.goto (-127), 3) := by decide +kernel
theorem dX12_recipe_369 : decode cX12_recipe 369 = .ok (.iinc 10 1, 3) := by decide +kernel
theorem dX12_recipe_372 : decode cX12_recipe 372 = .ok (.goto (-192), 3) := by decide +kernel
theorem dX12_recipe_375 : decode cX12_recipe 375 = .ok (.iinc 9 1, 3) := by decide +kernel
theorem dX12_recipe_378 : decode cX12_recipe 378 = .ok (.goto (-208), 3) := by decide +kernel
theorem dX12_recipe_381 : decode cX12_recipe 381 = .ok (.aload_n 0, 1) := by decide +kernel
theorem dX12_recipe_382 : decode cX12_recipe 382 = .ok (.aload_n 0, 1) := by decide +kernel
theorem dX12_recipe_383 : decode cX12_recipe 383 = .ok (.getfield 311, 3) := by decide +kernel
theorem dX12_recipe_386 : decode cX12_recipe 386 = .ok (.putfield 355, 3) := by decide +kernel
theorem dX12_recipe_389 : decode cX12_recipe 389 = .ok (.aload_n 0, 1) := by decide +kernel
theorem dX12_recipe_390 : decode cX12_recipe 390 = .ok (.aload_n 0, 1) := by decide +kernel
theorem dX12_recipe_391 : decode cX12_recipe 391 = .ok (.getfield 314, 3) := by decide +kernel
theorem dX12_recipe_394 : decode cX12_recipe 394 = .ok (.ifCond .ne 7, 3) := by decide +kernel
theorem dX12_recipe_397 : decode cX12_recipe 397 = .ok (.iconst 1, 1) := by decide +kernel
theorem dX12_recipe_398 : decode cX12_recipe 398 = .ok (.goto 4, 3) := by decide +kernel
theorem dX12_recipe_401 : decode cX12_recipe 401 = .ok (.iconst 0, 1) := by decide +kernel
theorem dX12_recipe_402 : decode cX12_recipe 402 = .ok (.putfield 358, 3) := by decide +kernel
theorem dX12_recipe_405 : decode cX12_recipe 405 = .ok (.iconst 2, 1) := by decide +kernel
theorem dX12_recipe_406 : decode cX12_recipe 406 = .ok (.aload_n 0, 1) := by decide +kernel
theorem dX12_recipe_407 : decode cX12_recipe 407 = .ok (.getfield 337, 3) := by decide +kernel
theorem dX12_recipe_410 : decode cX12_recipe 410 = .ok (.imul, 1) := by decide +kernel
theorem dX12_recipe_411 : decode cX12_recipe 411 = .ok (.istore 9, 2) := by decide +kernel
theorem dX12_recipe_413 : decode cX12_recipe 413 = .ok (.iload 9, 2) := by decide +kernel
theorem dX12_recipe_415 : decode cX12_recipe 415 = .ok (.bipush 6, 2) := by decide +kernel
theorem dX12_recipe_417 : decode cX12_recipe 417 = .ok (.if_icmp .ge 17, 3) := by decide +kernel
theorem dX12_recipe_420 : decode cX12_recipe 420 = .ok (.aload_n 0, 1) := by decide +kernel
theorem dX12_recipe_421 : decode cX12_recipe 421 = .ok (.getfield 124, 3) := by decide +kernel
theorem dX12_recipe_424 : decode cX12_recipe 424 = .ok (.iload 9, 2) := by decide +kernel
theorem dX12_recipe_426 : decode cX12_recipe 426 = .ok (.iconst (-1), 1) := by decide +kernel
theorem dX12_recipe_427 : decode cX12_recipe 427 = .ok (.iastore, 1) := by decide +kernel
theorem dX12_recipe_428 : decode cX12_recipe 428 = .ok (.iinc 9 1, 3) := by decide +kernel
theorem dX12_recipe_431 : decode cX12_recipe 431 = .ok (.goto (-18), 3) := by decide +kernel
theorem dX12_recipe_434 : decode cX12_recipe 434 = .ok (.iconst 0, 1) := by decide +kernel
theorem dX12_recipe_435 : decode cX12_recipe 435 = .ok (.istore 9, 2) := by decide +kernel
theorem dX12_recipe_437 : decode cX12_recipe 437 = .ok (.iload 9, 2) := by decide +kernel
theorem dX12_recipe_439 : decode cX12_recipe 439 = .ok (.bipush 6, 2) := by decide +kernel
theorem dX12_recipe_441 : decode cX12_recipe 441 = .ok (.if_icmp .ge 23, 3) := by decide +kernel
theorem dX12_recipe_444 : decode cX12_recipe 444 = .ok (.aload_n 0, 1) := by decide +kernel
theorem dX12_recipe_445 : decode cX12_recipe 445 = .ok (.getfield 127, 3) := by decide +kernel
theorem dX12_recipe_448 : decode cX12_recipe 448 = .ok (.iload 9, 2) := by decide +kernel
theorem dX12_recipe_450 : decode cX12_recipe 450 = .ok (.aload_n 0, 1) := by decide +kernel
theorem dX12_recipe_451 : decode cX12_recipe 451 = .ok (.getfield 124, 3) := by decide +kernel
theorem dX12_recipe_454 : decode cX12_recipe 454 = .ok (.iload 9, 2) := by decide +kernel
theorem dX12_recipe_456 : decode cX12_recipe 456 = .ok (.iaload, 1) := by decide +kernel
theorem dX12_recipe_457 : decode cX12_recipe 457 = .ok (.iastore, 1) := by decide +kernel
theorem dX12_recipe_458 : decode cX12_recipe 458 = .ok (.iinc 9 1, 3) := by decide +kernel
theorem dX12_recipe_461 : decode cX12_recipe 461 = .ok (.goto (-24), 3) := by decide +kernel
theorem dX12_recipe_464 : decode cX12_recipe 464 = .ok (.aload_n 0, 1) := by decide +kernel
theorem dX12_recipe_465 : decode cX12_recipe 465 = .ok (.iconst 1, 1) := by decide +kernel
theorem dX12_recipe_466 : decode cX12_recipe 466 = .ok (.putfield 361, 3) := by decide +kernel
theorem dX12_recipe_469 : decode cX12_recipe 469 = .ok (.aload_n 0, 1) := by decide +kernel
theorem dX12_recipe_470 : decode cX12_recipe 470 = .ok (.aload_n 0, 1) := by decide +kernel
theorem dX12_recipe_471 : decode cX12_recipe 471 = .ok (.getfield 329, 3) := by decide +kernel
theorem dX12_recipe_474 : decode cX12_recipe 474 = .ok (.putfield 364, 3) := by decide +kernel
theorem dX12_recipe_477 : decode cX12_recipe 477 = .ok (.aload_n 0, 1) := by decide +kernel
theorem dX12_recipe_478 : decode cX12_recipe 478 = .ok (.aload_n 0, 1) := by decide +kernel
theorem dX12_recipe_479 : decode cX12_recipe 479 = .ok (.getfield 333, 3) := by decide +kernel
theorem dX12_recipe_482 : decode cX12_recipe 482 = .ok (.putfield 367, 3) := by decide +kernel
theorem dX12_recipe_485 : decode cX12_recipe 485 = .ok (.aload_n 0, 1) := by decide +kernel
theorem dX12_recipe_486 : decode cX12_recipe 486 = .ok (.iconst 0, 1) := by decide +kernel
theorem dX12_recipe_487 : decode cX12_recipe 487 = .ok (.putfield 153, 3) := by decide +kernel
theorem dX12_recipe_490 : decode cX12_recipe 490 = .ok (.aload_n 0, 1) := by decide +kernel
theorem dX12_recipe_491 : decode cX12_recipe 491 = .ok (.getfield 337, 3) := by decide +kernel
theorem dX12_recipe_494 : decode cX12_recipe 494 = .ok (.ireturn, 1) := by decide +kernel
set_option maxRecDepth 20000 in
theorem ggX12_recipeOf_X12_is : GoodIn wsX12_recipeOf wsX12_is := goodIn_r _ [10] (by decide +kernel) (by decide +kernel)
set_option maxRecDepth 20000 in
theorem gX12_recipeOf_X12_is : GoodIn wsX12_recipeOf (wsV RX12 186 RX12 yX12_is wsX12_is) := goodIn_app (goodIn_of _ (by decide +kernel)) ggX12_recipeOf_X12_is
theorem dX12_recipeOf_0 : decode cX12_recipeOf 0 = .ok (.aload_n 0, 1) := by decide +kernel
theorem dX12_recipeOf_1 : decode cX12_recipeOf 1 = .ok (.iconst 0, 1) := by decide +kernel
theorem dX12_recipeOf_2 : decode cX12_recipeOf 2 = .ok (.putfield 149, 3) := by decide +kernel
theorem dX12_recipeOf_5 : decode cX12_recipeOf 5 = .ok (.aload_n 0, 1) := by decide +kernel
theorem dX12_recipeOf_6 : decode cX12_recipeOf 6 = .ok (.getfield 361, 3) := by decide +kernel
theorem dX12_recipeOf_9 : decode cX12_recipeOf 9 = .ok (.ifCond .eq 13, 3) := by decide +kernel
theorem dX12_recipeOf_12 : decode cX12_recipeOf 12 = .ok (.aload_n 0, 1) := by decide +kernel
theorem dX12_recipeOf_13 : decode cX12_recipeOf 13 = .ok (.iload_n 1, 1) := by decide +kernel
theorem dX12_recipeOf_14 : decode cX12_recipeOf 14 = .ok (.bipush 8, 2) := by decide +kernel
theorem dX12_recipeOf_16 : decode cX12_recipeOf 16 = .ok (.invokevirtual 186, 3) := by decide +kernel
theorem dX12_recipeOf_19 : decode cX12_recipeOf 19 = .ok (.ifCond .ne 5, 3) := by decide +kernel
theorem dX12_recipeOf_22 : decode cX12_recipeOf 22 = .ok (.iconst (-1), 1) := by decide +kernel
theorem dX12_recipeOf_23 : decode cX12_recipeOf 23 = .ok (.ireturn, 1) := by decide +kernel
theorem dX12_recipeOf_24 : decode cX12_recipeOf 24 = .ok (.iload_n 1, 1) := by decide +kernel
theorem dX12_recipeOf_25 : decode cX12_recipeOf 25 = .ok (.ifCond .ne 10, 3) := by decide +kernel
theorem dX12_recipeOf_28 : decode cX12_recipeOf 28 = .ok (.aload_n 0, 1) := by decide +kernel
theorem dX12_recipeOf_29 : decode cX12_recipeOf 29 = .ok (.getfield 355, 3) := by decide +kernel
theorem dX12_recipeOf_32 : decode cX12_recipeOf 32 = .ok (.goto 31, 3) := by decide +kernel
theorem dX12_recipeOf_35 : decode cX12_recipeOf 35 = .ok (.iload_n 1, 1) := by decide +kernel
theorem dX12_recipeOf_36 : decode cX12_recipeOf 36 = .ok (.iconst 1, 1) := by decide +kernel
theorem dX12_recipeOf_37 : decode cX12_recipeOf 37 = .ok (.if_icmp .ne 18, 3) := by decide +kernel
theorem dX12_recipeOf_40 : decode cX12_recipeOf 40 = .ok (.aload_n 0, 1) := by decide +kernel
theorem dX12_recipeOf_41 : decode cX12_recipeOf 41 = .ok (.getfield 358, 3) := by decide +kernel
theorem dX12_recipeOf_44 : decode cX12_recipeOf 44 = .ok (.ifCond .eq 7, 3) := by decide +kernel
theorem dX12_recipeOf_47 : decode cX12_recipeOf 47 = .ok (.iconst 1, 1) := by decide +kernel
theorem dX12_recipeOf_48 : decode cX12_recipeOf 48 = .ok (.goto 15, 3) := by decide +kernel
theorem dX12_recipeOf_51 : decode cX12_recipeOf 51 = .ok (.iconst 0, 1) := by decide +kernel
theorem dX12_recipeOf_52 : decode cX12_recipeOf 52 = .ok (.goto 11, 3) := by decide +kernel
theorem dX12_recipeOf_55 : decode cX12_recipeOf 55 = .ok (.aload_n 0, 1) := by decide +kernel
theorem dX12_recipeOf_56 : decode cX12_recipeOf 56 = .ok (.getfield 127, 3) := by decide +kernel
theorem dX12_recipeOf_59 : decode cX12_recipeOf 59 = .ok (.iload_n 1, 1) := by decide +kernel
theorem dX12_recipeOf_60 : decode cX12_recipeOf 60 = .ok (.iconst 2, 1) := by decide +kernel
theorem dX12_recipeOf_61 : decode cX12_recipeOf 61 = .ok (.isub, 1) := by decide +kernel
theorem dX12_recipeOf_62 : decode cX12_recipeOf 62 = .ok (.iaload, 1) := by decide +kernel
theorem dX12_recipeOf_63 : decode cX12_recipeOf 63 = .ok (.ireturn, 1) := by decide +kernel
set_option maxRecDepth 20000 in
theorem ggX12_recipeBy_Jxe99ae_doubleToLongBits_ccdee : GoodIn wsX12_recipeBy wsJxe99ae_doubleToLongBits_ccdee := goodIn_r _ [8, 9, 10, 11, 12, 13, 14, 15, 7, 16] (by decide +kernel) (by decide +kernel)
set_option maxRecDepth 20000 in
theorem gX12_recipeBy_Jxe99ae_doubleToLongBits_ccdee : GoodIn wsX12_recipeBy (va_wsS RX12 250 yJxe99ae_doubleToLongBits_ccdee wsJxe99ae_doubleToLongBits_ccdee) := goodIn_app (goodIn_of _ (by decide +kernel)) ggX12_recipeBy_Jxe99ae_doubleToLongBits_ccdee
theorem dX12_recipeBy_0 : decode cX12_recipeBy 0 = .ok (.aload_n 0, 1) := by decide +kernel
theorem dX12_recipeBy_1 : decode cX12_recipeBy 1 = .ok (.iconst 0, 1) := by decide +kernel
theorem dX12_recipeBy_2 : decode cX12_recipeBy 2 = .ok (.putfield 149, 3) := by decide +kernel
theorem dX12_recipeBy_5 : decode cX12_recipeBy 5 = .ok (.aload_n 0, 1) := by decide +kernel
theorem dX12_recipeBy_6 : decode cX12_recipeBy 6 = .ok (.getfield 361, 3) := by decide +kernel
theorem dX12_recipeBy_9 : decode cX12_recipeBy 9 = .ok (.ifCond .ne 5, 3) := by decide +kernel
theorem dX12_recipeBy_12 : decode cX12_recipeBy 12 = .ok (.lconst 0, 1) := by decide +kernel
theorem dX12_recipeBy_13 : decode cX12_recipeBy 13 = .ok (.lreturn, 1) := by decide +kernel
theorem dX12_recipeBy_14 : decode cX12_recipeBy 14 = .ok (.iload_n 1, 1) := by decide +kernel
theorem dX12_recipeBy_15 : decode cX12_recipeBy 15 = .ok (.ifCond .ne 13, 3) := by decide +kernel
theorem dX12_recipeBy_18 : decode cX12_recipeBy 18 = .ok (.aload_n 0, 1) := by decide +kernel
theorem dX12_recipeBy_19 : decode cX12_recipeBy 19 = .ok (.getfield 364, 3) := by decide +kernel
theorem dX12_recipeBy_22 : decode cX12_recipeBy 22 = .ok (.invokestatic 250, 3) := by decide +kernel
theorem dX12_recipeBy_25 : decode cX12_recipeBy 25 = .ok (.goto 16, 3) := by decide +kernel
theorem dX12_recipeBy_28 : decode cX12_recipeBy 28 = .ok (.iload_n 1, 1) := by decide +kernel
theorem dX12_recipeBy_29 : decode cX12_recipeBy 29 = .ok (.iconst 1, 1) := by decide +kernel
theorem dX12_recipeBy_30 : decode cX12_recipeBy 30 = .ok (.if_icmp .ne 10, 3) := by decide +kernel
theorem dX12_recipeBy_33 : decode cX12_recipeBy 33 = .ok (.aload_n 0, 1) := by decide +kernel
theorem dX12_recipeBy_34 : decode cX12_recipeBy 34 = .ok (.getfield 367, 3) := by decide +kernel
theorem dX12_recipeBy_37 : decode cX12_recipeBy 37 = .ok (.goto 4, 3) := by decide +kernel
theorem dX12_recipeBy_40 : decode cX12_recipeBy 40 = .ok (.lconst 0, 1) := by decide +kernel
theorem dX12_recipeBy_41 : decode cX12_recipeBy 41 = .ok (.lreturn, 1) := by decide +kernel
set_option maxRecDepth 20000 in
theorem ggX12_lot_X12_is : GoodIn wsX12_lot wsX12_is := goodIn_r _ [14] (by decide +kernel) (by decide +kernel)
set_option maxRecDepth 20000 in
theorem gX12_lot_X12_is : GoodIn wsX12_lot (wsV RX12 186 RX12 yX12_is wsX12_is) := goodIn_app (goodIn_of _ (by decide +kernel)) ggX12_lot_X12_is
set_option maxRecDepth 20000 in
theorem ggX12_lot_X12_no : GoodIn wsX12_lot wsX12_no := goodIn_r _ [18, 19, 35, 36, 37, 38, 39, 40, 41, 42, 43, 44, 45, 46, 47, 48, 49, 50, 51, 52, 53, 54, 55, 56, 57, 58, 59, 60, 61, 62, 63, 64, 65, 66, 67, 68, 69, 70, 71, 72, 73, 74, 75, 76, 77, 78, 79, 80, 81, 82, 83, 84, 85, 86, 87, 88, 89, 90, 91, 92, 93, 94, 95, 96, 97, 98, 99, 100, 101, 102, 103, 104, 105, 106, 107, 108, 109, 110] (by decide +kernel) (by decide +kernel)
set_option maxRecDepth 20000 in
theorem gX12_lot_X12_no : GoodIn wsX12_lot (wsV RX12 208 RX12 yX12_no wsX12_no) := goodIn_app (goodIn_of _ (by decide +kernel)) ggX12_lot_X12_no
set_option maxRecDepth 20000 in
theorem ggX12_lot_X12_isSize : GoodIn wsX12_lot wsX12_isSize := goodIn_r _ [23] (by decide +kernel) (by decide +kernel)
set_option maxRecDepth 20000 in
theorem gX12_lot_X12_isSize : GoodIn wsX12_lot (wsV RX12 303 RX12 yX12_isSize wsX12_isSize) := goodIn_app (goodIn_of _ (by decide +kernel)) ggX12_lot_X12_isSize
set_option maxRecDepth 20000 in
theorem ggX12_lot_X12_act : GoodIn wsX12_lot wsX12_act := goodIn_r _ [27, 28, 29, 30, 31, 32, 33, 34, 19, 35, 36, 37, 38, 39, 40, 41, 42, 43, 44, 45, 46, 47, 48, 49, 50, 51, 52, 53, 54, 55, 56, 57, 58, 59, 60, 61, 62, 63, 64, 65, 66, 67, 68, 69, 70, 71, 72, 73, 74, 75, 76, 77, 78, 79, 80, 81, 82, 83, 84, 85, 86, 87, 88, 89, 90, 91, 92, 93, 94, 95, 96, 97, 98, 99, 100, 101, 102, 103, 104, 105, 106, 107, 108, 109, 110] (by decide +kernel) (by decide +kernel)
set_option maxRecDepth 20000 in
theorem gX12_lot_X12_act : GoodIn wsX12_lot (wsV RX12 204 RX12 yX12_act wsX12_act) := goodIn_app (goodIn_of _ (by decide +kernel)) ggX12_lot_X12_act
theorem dX12_lot_0 : decode cX12_lot 0 = .ok (.aload_n 0, 1) := by decide +kernel
theorem dX12_lot_1 : decode cX12_lot 1 = .ok (.iconst 0, 1) := by decide +kernel
theorem dX12_lot_2 : decode cX12_lot 2 = .ok (.putfield 149, 3) := by decide +kernel
theorem dX12_lot_5 : decode cX12_lot 5 = .ok (.aload_n 0, 1) := by decide +kernel
theorem dX12_lot_6 : decode cX12_lot 6 = .ok (.iload_n 1, 1) := by decide +kernel
theorem dX12_lot_7 : decode cX12_lot 7 = .ok (.aload_n 0, 1) := by decide +kernel
theorem dX12_lot_8 : decode cX12_lot 8 = .ok (.getfield 166, 3) := by decide +kernel
theorem dX12_lot_11 : decode cX12_lot 11 = .ok (.invokevirtual 186, 3) := by decide +kernel
theorem dX12_lot_14 : decode cX12_lot 14 = .ok (.ifCond .ne 9, 3) := by decide +kernel
theorem dX12_lot_17 : decode cX12_lot 17 = .ok (.aload_n 0, 1) := by decide +kernel
theorem dX12_lot_18 : decode cX12_lot 18 = .ok (.iconst 2, 1) := by decide +kernel
theorem dX12_lot_19 : decode cX12_lot 19 = .ok (.invokevirtual 208, 3) := by decide +kernel
theorem dX12_lot_22 : decode cX12_lot 22 = .ok (.ireturn, 1) := by decide +kernel
theorem dX12_lot_23 : decode cX12_lot 23 = .ok (.aload_n 0, 1) := by decide +kernel
theorem dX12_lot_24 : decode cX12_lot 24 = .ok (.iload_n 2, 1) := by decide +kernel
theorem dX12_lot_25 : decode cX12_lot 25 = .ok (.invokevirtual 303, 3) := by decide +kernel
theorem dX12_lot_28 : decode cX12_lot 28 = .ok (.ifCond .eq 25, 3) := by decide +kernel
theorem dX12_lot_31 : decode cX12_lot 31 = .ok (.aload_n 0, 1) := by decide +kernel
theorem dX12_lot_32 : decode cX12_lot 32 = .ok (.iload_n 3, 1) := by decide +kernel
theorem dX12_lot_33 : decode cX12_lot 33 = .ok (.invokevirtual 303, 3) := by decide +kernel
theorem dX12_lot_36 : decode cX12_lot 36 = .ok (.ifCond .eq 17, 3) := by decide +kernel
theorem dX12_lot_39 : decode cX12_lot 39 = .ok (.iload 4, 2) := by decide +kernel
theorem dX12_lot_41 : decode cX12_lot 41 = .ok (.iconst 1, 1) := by decide +kernel
theorem dX12_lot_42 : decode cX12_lot 42 = .ok (.if_icmp .lt 11, 3) := by decide +kernel
theorem dX12_lot_45 : decode cX12_lot 45 = .ok (.iload 4, 2) := by decide +kernel
theorem dX12_lot_47 : decode cX12_lot 47 = .ok (.ldc_w 370, 3) := by decide +kernel
theorem dX12_lot_50 : decode cX12_lot 50 = .ok (.if_icmp .le 9, 3) := by decide +kernel
theorem dX12_lot_53 : decode cX12_lot 53 = .ok (.aload_n 0, 1) := by decide +kernel
theorem dX12_lot_54 : decode cX12_lot 54 = .ok (.iconst 3, 1) := by decide +kernel
theorem dX12_lot_55 : decode cX12_lot 55 = .ok (.invokevirtual 208, 3) := by decide +kernel
theorem dX12_lot_58 : decode cX12_lot 58 = .ok (.ireturn, 1) := by decide +kernel
theorem dX12_lot_59 : decode cX12_lot 59 = .ok (.aload_n 0, 1) := by decide +kernel
theorem dX12_lot_60 : decode cX12_lot 60 = .ok (.getfield 172, 3) := by decide +kernel
theorem dX12_lot_63 : decode cX12_lot 63 = .ok (.bipush 20, 2) := by decide +kernel
theorem dX12_lot_65 : decode cX12_lot 65 = .ok (.if_icmp .ne 9, 3) := by decide +kernel
theorem dX12_lot_68 : decode cX12_lot 68 = .ok (.aload_n 0, 1) := by decide +kernel
theorem dX12_lot_69 : decode cX12_lot 69 = .ok (.iconst 1, 1) := by decide +kernel
theorem dX12_lot_70 : decode cX12_lot 70 = .ok (.invokevirtual 208, 3) := by decide +kernel
theorem dX12_lot_73 : decode cX12_lot 73 = .ok (.ireturn, 1) := by decide +kernel
theorem dX12_lot_74 : decode cX12_lot 74 = .ok (.aload_n 0, 1) := by decide +kernel
theorem dX12_lot_75 : decode cX12_lot 75 = .ok (.getfield 29, 3) := by decide +kernel
theorem dX12_lot_78 : decode cX12_lot 78 = .ok (.aload_n 0, 1) := by decide +kernel
theorem dX12_lot_79 : decode cX12_lot 79 = .ok (.getfield 172, 3) := by decide +kernel
theorem dX12_lot_82 : decode cX12_lot 82 = .ok (.iload_n 1, 1) := by decide +kernel
theorem dX12_lot_83 : decode cX12_lot 83 = .ok (.iastore, 1) := by decide +kernel
theorem dX12_lot_84 : decode cX12_lot 84 = .ok (.aload_n 0, 1) := by decide +kernel
theorem dX12_lot_85 : decode cX12_lot 85 = .ok (.getfield 32, 3) := by decide +kernel
theorem dX12_lot_88 : decode cX12_lot 88 = .ok (.aload_n 0, 1) := by decide +kernel
theorem dX12_lot_89 : decode cX12_lot 89 = .ok (.getfield 172, 3) := by decide +kernel
theorem dX12_lot_92 : decode cX12_lot 92 = .ok (.iload_n 2, 1) := by decide +kernel
theorem dX12_lot_93 : decode cX12_lot 93 = .ok (.iastore, 1) := by decide +kernel
theorem dX12_lot_94 : decode cX12_lot 94 = .ok (.aload_n 0, 1) := by decide +kernel
theorem dX12_lot_95 : decode cX12_lot 95 = .ok (.getfield 35, 3) := by decide +kernel
theorem dX12_lot_98 : decode cX12_lot 98 = .ok (.aload_n 0, 1) := by decide +kernel
theorem dX12_lot_99 : decode cX12_lot 99 = .ok (.getfield 172, 3) := by decide +kernel
theorem dX12_lot_102 : decode cX12_lot 102 = .ok (.iload_n 3, 1) := by decide +kernel
theorem dX12_lot_103 : decode cX12_lot 103 = .ok (.iastore, 1) := by decide +kernel
theorem dX12_lot_104 : decode cX12_lot 104 = .ok (.aload_n 0, 1) := by decide +kernel
theorem dX12_lot_105 : decode cX12_lot 105 = .ok (.getfield 38, 3) := by decide +kernel
theorem dX12_lot_108 : decode cX12_lot 108 = .ok (.aload_n 0, 1) := by decide +kernel
theorem dX12_lot_109 : decode cX12_lot 109 = .ok (.getfield 172, 3) := by decide +kernel
theorem dX12_lot_112 : decode cX12_lot 112 = .ok (.iload 4, 2) := by decide +kernel
theorem dX12_lot_114 : decode cX12_lot 114 = .ok (.iastore, 1) := by decide +kernel
theorem dX12_lot_115 : decode cX12_lot 115 = .ok (.aload_n 0, 1) := by decide +kernel
theorem dX12_lot_116 : decode cX12_lot 116 = .ok (.getfield 41, 3) := by decide +kernel
theorem dX12_lot_119 : decode cX12_lot 119 = .ok (.aload_n 0, 1) := by decide +kernel
theorem dX12_lot_120 : decode cX12_lot 120 = .ok (.getfield 172, 3) := by decide +kernel
theorem dX12_lot_123 : decode cX12_lot 123 = .ok (.iload 4, 2) := by decide +kernel
theorem dX12_lot_125 : decode cX12_lot 125 = .ok (.iastore, 1) := by decide +kernel
theorem dX12_lot_126 : decode cX12_lot 126 = .ok (.aload_n 0, 1) := by decide +kernel
theorem dX12_lot_127 : decode cX12_lot 127 = .ok (.dup, 1) := by decide +kernel
theorem dX12_lot_128 : decode cX12_lot 128 = .ok (.getfield 172, 3) := by decide +kernel
theorem dX12_lot_131 : decode cX12_lot 131 = .ok (.iconst 1, 1) := by decide +kernel
theorem dX12_lot_132 : decode cX12_lot 132 = .ok (.iadd, 1) := by decide +kernel
theorem dX12_lot_133 : decode cX12_lot 133 = .ok (.putfield 172, 3) := by decide +kernel
theorem dX12_lot_136 : decode cX12_lot 136 = .ok (.aload_n 0, 1) := by decide +kernel
theorem dX12_lot_137 : decode cX12_lot 137 = .ok (.bipush 6, 2) := by decide +kernel
theorem dX12_lot_139 : decode cX12_lot 139 = .ok (.iconst 0, 1) := by decide +kernel
theorem dX12_lot_140 : decode cX12_lot 140 = .ok (.iconst 0, 1) := by decide +kernel
theorem dX12_lot_141 : decode cX12_lot 141 = .ok (.iconst 0, 1) := by decide +kernel
theorem dX12_lot_142 : decode cX12_lot 142 = .ok (.invokevirtual 204, 3) := by decide +kernel
theorem dX12_lot_145 : decode cX12_lot 145 = .ok (.aload_n 0, 1) := by decide +kernel
theorem dX12_lot_146 : decode cX12_lot 146 = .ok (.getfield 172, 3) := by decide +kernel
theorem dX12_lot_149 : decode cX12_lot 149 = .ok (.iconst 1, 1) := by decide +kernel
theorem dX12_lot_150 : decode cX12_lot 150 = .ok (.isub, 1) := by decide +kernel
theorem dX12_lot_151 : decode cX12_lot 151 = .ok (.ireturn, 1) := by decide +kernel
set_option maxRecDepth 20000 in
theorem ggX12_batch_X12_is : GoodIn wsX12_batch wsX12_is := goodIn_r _ [12] (by decide +kernel) (by decide +kernel)
set_option maxRecDepth 20000 in
theorem gX12_batch_X12_is : GoodIn wsX12_batch (wsV RX12 186 RX12 yX12_is wsX12_is) := goodIn_app (goodIn_of _ (by decide +kernel)) ggX12_batch_X12_is
set_option maxRecDepth 20000 in
theorem ggX12_batch_X12_no : GoodIn wsX12_batch wsX12_no := goodIn_r _ [16, 17, 33, 34, 35, 36, 37, 38, 39, 40, 41, 42, 43, 44, 45, 46, 47, 48, 49, 50, 51, 52, 53, 54, 55, 56, 57, 58, 59, 60, 61, 62, 63, 64, 65, 66, 67, 68, 69, 70, 71, 72, 73, 74, 75, 76, 77, 78, 79, 80, 81, 82, 83, 84, 85, 86, 87, 88, 89, 90, 91, 92, 93, 94, 95, 96, 97, 98, 99, 100, 101, 102, 103, 104, 105, 106, 107, 108] (by decide +kernel) (by decide +kernel)
set_option maxRecDepth 20000 in
theorem gX12_batch_X12_no : GoodIn wsX12_batch (wsV RX12 208 RX12 yX12_no wsX12_no) := goodIn_app (goodIn_of _ (by decide +kernel)) ggX12_batch_X12_no
set_option maxRecDepth 20000 in
theorem ggX12_batch_X12_isSize : GoodIn wsX12_batch wsX12_isSize := goodIn_r _ [21] (by decide +kernel) (by decide +kernel)
set_option maxRecDepth 20000 in
theorem gX12_batch_X12_isSize : GoodIn wsX12_batch (wsV RX12 303 RX12 yX12_isSize wsX12_isSize) := goodIn_app (goodIn_of _ (by decide +kernel)) ggX12_batch_X12_isSize
set_option maxRecDepth 20000 in
theorem ggX12_batch_X12_act : GoodIn wsX12_batch wsX12_act := goodIn_r _ [25, 26, 27, 28, 29, 30, 31, 32, 17, 33, 34, 35, 36, 37, 38, 39, 40, 41, 42, 43, 44, 45, 46, 47, 48, 49, 50, 51, 52, 53, 54, 55, 56, 57, 58, 59, 60, 61, 62, 63, 64, 65, 66, 67, 68, 69, 70, 71, 72, 73, 74, 75, 76, 77, 78, 79, 80, 81, 82, 83, 84, 85, 86, 87, 88, 89, 90, 91, 92, 93, 94, 95, 96, 97, 98, 99, 100, 101, 102, 103, 104, 105, 106, 107, 108] (by decide +kernel) (by decide +kernel)
set_option maxRecDepth 20000 in
theorem gX12_batch_X12_act : GoodIn wsX12_batch (wsV RX12 204 RX12 yX12_act wsX12_act) := goodIn_app (goodIn_of _ (by decide +kernel)) ggX12_batch_X12_act
theorem dX12_batch_0 : decode cX12_batch 0 = .ok (.aload_n 0, 1) := by decide +kernel
theorem dX12_batch_1 : decode cX12_batch 1 = .ok (.iconst 0, 1) := by decide +kernel
theorem dX12_batch_2 : decode cX12_batch 2 = .ok (.putfield 149, 3) := by decide +kernel
theorem dX12_batch_5 : decode cX12_batch 5 = .ok (.aload_n 0, 1) := by decide +kernel
theorem dX12_batch_6 : decode cX12_batch 6 = .ok (.iload_n 1, 1) := by decide +kernel
theorem dX12_batch_7 : decode cX12_batch 7 = .ok (.aload_n 0, 1) := by decide +kernel
theorem dX12_batch_8 : decode cX12_batch 8 = .ok (.getfield 163, 3) := by decide +kernel
theorem dX12_batch_11 : decode cX12_batch 11 = .ok (.invokevirtual 186, 3) := by decide +kernel
theorem dX12_batch_14 : decode cX12_batch 14 = .ok (.ifCond .ne 9, 3) := by decide +kernel
theorem dX12_batch_17 : decode cX12_batch 17 = .ok (.aload_n 0, 1) := by decide +kernel
theorem dX12_batch_18 : decode cX12_batch 18 = .ok (.iconst 2, 1) := by decide +kernel
theorem dX12_batch_19 : decode cX12_batch 19 = .ok (.invokevirtual 208, 3) := by decide +kernel
theorem dX12_batch_22 : decode cX12_batch 22 = .ok (.ireturn, 1) := by decide +kernel
theorem dX12_batch_23 : decode cX12_batch 23 = .ok (.aload_n 0, 1) := by decide +kernel
theorem dX12_batch_24 : decode cX12_batch 24 = .ok (.iload_n 2, 1) := by decide +kernel
theorem dX12_batch_25 : decode cX12_batch 25 = .ok (.invokevirtual 303, 3) := by decide +kernel
theorem dX12_batch_28 : decode cX12_batch 28 = .ok (.ifCond .ne 9, 3) := by decide +kernel
theorem dX12_batch_31 : decode cX12_batch 31 = .ok (.aload_n 0, 1) := by decide +kernel
theorem dX12_batch_32 : decode cX12_batch 32 = .ok (.iconst 3, 1) := by decide +kernel
theorem dX12_batch_33 : decode cX12_batch 33 = .ok (.invokevirtual 208, 3) := by decide +kernel
theorem dX12_batch_36 : decode cX12_batch 36 = .ok (.ireturn, 1) := by decide +kernel
theorem dX12_batch_37 : decode cX12_batch 37 = .ok (.aload_n 0, 1) := by decide +kernel
theorem dX12_batch_38 : decode cX12_batch 38 = .ok (.getfield 175, 3) := by decide +kernel
theorem dX12_batch_41 : decode cX12_batch 41 = .ok (.bipush 12, 2) := by decide +kernel
theorem dX12_batch_43 : decode cX12_batch 43 = .ok (.if_icmp .ne 9, 3) := by decide +kernel
theorem dX12_batch_46 : decode cX12_batch 46 = .ok (.aload_n 0, 1) := by decide +kernel
theorem dX12_batch_47 : decode cX12_batch 47 = .ok (.iconst 1, 1) := by decide +kernel
theorem dX12_batch_48 : decode cX12_batch 48 = .ok (.invokevirtual 208, 3) := by decide +kernel
theorem dX12_batch_51 : decode cX12_batch 51 = .ok (.ireturn, 1) := by decide +kernel
theorem dX12_batch_52 : decode cX12_batch 52 = .ok (.aload_n 0, 1) := by decide +kernel
theorem dX12_batch_53 : decode cX12_batch 53 = .ok (.getfield 44, 3) := by decide +kernel
theorem dX12_batch_56 : decode cX12_batch 56 = .ok (.aload_n 0, 1) := by decide +kernel
theorem dX12_batch_57 : decode cX12_batch 57 = .ok (.getfield 175, 3) := by decide +kernel
theorem dX12_batch_60 : decode cX12_batch 60 = .ok (.iload_n 1, 1) := by decide +kernel
theorem dX12_batch_61 : decode cX12_batch 61 = .ok (.iastore, 1) := by decide +kernel
theorem dX12_batch_62 : decode cX12_batch 62 = .ok (.aload_n 0, 1) := by decide +kernel
theorem dX12_batch_63 : decode cX12_batch 63 = .ok (.getfield 47, 3) := by decide +kernel
theorem dX12_batch_66 : decode cX12_batch 66 = .ok (.aload_n 0, 1) := by decide +kernel
theorem dX12_batch_67 : decode cX12_batch 67 = .ok (.getfield 175, 3) := by decide +kernel
theorem dX12_batch_70 : decode cX12_batch 70 = .ok (.iload_n 2, 1) := by decide +kernel
theorem dX12_batch_71 : decode cX12_batch 71 = .ok (.iastore, 1) := by decide +kernel
theorem dX12_batch_72 : decode cX12_batch 72 = .ok (.aload_n 0, 1) := by decide +kernel
theorem dX12_batch_73 : decode cX12_batch 73 = .ok (.getfield 50, 3) := by decide +kernel
theorem dX12_batch_76 : decode cX12_batch 76 = .ok (.aload_n 0, 1) := by decide +kernel
theorem dX12_batch_77 : decode cX12_batch 77 = .ok (.getfield 175, 3) := by decide +kernel
theorem dX12_batch_80 : decode cX12_batch 80 = .ok (.iconst 0, 1) := by decide +kernel
theorem dX12_batch_81 : decode cX12_batch 81 = .ok (.iastore, 1) := by decide +kernel
theorem dX12_batch_82 : decode cX12_batch 82 = .ok (.aload_n 0, 1) := by decide +kernel
theorem dX12_batch_83 : decode cX12_batch 83 = .ok (.getfield 59, 3) := by decide +kernel
theorem dX12_batch_86 : decode cX12_batch 86 = .ok (.aload_n 0, 1) := by decide +kernel
theorem dX12_batch_87 : decode cX12_batch 87 = .ok (.getfield 175, 3) := by decide +kernel
theorem dX12_batch_90 : decode cX12_batch 90 = .ok (.iconst 0, 1) := by decide +kernel
theorem dX12_batch_91 : decode cX12_batch 91 = .ok (.bastore, 1) := by decide +kernel
theorem dX12_batch_92 : decode cX12_batch 92 = .ok (.aload_n 0, 1) := by decide +kernel
theorem dX12_batch_93 : decode cX12_batch 93 = .ok (.dup, 1) := by decide +kernel
theorem dX12_batch_94 : decode cX12_batch 94 = .ok (.getfield 175, 3) := by decide +kernel
theorem dX12_batch_97 : decode cX12_batch 97 = .ok (.iconst 1, 1) := by decide +kernel
theorem dX12_batch_98 : decode cX12_batch 98 = .ok (.iadd, 1) := by decide +kernel
theorem dX12_batch_99 : decode cX12_batch 99 = .ok (.putfield 175, 3) := by decide +kernel
theorem dX12_batch_102 : decode cX12_batch 102 = .ok (.aload_n 0, 1) := by decide +kernel
theorem dX12_batch_103 : decode cX12_batch 103 = .ok (.bipush 7, 2) := by decide +kernel
theorem dX12_batch_105 : decode cX12_batch 105 = .ok (.iconst 0, 1) := by decide +kernel
theorem dX12_batch_106 : decode cX12_batch 106 = .ok (.iconst 0, 1) := by decide +kernel
theorem dX12_batch_107 : decode cX12_batch 107 = .ok (.iconst 0, 1) := by decide +kernel
theorem dX12_batch_108 : decode cX12_batch 108 = .ok (.invokevirtual 204, 3) := by decide +kernel
theorem dX12_batch_111 : decode cX12_batch 111 = .ok (.aload_n 0, 1) := by decide +kernel
theorem dX12_batch_112 : decode cX12_batch 112 = .ok (.getfield 175, 3) := by decide +kernel
theorem dX12_batch_115 : decode cX12_batch 115 = .ok (.iconst 1, 1) := by decide +kernel
theorem dX12_batch_116 : decode cX12_batch 116 = .ok (.isub, 1) := by decide +kernel
theorem dX12_batch_117 : decode cX12_batch 117 = .ok (.ireturn, 1) := by decide +kernel
theorem dX12_slotOf_0 : decode cX12_slotOf 0 = .ok (.iconst 0, 1) := by decide +kernel
theorem dX12_slotOf_1 : decode cX12_slotOf 1 = .ok (.istore_n 3, 1) := by decide +kernel
theorem dX12_slotOf_2 : decode cX12_slotOf 2 = .ok (.iload_n 3, 1) := by decide +kernel
theorem dX12_slotOf_3 : decode cX12_slotOf 3 = .ok (.aload_n 0, 1) := by decide +kernel
theorem dX12_slotOf_4 : decode cX12_slotOf 4 = .ok (.getfield 50, 3) := by decide +kernel
theorem dX12_slotOf_7 : decode cX12_slotOf 7 = .ok (.iload_n 1, 1) := by decide +kernel
theorem dX12_slotOf_8 : decode cX12_slotOf 8 = .ok (.iaload, 1) := by decide +kernel
theorem dX12_slotOf_9 : decode cX12_slotOf 9 = .ok (.if_icmp .ge 24, 3) := by decide +kernel
theorem dX12_slotOf_12 : decode cX12_slotOf 12 = .ok (.aload_n 0, 1) := by decide +kernel
theorem dX12_slotOf_13 : decode cX12_slotOf 13 = .ok (.getfield 53, 3) := by decide +kernel
theorem dX12_slotOf_16 : decode cX12_slotOf 16 = .ok (.bipush 8, 2) := by decide +kernel
theorem dX12_slotOf_18 : decode cX12_slotOf 18 = .ok (.iload_n 1, 1) := by decide +kernel
theorem dX12_slotOf_19 : decode cX12_slotOf 19 = .ok (.imul, 1) := by decide +kernel
theorem dX12_slotOf_20 : decode cX12_slotOf 20 = .ok (.iload_n 3, 1) := by decide +kernel
theorem dX12_slotOf_21 : decode cX12_slotOf 21 = .ok (.iadd, 1) := by decide +kernel
theorem dX12_slotOf_22 : decode cX12_slotOf 22 = .ok (.iaload, 1) := by decide +kernel
theorem dX12_slotOf_23 : decode cX12_slotOf 23 = .ok (.iload_n 2, 1) := by decide +kernel
theorem dX12_slotOf_24 : decode cX12_slotOf 24 = .ok (.if_icmp .eq 9, 3) := by decide +kernel
theorem dX12_slotOf_27 : decode cX12_slotOf 27 = .ok (.iinc 3 1, 3) := by decide +kernel
theorem dX12_slotOf_30 : decode cX12_slotOf 30 = .ok (.goto (-28), 3) := by decide +kernel
theorem dX12_slotOf_33 : decode cX12_slotOf 33 = .ok (.iload_n 3, 1) := by decide +kernel
theorem dX12_slotOf_34 : decode cX12_slotOf 34 = .ok (.ireturn, 1) := by decide +kernel
set_option maxRecDepth 20000 in
theorem ggX12_weigh_X12_is : GoodIn wsX12_weigh wsX12_is := goodIn_r _ [14] (by decide +kernel) (by decide +kernel)
set_option maxRecDepth 20000 in
theorem gX12_weigh_X12_is : GoodIn wsX12_weigh (wsV RX12 186 RX12 yX12_is wsX12_is) := goodIn_app (goodIn_of _ (by decide +kernel)) ggX12_weigh_X12_is
set_option maxRecDepth 20000 in
theorem ggX12_weigh_X12_no : GoodIn wsX12_weigh wsX12_no := goodIn_r _ [18, 19, 35, 36, 37, 38, 39, 40, 41, 42, 43, 44, 45, 46, 47, 48, 49, 50, 51, 52, 53, 54, 55, 56, 57, 58, 59, 60, 61, 62, 63, 64, 65, 66, 67, 68, 69, 70, 71, 72, 73, 74, 75, 76, 77, 78, 79, 80, 81, 82, 83, 84, 85, 86, 87, 88, 89, 90, 91, 92, 93, 94, 95, 96, 97, 98, 99, 100, 101, 102, 103, 104, 105, 106, 107, 108, 109, 110] (by decide +kernel) (by decide +kernel)
set_option maxRecDepth 20000 in
theorem gX12_weigh_X12_no : GoodIn wsX12_weigh (wsV RX12 208 RX12 yX12_no wsX12_no) := goodIn_app (goodIn_of _ (by decide +kernel)) ggX12_weigh_X12_no
set_option maxRecDepth 20000 in
theorem ggX12_weigh_X12_slotOf : GoodIn wsX12_weigh wsX12_slotOf := goodIn_r _ [23, 7, 8, 35, 36, 37, 38, 39, 40, 41, 42, 43, 44, 45, 46, 47, 48, 49, 50, 51, 52, 53, 54, 55, 56, 57, 58, 59, 60, 61, 62, 63, 64, 65, 66, 67, 68, 69, 70, 71, 72, 73, 74, 75, 76, 77, 78, 79, 80, 81, 82, 83, 84, 85, 86, 87, 88, 89, 90, 91, 92, 93, 94, 95, 96, 97, 98, 99, 100, 101, 102, 103, 104, 105, 106, 107, 108, 109, 110] (by decide +kernel) (by decide +kernel)
set_option maxRecDepth 20000 in
theorem gX12_weigh_X12_slotOf : GoodIn wsX12_weigh (wsV RX12 182 RX12 yX12_slotOf wsX12_slotOf) := goodIn_app (goodIn_of _ (by decide +kernel)) ggX12_weigh_X12_slotOf
set_option maxRecDepth 20000 in
theorem ggX12_weigh_X12_act : GoodIn wsX12_weigh wsX12_act := goodIn_r _ [27, 28, 29, 30, 31, 32, 33, 34, 19, 35, 36, 37, 38, 39, 40, 41, 42, 43, 44, 45, 46, 47, 48, 49, 50, 51, 52, 53, 54, 55, 56, 57, 58, 59, 60, 61, 62, 63, 64, 65, 66, 67, 68, 69, 70, 71, 72, 73, 74, 75, 76, 77, 78, 79, 80, 81, 82, 83, 84, 85, 86, 87, 88, 89, 90, 91, 92, 93, 94, 95, 96, 97, 98, 99, 100, 101, 102, 103, 104, 105, 106, 107, 108, 109, 110] (by decide +kernel) (by decide +kernel)
set_option maxRecDepth 20000 in
theorem gX12_weigh_X12_act : GoodIn wsX12_weigh (wsV RX12 204 RX12 yX12_act wsX12_act) := goodIn_app (goodIn_of _ (by decide +kernel)) ggX12_weigh_X12_act
theorem dX12_weigh_0 : decode cX12_weigh 0 = .ok (.aload_n 0, 1) := by decide +kernel
theorem dX12_weigh_1 : decode cX12_weigh 1 = .ok (.iconst 0, 1) := by decide +kernel
theorem dX12_weigh_2 : decode cX12_weigh 2 = .ok (.putfield 149, 3) := by decide +kernel
theorem dX12_weigh_5 : decode cX12_weigh 5 = .ok (.aload_n 0, 1) := by decide +kernel
theorem dX12_weigh_6 : decode cX12_weigh 6 = .ok (.iload_n 1, 1) := by decide +kernel
theorem dX12_weigh_7 : decode cX12_weigh 7 = .ok (.aload_n 0, 1) := by decide +kernel
theorem dX12_weigh_8 : decode cX12_weigh 8 = .ok (.getfield 175, 3) := by decide +kernel
theorem dX12_weigh_11 : decode cX12_weigh 11 = .ok (.invokevirtual 186, 3) := by decide +kernel
theorem dX12_weigh_14 : decode cX12_weigh 14 = .ok (.ifCond .eq 15, 3) := by decide +kernel
theorem dX12_weigh_17 : decode cX12_weigh 17 = .ok (.aload_n 0, 1) := by decide +kernel
theorem dX12_weigh_18 : decode cX12_weigh 18 = .ok (.iload_n 2, 1) := by decide +kernel
theorem dX12_weigh_19 : decode cX12_weigh 19 = .ok (.aload_n 0, 1) := by decide +kernel
theorem dX12_weigh_20 : decode cX12_weigh 20 = .ok (.getfield 172, 3) := by decide +kernel
theorem dX12_weigh_23 : decode cX12_weigh 23 = .ok (.invokevirtual 186, 3) := by decide +kernel
theorem dX12_weigh_26 : decode cX12_weigh 26 = .ok (.ifCond .ne 9, 3) := by decide +kernel
theorem dX12_weigh_29 : decode cX12_weigh 29 = .ok (.aload_n 0, 1) := by decide +kernel
theorem dX12_weigh_30 : decode cX12_weigh 30 = .ok (.iconst 2, 1) := by decide +kernel
theorem dX12_weigh_31 : decode cX12_weigh 31 = .ok (.invokevirtual 208, 3) := by decide +kernel
theorem dX12_weigh_34 : decode cX12_weigh 34 = .ok (.ireturn, 1) := by decide +kernel
theorem dX12_weigh_35 : decode cX12_weigh 35 = .ok (.iload_n 3, 1) := by decide +kernel
theorem dX12_weigh_36 : decode cX12_weigh 36 = .ok (.iconst 1, 1) := by decide +kernel
theorem dX12_weigh_37 : decode cX12_weigh 37 = .ok (.if_icmp .lt 9, 3) := by decide +kernel
theorem dX12_weigh_40 : decode cX12_weigh 40 = .ok (.iload_n 3, 1) := by decide +kernel
theorem dX12_weigh_41 : decode cX12_weigh 41 = .ok (.ldc 215, 2) := by decide +kernel
theorem dX12_weigh_43 : decode cX12_weigh 43 = .ok (.if_icmp .le 9, 3) := by decide +kernel
theorem dX12_weigh_46 : decode cX12_weigh 46 = .ok (.aload_n 0, 1) := by decide +kernel
theorem dX12_weigh_47 : decode cX12_weigh 47 = .ok (.iconst 3, 1) := by decide +kernel
theorem dX12_weigh_48 : decode cX12_weigh 48 = .ok (.invokevirtual 208, 3) := by decide +kernel
theorem dX12_weigh_51 : decode cX12_weigh 51 = .ok (.ireturn, 1) := by decide +kernel
theorem dX12_weigh_52 : decode cX12_weigh 52 = .ok (.iload_n 3, 1) := by decide +kernel
theorem dX12_weigh_53 : decode cX12_weigh 53 = .ok (.i2l, 1) := by decide +kernel
theorem dX12_weigh_54 : decode cX12_weigh 54 = .ok (.ldc2_w 371, 3) := by decide +kernel
theorem dX12_weigh_57 : decode cX12_weigh 57 = .ok (.lmul, 1) := by decide +kernel
theorem dX12_weigh_58 : decode cX12_weigh 58 = .ok (.aload_n 0, 1) := by decide +kernel
theorem dX12_weigh_59 : decode cX12_weigh 59 = .ok (.getfield 41, 3) := by decide +kernel
theorem dX12_weigh_62 : decode cX12_weigh 62 = .ok (.iload_n 2, 1) := by decide +kernel
theorem dX12_weigh_63 : decode cX12_weigh 63 = .ok (.iaload, 1) := by decide +kernel
theorem dX12_weigh_64 : decode cX12_weigh 64 = .ok (.i2l, 1) := by decide +kernel
theorem dX12_weigh_65 : decode cX12_weigh 65 = .ok (.lcmp, 1) := by decide +kernel
theorem dX12_weigh_66 : decode cX12_weigh 66 = .ok (.ifCond .le 9, 3) := by decide +kernel
theorem dX12_weigh_69 : decode cX12_weigh 69 = .ok (.aload_n 0, 1) := by decide +kernel
theorem dX12_weigh_70 : decode cX12_weigh 70 = .ok (.iconst 4, 1) := by decide +kernel
theorem dX12_weigh_71 : decode cX12_weigh 71 = .ok (.invokevirtual 208, 3) := by decide +kernel
theorem dX12_weigh_74 : decode cX12_weigh 74 = .ok (.ireturn, 1) := by decide +kernel
theorem dX12_weigh_75 : decode cX12_weigh 75 = .ok (.aload_n 0, 1) := by decide +kernel
theorem dX12_weigh_76 : decode cX12_weigh 76 = .ok (.iload_n 1, 1) := by decide +kernel
theorem dX12_weigh_77 : decode cX12_weigh 77 = .ok (.iload_n 2, 1) := by decide +kernel
theorem dX12_weigh_78 : decode cX12_weigh 78 = .ok (.invokevirtual 182, 3) := by decide +kernel
theorem dX12_weigh_81 : decode cX12_weigh 81 = .ok (.istore 4, 2) := by decide +kernel
theorem dX12_weigh_83 : decode cX12_weigh 83 = .ok (.iload 4, 2) := by decide +kernel
theorem dX12_weigh_85 : decode cX12_weigh 85 = .ok (.bipush 8, 2) := by decide +kernel
theorem dX12_weigh_87 : decode cX12_weigh 87 = .ok (.if_icmp .ne 9, 3) := by decide +kernel
theorem dX12_weigh_90 : decode cX12_weigh 90 = .ok (.aload_n 0, 1) := by decide +kernel
theorem dX12_weigh_91 : decode cX12_weigh 91 = .ok (.iconst 1, 1) := by decide +kernel
theorem dX12_weigh_92 : decode cX12_weigh 92 = .ok (.invokevirtual 208, 3) := by decide +kernel
theorem dX12_weigh_95 : decode cX12_weigh 95 = .ok (.ireturn, 1) := by decide +kernel
theorem dX12_weigh_96 : decode cX12_weigh 96 = .ok (.iload 4, 2) := by decide +kernel
theorem dX12_weigh_98 : decode cX12_weigh 98 = .ok (.aload_n 0, 1) := by decide +kernel
theorem dX12_weigh_99 : decode cX12_weigh 99 = .ok (.getfield 50, 3) := by decide +kernel
theorem dX12_weigh_102 : decode cX12_weigh 102 = .ok (.iload_n 1, 1) := by decide +kernel
theorem dX12_weigh_103 : decode cX12_weigh 103 = .ok (.iaload, 1) := by decide +kernel
theorem dX12_weigh_104 : decode cX12_weigh 104 = .ok (.if_icmp .ne 39, 3) := by decide +kernel
theorem dX12_weigh_107 : decode cX12_weigh 107 = .ok (.aload_n 0, 1) := by decide +kernel
theorem dX12_weigh_108 : decode cX12_weigh 108 = .ok (.getfield 53, 3) := by decide +kernel
theorem dX12_weigh_111 : decode cX12_weigh 111 = .ok (.bipush 8, 2) := by decide +kernel
theorem dX12_weigh_113 : decode cX12_weigh 113 = .ok (.iload_n 1, 1) := by decide +kernel
theorem dX12_weigh_114 : decode cX12_weigh 114 = .ok (.imul, 1) := by decide +kernel
theorem dX12_weigh_115 : decode cX12_weigh 115 = .ok (.iload 4, 2) := by decide +kernel
theorem dX12_weigh_117 : decode cX12_weigh 117 = .ok (.iadd, 1) := by decide +kernel
theorem dX12_weigh_118 : decode cX12_weigh 118 = .ok (.iload_n 2, 1) := by decide +kernel
theorem dX12_weigh_119 : decode cX12_weigh 119 = .ok (.iastore, 1) := by decide +kernel
theorem dX12_weigh_120 : decode cX12_weigh 120 = .ok (.aload_n 0, 1) := by decide +kernel
theorem dX12_weigh_121 : decode cX12_weigh 121 = .ok (.getfield 56, 3) := by decide +kernel
theorem dX12_weigh_124 : decode cX12_weigh 124 = .ok (.bipush 8, 2) := by decide +kernel
theorem dX12_weigh_126 : decode cX12_weigh 126 = .ok (.iload_n 1, 1) := by decide +kernel
theorem dX12_weigh_127 : decode cX12_weigh 127 = .ok (.imul, 1) := by decide +kernel
theorem dX12_weigh_128 : decode cX12_weigh 128 = .ok (.iload 4, 2) := by decide +kernel
theorem dX12_weigh_130 : decode cX12_weigh 130 = .ok (.iadd, 1) := by decide +kernel
theorem dX12_weigh_131 : decode cX12_weigh 131 = .ok (.iconst 0, 1) := by decide +kernel
theorem dX12_weigh_132 : decode cX12_weigh 132 = .ok (.iastore, 1) := by decide +kernel
theorem dX12_weigh_133 : decode cX12_weigh 133 = .ok (.aload_n 0, 1) := by decide +kernel
theorem dX12_weigh_134 : decode cX12_weigh 134 = .ok (.getfield 50, 3) := by decide +kernel
theorem dX12_weigh_137 : decode cX12_weigh 137 = .ok (.iload_n 1, 1) := by decide +kernel
theorem dX12_weigh_138 : decode cX12_weigh 138 = .ok (.dup2, 1) := by decide +kernel
theorem dX12_weigh_139 : decode cX12_weigh 139 = .ok (.iaload, 1) := by decide +kernel
theorem dX12_weigh_140 : decode cX12_weigh 140 = .ok (.iconst 1, 1) := by decide +kernel
theorem dX12_weigh_141 : decode cX12_weigh 141 = .ok (.iadd, 1) := by decide +kernel
theorem dX12_weigh_142 : decode cX12_weigh 142 = .ok (.iastore, 1) := by decide +kernel
theorem dX12_weigh_143 : decode cX12_weigh 143 = .ok (.aload_n 0, 1) := by decide +kernel
theorem dX12_weigh_144 : decode cX12_weigh 144 = .ok (.getfield 56, 3) := by decide +kernel
theorem dX12_weigh_147 : decode cX12_weigh 147 = .ok (.bipush 8, 2) := by decide +kernel
theorem dX12_weigh_149 : decode cX12_weigh 149 = .ok (.iload_n 1, 1) := by decide +kernel
theorem dX12_weigh_150 : decode cX12_weigh 150 = .ok (.imul, 1) := by decide +kernel
theorem dX12_weigh_151 : decode cX12_weigh 151 = .ok (.iload 4, 2) := by decide +kernel
theorem dX12_weigh_153 : decode cX12_weigh 153 = .ok (.iadd, 1) := by decide +kernel
theorem dX12_weigh_154 : decode cX12_weigh 154 = .ok (.dup2, 1) := by decide +kernel
theorem dX12_weigh_155 : decode cX12_weigh 155 = .ok (.iaload, 1) := by decide +kernel
theorem dX12_weigh_156 : decode cX12_weigh 156 = .ok (.iload_n 3, 1) := by decide +kernel
theorem dX12_weigh_157 : decode cX12_weigh 157 = .ok (.iadd, 1) := by decide +kernel
theorem dX12_weigh_158 : decode cX12_weigh 158 = .ok (.iastore, 1) := by decide +kernel
theorem dX12_weigh_159 : decode cX12_weigh 159 = .ok (.aload_n 0, 1) := by decide +kernel
theorem dX12_weigh_160 : decode cX12_weigh 160 = .ok (.getfield 41, 3) := by decide +kernel
theorem dX12_weigh_163 : decode cX12_weigh 163 = .ok (.iload_n 2, 1) := by decide +kernel
theorem dX12_weigh_164 : decode cX12_weigh 164 = .ok (.dup2, 1) := by decide +kernel
theorem dX12_weigh_165 : decode cX12_weigh 165 = .ok (.iaload, 1) := by decide +kernel
theorem dX12_weigh_166 : decode cX12_weigh 166 = .ok (.sipush 1000, 3) := by decide +kernel
theorem dX12_weigh_169 : decode cX12_weigh 169 = .ok (.iload_n 3, 1) := by decide +kernel
theorem dX12_weigh_170 : decode cX12_weigh 170 = .ok (.imul, 1) := by decide +kernel
theorem dX12_weigh_171 : decode cX12_weigh 171 = .ok (.isub, 1) := by decide +kernel
theorem dX12_weigh_172 : decode cX12_weigh 172 = .ok (.iastore, 1) := by decide +kernel
theorem dX12_weigh_173 : decode cX12_weigh 173 = .ok (.aload_n 0, 1) := by decide +kernel
theorem dX12_weigh_174 : decode cX12_weigh 174 = .ok (.bipush 8, 2) := by decide +kernel
theorem dX12_weigh_176 : decode cX12_weigh 176 = .ok (.iload_n 1, 1) := by decide +kernel
theorem dX12_weigh_177 : decode cX12_weigh 177 = .ok (.iload_n 2, 1) := by decide +kernel
theorem dX12_weigh_178 : decode cX12_weigh 178 = .ok (.iload_n 3, 1) := by decide +kernel
theorem dX12_weigh_179 : decode cX12_weigh 179 = .ok (.invokevirtual 204, 3) := by decide +kernel
theorem dX12_weigh_182 : decode cX12_weigh 182 = .ok (.aload_n 0, 1) := by decide +kernel
theorem dX12_weigh_183 : decode cX12_weigh 183 = .ok (.getfield 56, 3) := by decide +kernel
theorem dX12_weigh_186 : decode cX12_weigh 186 = .ok (.bipush 8, 2) := by decide +kernel
theorem dX12_weigh_188 : decode cX12_weigh 188 = .ok (.iload_n 1, 1) := by decide +kernel
theorem dX12_weigh_189 : decode cX12_weigh 189 = .ok (.imul, 1) := by decide +kernel
theorem dX12_weigh_190 : decode cX12_weigh 190 = .ok (.iload 4, 2) := by decide +kernel
theorem dX12_weigh_192 : decode cX12_weigh 192 = .ok (.iadd, 1) := by decide +kernel
theorem dX12_weigh_193 : decode cX12_weigh 193 = .ok (.iaload, 1) := by decide +kernel
theorem dX12_weigh_194 : decode cX12_weigh 194 = .ok (.ireturn, 1) := by decide +kernel
set_option maxRecDepth 20000 in
theorem ggX12_bathDistance_X12_quotient : GoodIn wsX12_bathDistance wsX12_quotient := goodIn_r _ [14, 15, 16] (by decide +kernel) (by decide +kernel)
set_option maxRecDepth 20000 in
theorem gX12_bathDistance_X12_quotient : GoodIn wsX12_bathDistance (wsV RX12 238 RX12 yX12_quotient wsX12_quotient) := goodIn_app (goodIn_of _ (by decide +kernel)) ggX12_bathDistance_X12_quotient
set_option maxRecDepth 20000 in
theorem ggX12_bathDistance_X12_lotAt : GoodIn wsX12_bathDistance wsX12_lotAt := goodIn_r _ [20, 21, 22, 23, 24, 25, 26, 13, 27, 28, 29, 30, 31, 32, 33, 1, 34, 10, 11, 12, 14, 15, 16, 80, 81, 82, 83, 84, 85, 86, 87, 88, 89, 90, 91, 92, 93, 94, 95, 96, 97, 98, 99, 100, 101, 102, 103, 104, 105, 106, 107, 108, 109, 110, 111, 112, 113, 114, 115, 116, 117, 118, 119, 120, 121, 122, 123, 124, 125, 126, 127, 128, 129, 130, 131, 132, 133, 134, 135, 136, 137, 138, 139, 140, 141, 142, 143, 144, 145, 146, 147, 148, 149, 150, 151, 152, 153, 154, 155] (by decide +kernel) (by decide +kernel)
set_option maxRecDepth 20000 in
theorem gX12_bathDistance_X12_lotAt : GoodIn wsX12_bathDistance (wsV RX12 272 RX12 yX12_lotAt wsX12_lotAt) := goodIn_app (goodIn_of _ (by decide +kernel)) ggX12_bathDistance_X12_lotAt
set_option maxRecDepth 20000 in
theorem ggX12_bathDistance_X12_bandOf : GoodIn wsX12_bathDistance wsX12_bandOf := goodIn_r _ [38, 16, 39, 40, 41, 13, 42, 43, 44, 45, 46, 47, 48, 49, 50, 51, 52, 53, 54, 55, 56, 57, 58, 59, 60, 61] (by decide +kernel) (by decide +kernel)
set_option maxRecDepth 20000 in
theorem gX12_bathDistance_X12_bandOf : GoodIn wsX12_bathDistance (wsV RX12 275 RX12 yX12_bandOf wsX12_bandOf) := goodIn_app (goodIn_of _ (by decide +kernel)) ggX12_bathDistance_X12_bandOf
set_option maxRecDepth 20000 in
theorem ggX12_bathDistance_X12_fromTo : GoodIn wsX12_bathDistance wsX12_fromTo := goodIn_r _ [65, 66, 67, 68, 69, 70, 13, 71, 72, 73, 74, 75, 76, 77, 78, 79, 1, 39, 40, 41, 42, 43, 44, 45, 46, 47, 48, 49, 50, 51, 52, 53, 54, 55, 56, 57, 58, 59, 60, 61, 80, 81, 82, 83, 84, 85, 86, 87, 88, 89, 90, 91, 92, 93, 94, 95, 96, 97, 98, 99, 100, 101, 102, 103, 104, 105, 106, 107, 108, 109, 110, 111, 112, 113, 114, 115, 116, 117, 118, 119, 120, 121, 122, 123, 124, 125, 126, 127, 128, 129, 130, 131, 132, 133, 134, 135, 136, 137, 138, 139, 140, 141, 142, 143, 144, 145, 146, 147, 148, 149, 150, 151, 152, 153, 154, 155] (by decide +kernel) (by decide +kernel)
set_option maxRecDepth 20000 in
theorem gX12_bathDistance_X12_fromTo : GoodIn wsX12_bathDistance (wsV RX12 298 RX12 yX12_fromTo wsX12_fromTo) := goodIn_app (goodIn_of _ (by decide +kernel)) ggX12_bathDistance_X12_fromTo
theorem dX12_bathDistance_0 : decode cX12_bathDistance 0 = .ok (.iconst 0, 1) := by decide +kernel
theorem dX12_bathDistance_1 : decode cX12_bathDistance 1 = .ok (.istore_n 2, 1) := by decide +kernel
theorem dX12_bathDistance_2 : decode cX12_bathDistance 2 = .ok (.iload_n 2, 1) := by decide +kernel
theorem dX12_bathDistance_3 : decode cX12_bathDistance 3 = .ok (.bipush 16, 2) := by decide +kernel
theorem dX12_bathDistance_5 : decode cX12_bathDistance 5 = .ok (.if_icmp .ge 102, 3) := by decide +kernel
theorem dX12_bathDistance_8 : decode cX12_bathDistance 8 = .ok (.aload_n 0, 1) := by decide +kernel
theorem dX12_bathDistance_9 : decode cX12_bathDistance 9 = .ok (.aload_n 0, 1) := by decide +kernel
theorem dX12_bathDistance_10 : decode cX12_bathDistance 10 = .ok (.getfield 7, 3) := by decide +kernel
theorem dX12_bathDistance_13 : decode cX12_bathDistance 13 = .ok (.bipush 16, 2) := by decide +kernel
theorem dX12_bathDistance_15 : decode cX12_bathDistance 15 = .ok (.bipush 41, 2) := by decide +kernel
theorem dX12_bathDistance_17 : decode cX12_bathDistance 17 = .ok (.aload_n 0, 1) := by decide +kernel
theorem dX12_bathDistance_18 : decode cX12_bathDistance 18 = .ok (.getfield 44, 3) := by decide +kernel
theorem dX12_bathDistance_21 : decode cX12_bathDistance 21 = .ok (.iload_n 1, 1) := by decide +kernel
theorem dX12_bathDistance_22 : decode cX12_bathDistance 22 = .ok (.iaload, 1) := by decide +kernel
theorem dX12_bathDistance_23 : decode cX12_bathDistance 23 = .ok (.iadd, 1) := by decide +kernel
theorem dX12_bathDistance_24 : decode cX12_bathDistance 24 = .ok (.imul, 1) := by decide +kernel
theorem dX12_bathDistance_25 : decode cX12_bathDistance 25 = .ok (.iload_n 2, 1) := by decide +kernel
theorem dX12_bathDistance_26 : decode cX12_bathDistance 26 = .ok (.iadd, 1) := by decide +kernel
theorem dX12_bathDistance_27 : decode cX12_bathDistance 27 = .ok (.faload, 1) := by decide +kernel
theorem dX12_bathDistance_28 : decode cX12_bathDistance 28 = .ok (.invokevirtual 238, 3) := by decide +kernel
theorem dX12_bathDistance_31 : decode cX12_bathDistance 31 = .ok (.dstore_n 3, 1) := by decide +kernel
theorem dX12_bathDistance_32 : decode cX12_bathDistance 32 = .ok (.iconst 0, 1) := by decide +kernel
theorem dX12_bathDistance_33 : decode cX12_bathDistance 33 = .ok (.istore 5, 2) := by decide +kernel
theorem dX12_bathDistance_35 : decode cX12_bathDistance 35 = .ok (.iload 5, 2) := by decide +kernel
theorem dX12_bathDistance_37 : decode cX12_bathDistance 37 = .ok (.aload_n 0, 1) := by decide +kernel
theorem dX12_bathDistance_38 : decode cX12_bathDistance 38 = .ok (.getfield 373, 3) := by decide +kernel
theorem dX12_bathDistance_41 : decode cX12_bathDistance 41 = .ok (.if_icmp .ge 45, 3) := by decide +kernel
theorem dX12_bathDistance_44 : decode cX12_bathDistance 44 = .ok (.dload_n 3, 1) := by decide +kernel
theorem dX12_bathDistance_45 : decode cX12_bathDistance 45 = .ok (.aload_n 0, 1) := by decide +kernel
theorem dX12_bathDistance_46 : decode cX12_bathDistance 46 = .ok (.aload_n 0, 1) := by decide +kernel
theorem dX12_bathDistance_47 : decode cX12_bathDistance 47 = .ok (.getfield 130, 3) := by decide +kernel
theorem dX12_bathDistance_50 : decode cX12_bathDistance 50 = .ok (.iload 5, 2) := by decide +kernel
theorem dX12_bathDistance_52 : decode cX12_bathDistance 52 = .ok (.iaload, 1) := by decide +kernel
theorem dX12_bathDistance_53 : decode cX12_bathDistance 53 = .ok (.aload_n 0, 1) := by decide +kernel
theorem dX12_bathDistance_54 : decode cX12_bathDistance 54 = .ok (.getfield 133, 3) := by decide +kernel
theorem dX12_bathDistance_57 : decode cX12_bathDistance 57 = .ok (.iload 5, 2) := by decide +kernel
theorem dX12_bathDistance_59 : decode cX12_bathDistance 59 = .ok (.iaload, 1) := by decide +kernel
theorem dX12_bathDistance_60 : decode cX12_bathDistance 60 = .ok (.i2l, 1) := by decide +kernel
theorem dX12_bathDistance_61 : decode cX12_bathDistance 61 = .ok (.ldc2_w 376, 3) := by decide +kernel
theorem dX12_bathDistance_64 : decode cX12_bathDistance 64 = .ok (.lmul, 1) := by decide +kernel
theorem dX12_bathDistance_65 : decode cX12_bathDistance 65 = .ok (.aload_n 0, 1) := by decide +kernel
theorem dX12_bathDistance_66 : decode cX12_bathDistance 66 = .ok (.getfield 47, 3) := by decide +kernel
theorem dX12_bathDistance_69 : decode cX12_bathDistance 69 = .ok (.iload_n 1, 1) := by decide +kernel
theorem dX12_bathDistance_70 : decode cX12_bathDistance 70 = .ok (.iaload, 1) := by decide +kernel
theorem dX12_bathDistance_71 : decode cX12_bathDistance 71 = .ok (.i2l, 1) := by decide +kernel
theorem dX12_bathDistance_72 : decode cX12_bathDistance 72 = .ok (.ldiv, 1) := by decide +kernel
theorem dX12_bathDistance_73 : decode cX12_bathDistance 73 = .ok (.l2d, 1) := by decide +kernel
theorem dX12_bathDistance_74 : decode cX12_bathDistance 74 = .ok (.iload_n 2, 1) := by decide +kernel
theorem dX12_bathDistance_75 : decode cX12_bathDistance 75 = .ok (.invokevirtual 272, 3) := by decide +kernel
theorem dX12_bathDistance_78 : decode cX12_bathDistance 78 = .ok (.dadd, 1) := by decide +kernel
theorem dX12_bathDistance_79 : decode cX12_bathDistance 79 = .ok (.dstore_n 3, 1) := by decide +kernel
theorem dX12_bathDistance_80 : decode cX12_bathDistance 80 = .ok (.iinc 5 1, 3) := by decide +kernel
theorem dX12_bathDistance_83 : decode cX12_bathDistance 83 = .ok (.goto (-48), 3) := by decide +kernel
theorem dX12_bathDistance_86 : decode cX12_bathDistance 86 = .ok (.aload_n 0, 1) := by decide +kernel
theorem dX12_bathDistance_87 : decode cX12_bathDistance 87 = .ok (.getfield 7, 3) := by decide +kernel
theorem dX12_bathDistance_90 : decode cX12_bathDistance 90 = .ok (.sipush 2144, 3) := by decide +kernel
theorem dX12_bathDistance_93 : decode cX12_bathDistance 93 = .ok (.iload_n 2, 1) := by decide +kernel
theorem dX12_bathDistance_94 : decode cX12_bathDistance 94 = .ok (.iadd, 1) := by decide +kernel
theorem dX12_bathDistance_95 : decode cX12_bathDistance 95 = .ok (.aload_n 0, 1) := by decide +kernel
theorem dX12_bathDistance_96 : decode cX12_bathDistance 96 = .ok (.dload_n 3, 1) := by decide +kernel
theorem dX12_bathDistance_97 : decode cX12_bathDistance 97 = .ok (.invokevirtual 275, 3) := by decide +kernel
theorem dX12_bathDistance_100 : decode cX12_bathDistance 100 = .ok (.fastore, 1) := by decide +kernel
theorem dX12_bathDistance_101 : decode cX12_bathDistance 101 = .ok (.iinc 2 1, 3) := by decide +kernel
theorem dX12_bathDistance_104 : decode cX12_bathDistance 104 = .ok (.goto (-102), 3) := by decide +kernel
theorem dX12_bathDistance_107 : decode cX12_bathDistance 107 = .ok (.aload_n 0, 1) := by decide +kernel
theorem dX12_bathDistance_108 : decode cX12_bathDistance 108 = .ok (.sipush 134, 3) := by decide +kernel
theorem dX12_bathDistance_111 : decode cX12_bathDistance 111 = .ok (.aload_n 0, 1) := by decide +kernel
theorem dX12_bathDistance_112 : decode cX12_bathDistance 112 = .ok (.getfield 323, 3) := by decide +kernel
theorem dX12_bathDistance_115 : decode cX12_bathDistance 115 = .ok (.aload_n 0, 1) := by decide +kernel
theorem dX12_bathDistance_116 : decode cX12_bathDistance 116 = .ok (.getfield 326, 3) := by decide +kernel
theorem dX12_bathDistance_119 : decode cX12_bathDistance 119 = .ok (.invokevirtual 298, 3) := by decide +kernel
theorem dX12_bathDistance_122 : decode cX12_bathDistance 122 = .ok (.dreturn, 1) := by decide +kernel
theorem dX12_adds_0 : decode cX12_adds 0 = .ok (.iload_n 2, 1) := by decide +kernel
theorem dX12_adds_1 : decode cX12_adds 1 = .ok (.ldc 215, 2) := by decide +kernel
theorem dX12_adds_3 : decode cX12_adds 3 = .ok (.if_icmp .gt 20, 3) := by decide +kernel
theorem dX12_adds_6 : decode cX12_adds 6 = .ok (.iload_n 2, 1) := by decide +kernel
theorem dX12_adds_7 : decode cX12_adds 7 = .ok (.i2l, 1) := by decide +kernel
theorem dX12_adds_8 : decode cX12_adds 8 = .ok (.ldc2_w 371, 3) := by decide +kernel
theorem dX12_adds_11 : decode cX12_adds 11 = .ok (.lmul, 1) := by decide +kernel
theorem dX12_adds_12 : decode cX12_adds 12 = .ok (.aload_n 0, 1) := by decide +kernel
theorem dX12_adds_13 : decode cX12_adds 13 = .ok (.getfield 41, 3) := by decide +kernel
theorem dX12_adds_16 : decode cX12_adds 16 = .ok (.iload_n 1, 1) := by decide +kernel
theorem dX12_adds_17 : decode cX12_adds 17 = .ok (.iaload, 1) := by decide +kernel
theorem dX12_adds_18 : decode cX12_adds 18 = .ok (.i2l, 1) := by decide +kernel
theorem dX12_adds_19 : decode cX12_adds 19 = .ok (.lcmp, 1) := by decide +kernel
theorem dX12_adds_20 : decode cX12_adds 20 = .ok (.ifCond .le 5, 3) := by decide +kernel
theorem dX12_adds_23 : decode cX12_adds 23 = .ok (.iconst 0, 1) := by decide +kernel
theorem dX12_adds_24 : decode cX12_adds 24 = .ok (.ireturn, 1) := by decide +kernel
theorem dX12_adds_25 : decode cX12_adds 25 = .ok (.iconst 0, 1) := by decide +kernel
theorem dX12_adds_26 : decode cX12_adds 26 = .ok (.istore_n 3, 1) := by decide +kernel
theorem dX12_adds_27 : decode cX12_adds 27 = .ok (.iload_n 3, 1) := by decide +kernel
theorem dX12_adds_28 : decode cX12_adds 28 = .ok (.aload_n 0, 1) := by decide +kernel
theorem dX12_adds_29 : decode cX12_adds 29 = .ok (.getfield 373, 3) := by decide +kernel
theorem dX12_adds_32 : decode cX12_adds 32 = .ok (.if_icmp .ge 19, 3) := by decide +kernel
theorem dX12_adds_35 : decode cX12_adds 35 = .ok (.aload_n 0, 1) := by decide +kernel
theorem dX12_adds_36 : decode cX12_adds 36 = .ok (.getfield 130, 3) := by decide +kernel
theorem dX12_adds_39 : decode cX12_adds 39 = .ok (.iload_n 3, 1) := by decide +kernel
theorem dX12_adds_40 : decode cX12_adds 40 = .ok (.iaload, 1) := by decide +kernel
theorem dX12_adds_41 : decode cX12_adds 41 = .ok (.iload_n 1, 1) := by decide +kernel
theorem dX12_adds_42 : decode cX12_adds 42 = .ok (.if_icmp .eq 9, 3) := by decide +kernel
theorem dX12_adds_45 : decode cX12_adds 45 = .ok (.iinc 3 1, 3) := by decide +kernel
theorem dX12_adds_48 : decode cX12_adds 48 = .ok (.goto (-21), 3) := by decide +kernel
theorem dX12_adds_51 : decode cX12_adds 51 = .ok (.iload_n 3, 1) := by decide +kernel
theorem dX12_adds_52 : decode cX12_adds 52 = .ok (.bipush 8, 2) := by decide +kernel
theorem dX12_adds_54 : decode cX12_adds 54 = .ok (.if_icmp .ne 5, 3) := by decide +kernel
theorem dX12_adds_57 : decode cX12_adds 57 = .ok (.iconst 0, 1) := by decide +kernel
theorem dX12_adds_58 : decode cX12_adds 58 = .ok (.ireturn, 1) := by decide +kernel
theorem dX12_adds_59 : decode cX12_adds 59 = .ok (.iload_n 3, 1) := by decide +kernel
theorem dX12_adds_60 : decode cX12_adds 60 = .ok (.aload_n 0, 1) := by decide +kernel
theorem dX12_adds_61 : decode cX12_adds 61 = .ok (.getfield 373, 3) := by decide +kernel
theorem dX12_adds_64 : decode cX12_adds 64 = .ok (.if_icmp .ne 27, 3) := by decide +kernel
theorem dX12_adds_67 : decode cX12_adds 67 = .ok (.aload_n 0, 1) := by decide +kernel
theorem dX12_adds_68 : decode cX12_adds 68 = .ok (.getfield 130, 3) := by decide +kernel
theorem dX12_adds_71 : decode cX12_adds 71 = .ok (.iload_n 3, 1) := by decide +kernel
theorem dX12_adds_72 : decode cX12_adds 72 = .ok (.iload_n 1, 1) := by decide +kernel
theorem dX12_adds_73 : decode cX12_adds 73 = .ok (.iastore, 1) := by decide +kernel
theorem dX12_adds_74 : decode cX12_adds 74 = .ok (.aload_n 0, 1) := by decide +kernel
theorem dX12_adds_75 : decode cX12_adds 75 = .ok (.getfield 133, 3) := by decide +kernel
theorem dX12_adds_78 : decode cX12_adds 78 = .ok (.iload_n 3, 1) := by decide +kernel
theorem dX12_adds_79 : decode cX12_adds 79 = .ok (.iconst 0, 1) := by decide +kernel
theorem dX12_adds_80 : decode cX12_adds 80 = .ok (.iastore, 1) := by decide +kernel
theorem dX12_adds_81 : decode cX12_adds 81 = .ok (.aload_n 0, 1) := by decide +kernel
theorem dX12_adds_82 : decode cX12_adds 82 = .ok (.dup, 1) := by decide +kernel
theorem dX12_adds_83 : decode cX12_adds 83 = .ok (.getfield 373, 3) := by decide +kernel
theorem dX12_adds_86 : decode cX12_adds 86 = .ok (.iconst 1, 1) := by decide +kernel
theorem dX12_adds_87 : decode cX12_adds 87 = .ok (.iadd, 1) := by decide +kernel
theorem dX12_adds_88 : decode cX12_adds 88 = .ok (.putfield 373, 3) := by decide +kernel
theorem dX12_adds_91 : decode cX12_adds 91 = .ok (.aload_n 0, 1) := by decide +kernel
theorem dX12_adds_92 : decode cX12_adds 92 = .ok (.getfield 133, 3) := by decide +kernel
theorem dX12_adds_95 : decode cX12_adds 95 = .ok (.iload_n 3, 1) := by decide +kernel
theorem dX12_adds_96 : decode cX12_adds 96 = .ok (.dup2, 1) := by decide +kernel
theorem dX12_adds_97 : decode cX12_adds 97 = .ok (.iaload, 1) := by decide +kernel
theorem dX12_adds_98 : decode cX12_adds 98 = .ok (.iload_n 2, 1) := by decide +kernel
theorem dX12_adds_99 : decode cX12_adds 99 = .ok (.iadd, 1) := by decide +kernel
theorem dX12_adds_100 : decode cX12_adds 100 = .ok (.iastore, 1) := by decide +kernel
theorem dX12_adds_101 : decode cX12_adds 101 = .ok (.iconst 1, 1) := by decide +kernel
theorem dX12_adds_102 : decode cX12_adds 102 = .ok (.ireturn, 1) := by decide +kernel
theorem dX12_bathOf_0 : decode cX12_bathOf 0 = .ok (.aload_n 0, 1) := by decide +kernel
theorem dX12_bathOf_1 : decode cX12_bathOf 1 = .ok (.aload_n 0, 1) := by decide +kernel
theorem dX12_bathOf_2 : decode cX12_bathOf 2 = .ok (.getfield 50, 3) := by decide +kernel
theorem dX12_bathOf_5 : decode cX12_bathOf 5 = .ok (.iload_n 1, 1) := by decide +kernel
theorem dX12_bathOf_6 : decode cX12_bathOf 6 = .ok (.iaload, 1) := by decide +kernel
theorem dX12_bathOf_7 : decode cX12_bathOf 7 = .ok (.putfield 373, 3) := by decide +kernel
theorem dX12_bathOf_10 : decode cX12_bathOf 10 = .ok (.iconst 0, 1) := by decide +kernel
theorem dX12_bathOf_11 : decode cX12_bathOf 11 = .ok (.istore_n 2, 1) := by decide +kernel
theorem dX12_bathOf_12 : decode cX12_bathOf 12 = .ok (.iload_n 2, 1) := by decide +kernel
theorem dX12_bathOf_13 : decode cX12_bathOf 13 = .ok (.aload_n 0, 1) := by decide +kernel
theorem dX12_bathOf_14 : decode cX12_bathOf 14 = .ok (.getfield 373, 3) := by decide +kernel
theorem dX12_bathOf_17 : decode cX12_bathOf 17 = .ok (.if_icmp .ge 43, 3) := by decide +kernel
theorem dX12_bathOf_20 : decode cX12_bathOf 20 = .ok (.aload_n 0, 1) := by decide +kernel
theorem dX12_bathOf_21 : decode cX12_bathOf 21 = .ok (.getfield 130, 3) := by decide +kernel
theorem dX12_bathOf_24 : decode cX12_bathOf 24 = .ok (.iload_n 2, 1) := by decide +kernel
theorem dX12_bathOf_25 : decode cX12_bathOf 25 = .ok (.aload_n 0, 1) := by decide +kernel
theorem dX12_bathOf_26 : decode cX12_bathOf 26 = .ok (.getfield 53, 3) := by decide +kernel
theorem dX12_bathOf_29 : decode cX12_bathOf 29 = .ok (.bipush 8, 2) := by decide +kernel
theorem dX12_bathOf_31 : decode cX12_bathOf 31 = .ok (.iload_n 1, 1) := by decide +kernel
theorem dX12_bathOf_32 : decode cX12_bathOf 32 = .ok (.imul, 1) := by decide +kernel
theorem dX12_bathOf_33 : decode cX12_bathOf 33 = .ok (.iload_n 2, 1) := by decide +kernel
theorem dX12_bathOf_34 : decode cX12_bathOf 34 = .ok (.iadd, 1) := by decide +kernel
theorem dX12_bathOf_35 : decode cX12_bathOf 35 = .ok (.iaload, 1) := by decide +kernel
theorem dX12_bathOf_36 : decode cX12_bathOf 36 = .ok (.iastore, 1) := by decide +kernel
theorem dX12_bathOf_37 : decode cX12_bathOf 37 = .ok (.aload_n 0, 1) := by decide +kernel
theorem dX12_bathOf_38 : decode cX12_bathOf 38 = .ok (.getfield 133, 3) := by decide +kernel
theorem dX12_bathOf_41 : decode cX12_bathOf 41 = .ok (.iload_n 2, 1) := by decide +kernel
theorem dX12_bathOf_42 : decode cX12_bathOf 42 = .ok (.aload_n 0, 1) := by decide +kernel
theorem dX12_bathOf_43 : decode cX12_bathOf 43 = .ok (.getfield 56, 3) := by decide +kernel
theorem dX12_bathOf_46 : decode cX12_bathOf 46 = .ok (.bipush 8, 2) := by decide +kernel
theorem dX12_bathOf_48 : decode cX12_bathOf 48 = .ok (.iload_n 1, 1) := by decide +kernel
theorem dX12_bathOf_49 : decode cX12_bathOf 49 = .ok (.imul, 1) := by decide +kernel
theorem dX12_bathOf_50 : decode cX12_bathOf 50 = .ok (.iload_n 2, 1) := by decide +kernel
theorem dX12_bathOf_51 : decode cX12_bathOf 51 = .ok (.iadd, 1) := by decide +kernel
theorem dX12_bathOf_52 : decode cX12_bathOf 52 = .ok (.iaload, 1) := by decide +kernel
theorem dX12_bathOf_53 : decode cX12_bathOf 53 = .ok (.iastore, 1) := by decide +kernel
theorem dX12_bathOf_54 : decode cX12_bathOf 54 = .ok (.iinc 2 1, 3) := by decide +kernel
theorem dX12_bathOf_57 : decode cX12_bathOf 57 = .ok (.goto (-45), 3) := by decide +kernel
theorem dX12_bathOf_60 : decode cX12_bathOf 60 = .ok (.return_, 1) := by decide +kernel
set_option maxRecDepth 20000 in
theorem ggX12_tryAddition_X12_bathOf : GoodIn wsX12_tryAddition wsX12_bathOf := goodIn_r _ [9, 10, 11, 12, 13, 14, 15, 102, 103, 104, 105, 106, 107, 108, 109, 110, 111, 112, 113, 114, 115, 116, 117, 118, 119, 120, 121, 122, 123, 124, 125, 126, 127, 128, 129, 130, 131, 132, 133, 134, 135, 136, 137, 138, 139, 140, 141, 142, 143, 144, 145, 146, 147, 148, 149, 150, 151, 152, 153, 154, 155, 156, 157, 158, 159, 160, 161, 162, 163, 164, 165, 166, 167, 168, 169, 170, 171, 172, 173, 174, 175, 176, 177] (by decide +kernel) (by decide +kernel)
set_option maxRecDepth 20000 in
theorem gX12_tryAddition_X12_bathOf : GoodIn wsX12_tryAddition (wsV RX12 378 RX12 yX12_bathOf wsX12_bathOf) := goodIn_app (goodIn_of _ (by decide +kernel)) ggX12_tryAddition_X12_bathOf
set_option maxRecDepth 20000 in
theorem ggX12_tryAddition_X12_adds : GoodIn wsX12_tryAddition wsX12_adds := goodIn_r _ [19, 20, 21, 22, 11, 12, 14, 102, 103, 104, 105, 106, 107, 108, 109, 110, 111, 112, 113, 114, 115, 116, 117, 118, 119, 120, 121, 122, 123, 124, 125, 126, 127, 128, 129, 130, 131, 132, 133, 134, 135, 136, 137, 138, 139, 140, 141, 142, 143, 144, 145, 146, 147, 148, 149, 150, 151, 152, 153, 154, 155, 156, 157, 158, 159, 160, 161, 162, 163, 164, 165, 166, 167, 168, 169, 170, 171, 172, 173, 174, 175, 176, 177] (by decide +kernel) (by decide +kernel)
set_option maxRecDepth 20000 in
theorem gX12_tryAddition_X12_adds : GoodIn wsX12_tryAddition (wsV RX12 382 RX12 yX12_adds wsX12_adds) := goodIn_app (goodIn_of _ (by decide +kernel)) ggX12_tryAddition_X12_adds
set_option maxRecDepth 20000 in
theorem ggX12_tryAddition_X12_bathDistance : GoodIn wsX12_tryAddition wsX12_bathDistance := goodIn_r _ [26, 27, 28, 11, 12, 14, 29, 30, 31, 32, 33, 34, 35, 8, 36, 37, 38, 39, 40, 41, 42, 43, 44, 45, 46, 47, 48, 49, 50, 51, 52, 53, 54, 55, 56, 57, 58, 59, 60, 61, 62, 63, 64, 65, 66, 67, 68, 69, 70, 71, 72, 73, 74, 75, 76, 77, 78, 79, 80, 81, 82, 83, 84, 85, 86, 87, 88, 89, 90, 91, 92, 93, 94, 95, 96, 97, 98, 99, 100, 101, 102, 103, 104, 105, 106, 107, 108, 109, 110, 111, 112, 113, 114, 115, 116, 117, 118, 119, 120, 121, 122, 123, 124, 125, 126, 127, 128, 129, 130, 131, 132, 133, 134, 135, 136, 137, 138, 139, 140, 141, 142, 143, 144, 145, 146, 147, 148, 149, 150, 151, 152, 153, 154, 155, 156, 157, 158, 159, 160, 161, 162, 163, 164, 165, 166, 167, 168, 169, 170, 171, 172, 173, 174, 175, 176, 177] (by decide +kernel) (by decide +kernel)
set_option maxRecDepth 20000 in
theorem gX12_tryAddition_X12_bathDistance : GoodIn wsX12_tryAddition (wsV RX12 385 RX12 yX12_bathDistance wsX12_bathDistance) := goodIn_app (goodIn_of _ (by decide +kernel)) ggX12_tryAddition_X12_bathDistance
theorem dX12_tryAddition_0 : decode cX12_tryAddition 0 = .ok (.aload_n 0, 1) := by decide +kernel
theorem dX12_tryAddition_1 : decode cX12_tryAddition 1 = .ok (.getfield 314, 3) := by decide +kernel
theorem dX12_tryAddition_4 : decode cX12_tryAddition 4 = .ok (.ifCond .eq 4, 3) := by decide +kernel
theorem dX12_tryAddition_7 : decode cX12_tryAddition 7 = .ok (.return_, 1) := by decide +kernel
theorem dX12_tryAddition_8 : decode cX12_tryAddition 8 = .ok (.aload_n 0, 1) := by decide +kernel
theorem dX12_tryAddition_9 : decode cX12_tryAddition 9 = .ok (.iload_n 1, 1) := by decide +kernel
theorem dX12_tryAddition_10 : decode cX12_tryAddition 10 = .ok (.invokevirtual 378, 3) := by decide +kernel
theorem dX12_tryAddition_13 : decode cX12_tryAddition 13 = .ok (.aload_n 0, 1) := by decide +kernel
theorem dX12_tryAddition_14 : decode cX12_tryAddition 14 = .ok (.iload_n 2, 1) := by decide +kernel
theorem dX12_tryAddition_15 : decode cX12_tryAddition 15 = .ok (.iload_n 3, 1) := by decide +kernel
theorem dX12_tryAddition_16 : decode cX12_tryAddition 16 = .ok (.invokevirtual 382, 3) := by decide +kernel
theorem dX12_tryAddition_19 : decode cX12_tryAddition 19 = .ok (.ifCond .eq 19, 3) := by decide +kernel
theorem dX12_tryAddition_22 : decode cX12_tryAddition 22 = .ok (.iload 4, 2) := by decide +kernel
theorem dX12_tryAddition_24 : decode cX12_tryAddition 24 = .ok (.ifCond .lt 15, 3) := by decide +kernel
theorem dX12_tryAddition_27 : decode cX12_tryAddition 27 = .ok (.aload_n 0, 1) := by decide +kernel
theorem dX12_tryAddition_28 : decode cX12_tryAddition 28 = .ok (.iload 4, 2) := by decide +kernel
theorem dX12_tryAddition_30 : decode cX12_tryAddition 30 = .ok (.iload 5, 2) := by decide +kernel
theorem dX12_tryAddition_32 : decode cX12_tryAddition 32 = .ok (.invokevirtual 382, 3) := by decide +kernel
theorem dX12_tryAddition_35 : decode cX12_tryAddition 35 = .ok (.ifCond .ne 4, 3) := by decide +kernel
theorem dX12_tryAddition_38 : decode cX12_tryAddition 38 = .ok (.return_, 1) := by decide +kernel
theorem dX12_tryAddition_39 : decode cX12_tryAddition 39 = .ok (.aload_n 0, 1) := by decide +kernel
theorem dX12_tryAddition_40 : decode cX12_tryAddition 40 = .ok (.getfield 311, 3) := by decide +kernel
theorem dX12_tryAddition_43 : decode cX12_tryAddition 43 = .ok (.sipush 1000, 3) := by decide +kernel
theorem dX12_tryAddition_46 : decode cX12_tryAddition 46 = .ok (.if_icmp .ne 9, 3) := by decide +kernel
theorem dX12_tryAddition_49 : decode cX12_tryAddition 49 = .ok (.aload_n 0, 1) := by decide +kernel
theorem dX12_tryAddition_50 : decode cX12_tryAddition 50 = .ok (.iconst 1, 1) := by decide +kernel
theorem dX12_tryAddition_51 : decode cX12_tryAddition 51 = .ok (.putfield 314, 3) := by decide +kernel
theorem dX12_tryAddition_54 : decode cX12_tryAddition 54 = .ok (.return_, 1) := by decide +kernel
theorem dX12_tryAddition_55 : decode cX12_tryAddition 55 = .ok (.aload_n 0, 1) := by decide +kernel
theorem dX12_tryAddition_56 : decode cX12_tryAddition 56 = .ok (.dup, 1) := by decide +kernel
theorem dX12_tryAddition_57 : decode cX12_tryAddition 57 = .ok (.getfield 311, 3) := by decide +kernel
theorem dX12_tryAddition_60 : decode cX12_tryAddition 60 = .ok (.iconst 1, 1) := by decide +kernel
theorem dX12_tryAddition_61 : decode cX12_tryAddition 61 = .ok (.iadd, 1) := by decide +kernel
theorem dX12_tryAddition_62 : decode cX12_tryAddition 62 = .ok (.putfield 311, 3) := by decide +kernel
theorem dX12_tryAddition_65 : decode cX12_tryAddition 65 = .ok (.aload_n 0, 1) := by decide +kernel
theorem dX12_tryAddition_66 : decode cX12_tryAddition 66 = .ok (.iload_n 1, 1) := by decide +kernel
theorem dX12_tryAddition_67 : decode cX12_tryAddition 67 = .ok (.invokevirtual 385, 3) := by decide +kernel
theorem dX12_tryAddition_70 : decode cX12_tryAddition 70 = .ok (.dstore 6, 2) := by decide +kernel
theorem dX12_tryAddition_72 : decode cX12_tryAddition 72 = .ok (.dload 6, 2) := by decide +kernel
theorem dX12_tryAddition_74 : decode cX12_tryAddition 74 = .ok (.aload_n 0, 1) := by decide +kernel
theorem dX12_tryAddition_75 : decode cX12_tryAddition 75 = .ok (.getfield 389, 3) := by decide +kernel
theorem dX12_tryAddition_78 : decode cX12_tryAddition 78 = .ok (.dcmp .l, 1) := by decide +kernel
theorem dX12_tryAddition_79 : decode cX12_tryAddition 79 = .ok (.ifCond .lt 4, 3) := by decide +kernel
theorem dX12_tryAddition_82 : decode cX12_tryAddition 82 = .ok (.return_, 1) := by decide +kernel
theorem dX12_tryAddition_83 : decode cX12_tryAddition 83 = .ok (.aload_n 0, 1) := by decide +kernel
theorem dX12_tryAddition_84 : decode cX12_tryAddition 84 = .ok (.dload 6, 2) := by decide +kernel
theorem dX12_tryAddition_86 : decode cX12_tryAddition 86 = .ok (.putfield 389, 3) := by decide +kernel
theorem dX12_tryAddition_89 : decode cX12_tryAddition 89 = .ok (.aload_n 0, 1) := by decide +kernel
theorem dX12_tryAddition_90 : decode cX12_tryAddition 90 = .ok (.getfield 139, 3) := by decide +kernel
theorem dX12_tryAddition_93 : decode cX12_tryAddition 93 = .ok (.iconst 0, 1) := by decide +kernel
theorem dX12_tryAddition_94 : decode cX12_tryAddition 94 = .ok (.iload_n 2, 1) := by decide +kernel
theorem dX12_tryAddition_95 : decode cX12_tryAddition 95 = .ok (.iastore, 1) := by decide +kernel
theorem dX12_tryAddition_96 : decode cX12_tryAddition 96 = .ok (.aload_n 0, 1) := by decide +kernel
theorem dX12_tryAddition_97 : decode cX12_tryAddition 97 = .ok (.getfield 139, 3) := by decide +kernel
theorem dX12_tryAddition_100 : decode cX12_tryAddition 100 = .ok (.iconst 1, 1) := by decide +kernel
theorem dX12_tryAddition_101 : decode cX12_tryAddition 101 = .ok (.iload_n 3, 1) := by decide +kernel
theorem dX12_tryAddition_102 : decode cX12_tryAddition 102 = .ok (.iastore, 1) := by decide +kernel
theorem dX12_tryAddition_103 : decode cX12_tryAddition 103 = .ok (.aload_n 0, 1) := by decide +kernel
theorem dX12_tryAddition_104 : decode cX12_tryAddition 104 = .ok (.getfield 139, 3) := by decide +kernel
theorem dX12_tryAddition_107 : decode cX12_tryAddition 107 = .ok (.iconst 2, 1) := by decide +kernel
theorem dX12_tryAddition_108 : decode cX12_tryAddition 108 = .ok (.iload 4, 2) := by decide +kernel
theorem dX12_tryAddition_110 : decode cX12_tryAddition 110 = .ok (.iastore, 1) := by decide +kernel
theorem dX12_tryAddition_111 : decode cX12_tryAddition 111 = .ok (.aload_n 0, 1) := by decide +kernel
theorem dX12_tryAddition_112 : decode cX12_tryAddition 112 = .ok (.getfield 139, 3) := by decide +kernel
theorem dX12_tryAddition_115 : decode cX12_tryAddition 115 = .ok (.iconst 3, 1) := by decide +kernel
theorem dX12_tryAddition_116 : decode cX12_tryAddition 116 = .ok (.iload 4, 2) := by decide +kernel
theorem dX12_tryAddition_118 : decode cX12_tryAddition 118 = .ok (.ifCond .lt 8, 3) := by decide +kernel
theorem dX12_tryAddition_121 : decode cX12_tryAddition 121 = .ok (.iload 5, 2) := by decide +kernel
theorem dX12_tryAddition_123 : decode cX12_tryAddition 123 = .ok (.goto 4, 3) := by decide +kernel
theorem dX12_tryAddition_126 : decode cX12_tryAddition 126 = .ok (.iconst (-1), 1) := by decide +kernel
theorem dX12_tryAddition_127 : decode cX12_tryAddition 127 = .ok (.iastore, 1) := by decide +kernel
theorem dX12_tryAddition_128 : decode cX12_tryAddition 128 = .ok (.return_, 1) := by decide +kernel
set_option maxRecDepth 20000 in
theorem ggX12_correct_X12_is : GoodIn wsX12_correct wsX12_is := goodIn_r _ [18] (by decide +kernel) (by decide +kernel)
set_option maxRecDepth 20000 in
theorem gX12_correct_X12_is : GoodIn wsX12_correct (wsV RX12 186 RX12 yX12_is wsX12_is) := goodIn_app (goodIn_of _ (by decide +kernel)) ggX12_correct_X12_is
set_option maxRecDepth 20000 in
theorem ggX12_correct_X12_no : GoodIn wsX12_correct wsX12_no := goodIn_r _ [22, 13, 125, 126, 127, 128, 129, 130, 131, 132, 133, 134, 135, 136, 137, 138, 139, 140, 141, 142, 143, 144, 145, 146, 147, 148, 149, 150, 151, 152, 153, 154, 155, 156, 157, 158, 159, 160, 161, 162, 163, 164, 165, 166, 167, 168, 169, 170, 171, 172, 173, 174, 175, 176, 177, 178, 179, 180, 181, 182, 183, 184, 185, 186, 187, 188, 189, 190, 191, 192, 193, 194, 195, 196, 197, 198, 199, 200] (by decide +kernel) (by decide +kernel)
set_option maxRecDepth 20000 in
theorem gX12_correct_X12_no : GoodIn wsX12_correct (wsV RX12 208 RX12 yX12_no wsX12_no) := goodIn_app (goodIn_of _ (by decide +kernel)) ggX12_correct_X12_no
set_option maxRecDepth 20000 in
theorem ggX12_correct_X12_goalIs : GoodIn wsX12_correct wsX12_goalIs := goodIn_r _ [26, 27, 28, 29, 30, 17, 31, 32, 33, 34, 35, 36, 37, 38, 39, 40, 41, 42, 43, 44, 45, 46, 47, 48, 49, 50, 51, 52, 53, 54, 55, 56, 57, 58, 59, 60, 61, 62, 63, 125, 126, 127, 128, 129, 130, 131, 132, 133, 134, 135, 136, 137, 138, 139, 140, 141, 142, 143, 144, 145, 146, 147, 148, 149, 150, 151, 152, 153, 154, 155, 156, 157, 158, 159, 160, 161, 162, 163, 164, 165, 166, 167, 168, 169, 170, 171, 172, 173, 174, 175, 176, 177, 178, 179, 180, 181, 182, 183, 184, 185, 186, 187, 188, 189, 190, 191, 192, 193, 194, 195, 196, 197, 198, 199, 200] (by decide +kernel) (by decide +kernel)
set_option maxRecDepth 20000 in
theorem gX12_correct_X12_goalIs : GoodIn wsX12_correct (wsV RX12 295 RX12 yX12_goalIs wsX12_goalIs) := goodIn_app (goodIn_of _ (by decide +kernel)) ggX12_correct_X12_goalIs
set_option maxRecDepth 20000 in
theorem ggX12_correct_X12_bathOf : GoodIn wsX12_correct wsX12_bathOf := goodIn_r _ [67, 68, 69, 70, 71, 72, 73, 125, 126, 127, 128, 129, 130, 131, 132, 133, 134, 135, 136, 137, 138, 139, 140, 141, 142, 143, 144, 145, 146, 147, 148, 149, 150, 151, 152, 153, 154, 155, 156, 157, 158, 159, 160, 161, 162, 163, 164, 165, 166, 167, 168, 169, 170, 171, 172, 173, 174, 175, 176, 177, 178, 179, 180, 181, 182, 183, 184, 185, 186, 187, 188, 189, 190, 191, 192, 193, 194, 195, 196, 197, 198, 199, 200] (by decide +kernel) (by decide +kernel)
set_option maxRecDepth 20000 in
theorem gX12_correct_X12_bathOf : GoodIn wsX12_correct (wsV RX12 378 RX12 yX12_bathOf wsX12_bathOf) := goodIn_app (goodIn_of _ (by decide +kernel)) ggX12_correct_X12_bathOf
set_option maxRecDepth 20000 in
theorem ggX12_correct_X12_bathDistance : GoodIn wsX12_correct wsX12_bathDistance := goodIn_r _ [77, 40, 78, 69, 70, 72, 79, 80, 4, 5, 81, 82, 83, 17, 84, 85, 86, 87, 88, 89, 90, 91, 92, 93, 94, 95, 96, 97, 98, 99, 100, 101, 102, 103, 104, 105, 106, 107, 108, 41, 42, 43, 44, 45, 46, 47, 48, 49, 50, 51, 52, 53, 54, 55, 56, 57, 58, 59, 60, 61, 62, 63, 109, 110, 111, 112, 27, 113, 28, 29, 30, 31, 32, 33, 34, 35, 36, 37, 38, 39, 125, 126, 127, 128, 129, 130, 131, 132, 133, 134, 135, 136, 137, 138, 139, 140, 141, 142, 143, 144, 145, 146, 147, 148, 149, 150, 151, 152, 153, 154, 155, 156, 157, 158, 159, 160, 161, 162, 163, 164, 165, 166, 167, 168, 169, 170, 171, 172, 173, 174, 175, 176, 177, 178, 179, 180, 181, 182, 183, 184, 185, 186, 187, 188, 189, 190, 191, 192, 193, 194, 195, 196, 197, 198, 199, 200] (by decide +kernel) (by decide +kernel)
set_option maxRecDepth 20000 in
theorem gX12_correct_X12_bathDistance : GoodIn wsX12_correct (wsV RX12 385 RX12 yX12_bathDistance wsX12_bathDistance) := goodIn_app (goodIn_of _ (by decide +kernel)) ggX12_correct_X12_bathDistance
set_option maxRecDepth 20000 in
theorem ggX12_correct_X12_tryAddition : GoodIn wsX12_correct wsX12_tryAddition := goodIn_r _ [117, 7, 6, 8, 9, 64, 65, 66, 17, 67, 68, 69, 70, 71, 72, 73, 118, 119, 120, 121, 122, 123, 124, 74, 75, 76, 77, 40, 78, 79, 80, 4, 5, 81, 82, 83, 84, 85, 86, 87, 88, 89, 90, 91, 92, 93, 94, 95, 96, 97, 98, 99, 100, 101, 102, 103, 104, 105, 106, 107, 108, 41, 42, 43, 44, 45, 46, 47, 48, 49, 50, 51, 52, 53, 54, 55, 56, 57, 58, 59, 60, 61, 62, 63, 109, 110, 111, 112, 27, 113, 28, 29, 30, 31, 32, 33, 34, 35, 36, 37, 38, 39, 125, 126, 127, 128, 129, 130, 131, 132, 133, 134, 135, 136, 137, 138, 139, 140, 141, 142, 143, 144, 145, 146, 147, 148, 149, 150, 151, 152, 153, 154, 155, 156, 157, 158, 159, 160, 161, 162, 163, 164, 165, 166, 167, 168, 169, 170, 171, 172, 173, 174, 175, 176, 177, 178, 179, 180, 181, 182, 183, 184, 185, 186, 187, 188, 189, 190, 191, 192, 193, 194, 195, 196, 197, 198, 199, 200] (by decide +kernel) (by decide +kernel)
set_option maxRecDepth 20000 in
theorem gX12_correct_X12_tryAddition : GoodIn wsX12_correct (wsV RX12 392 RX12 yX12_tryAddition wsX12_tryAddition) := goodIn_app (goodIn_of _ (by decide +kernel)) ggX12_correct_X12_tryAddition
theorem dX12_correct_0 : decode cX12_correct 0 = .ok (.aload_n 0, 1) := by decide +kernel
theorem dX12_correct_1 : decode cX12_correct 1 = .ok (.iconst 0, 1) := by decide +kernel
theorem dX12_correct_2 : decode cX12_correct 2 = .ok (.putfield 149, 3) := by decide +kernel
theorem dX12_correct_5 : decode cX12_correct 5 = .ok (.aload_n 0, 1) := by decide +kernel
theorem dX12_correct_6 : decode cX12_correct 6 = .ok (.iload_n 1, 1) := by decide +kernel
theorem dX12_correct_7 : decode cX12_correct 7 = .ok (.aload_n 0, 1) := by decide +kernel
theorem dX12_correct_8 : decode cX12_correct 8 = .ok (.getfield 175, 3) := by decide +kernel
theorem dX12_correct_11 : decode cX12_correct 11 = .ok (.invokevirtual 186, 3) := by decide +kernel
theorem dX12_correct_14 : decode cX12_correct 14 = .ok (.ifCond .eq 15, 3) := by decide +kernel
theorem dX12_correct_17 : decode cX12_correct 17 = .ok (.aload_n 0, 1) := by decide +kernel
theorem dX12_correct_18 : decode cX12_correct 18 = .ok (.iload_n 2, 1) := by decide +kernel
theorem dX12_correct_19 : decode cX12_correct 19 = .ok (.aload_n 0, 1) := by decide +kernel
theorem dX12_correct_20 : decode cX12_correct 20 = .ok (.getfield 160, 3) := by decide +kernel
theorem dX12_correct_23 : decode cX12_correct 23 = .ok (.invokevirtual 186, 3) := by decide +kernel
theorem dX12_correct_26 : decode cX12_correct 26 = .ok (.ifCond .ne 9, 3) := by decide +kernel
theorem dX12_correct_29 : decode cX12_correct 29 = .ok (.aload_n 0, 1) := by decide +kernel
theorem dX12_correct_30 : decode cX12_correct 30 = .ok (.iconst 2, 1) := by decide +kernel
theorem dX12_correct_31 : decode cX12_correct 31 = .ok (.invokevirtual 208, 3) := by decide +kernel
theorem dX12_correct_34 : decode cX12_correct 34 = .ok (.ireturn, 1) := by decide +kernel
theorem dX12_correct_35 : decode cX12_correct 35 = .ok (.aload_n 0, 1) := by decide +kernel
theorem dX12_correct_36 : decode cX12_correct 36 = .ok (.iload_n 3, 1) := by decide +kernel
theorem dX12_correct_37 : decode cX12_correct 37 = .ok (.bipush 6, 2) := by decide +kernel
theorem dX12_correct_39 : decode cX12_correct 39 = .ok (.invokevirtual 186, 3) := by decide +kernel
theorem dX12_correct_42 : decode cX12_correct 42 = .ok (.ifCond .eq 40, 3) := by decide +kernel
theorem dX12_correct_45 : decode cX12_correct 45 = .ok (.aload_n 0, 1) := by decide +kernel
theorem dX12_correct_46 : decode cX12_correct 46 = .ok (.iload 4, 2) := by decide +kernel
theorem dX12_correct_48 : decode cX12_correct 48 = .ok (.iconst 2, 1) := by decide +kernel
theorem dX12_correct_49 : decode cX12_correct 49 = .ok (.invokevirtual 186, 3) := by decide +kernel
theorem dX12_correct_52 : decode cX12_correct 52 = .ok (.ifCond .eq 30, 3) := by decide +kernel
theorem dX12_correct_55 : decode cX12_correct 55 = .ok (.iload 5, 2) := by decide +kernel
theorem dX12_correct_57 : decode cX12_correct 57 = .ok (.iconst 1, 1) := by decide +kernel
theorem dX12_correct_58 : decode cX12_correct 58 = .ok (.if_icmp .lt 24, 3) := by decide +kernel
theorem dX12_correct_61 : decode cX12_correct 61 = .ok (.iload 5, 2) := by decide +kernel
theorem dX12_correct_63 : decode cX12_correct 63 = .ok (.sipush 10000, 3) := by decide +kernel
theorem dX12_correct_66 : decode cX12_correct 66 = .ok (.if_icmp .gt 16, 3) := by decide +kernel
theorem dX12_correct_69 : decode cX12_correct 69 = .ok (.iload 6, 2) := by decide +kernel
theorem dX12_correct_71 : decode cX12_correct 71 = .ok (.iconst 1, 1) := by decide +kernel
theorem dX12_correct_72 : decode cX12_correct 72 = .ok (.if_icmp .lt 10, 3) := by decide +kernel
theorem dX12_correct_75 : decode cX12_correct 75 = .ok (.iload 6, 2) := by decide +kernel
theorem dX12_correct_77 : decode cX12_correct 77 = .ok (.bipush 12, 2) := by decide +kernel
theorem dX12_correct_79 : decode cX12_correct 79 = .ok (.if_icmp .le 9, 3) := by decide +kernel
theorem dX12_correct_82 : decode cX12_correct 82 = .ok (.aload_n 0, 1) := by decide +kernel
theorem dX12_correct_83 : decode cX12_correct 83 = .ok (.iconst 3, 1) := by decide +kernel
theorem dX12_correct_84 : decode cX12_correct 84 = .ok (.invokevirtual 208, 3) := by decide +kernel
theorem dX12_correct_87 : decode cX12_correct 87 = .ok (.ireturn, 1) := by decide +kernel
theorem dX12_correct_88 : decode cX12_correct 88 = .ok (.aload_n 0, 1) := by decide +kernel
theorem dX12_correct_89 : decode cX12_correct 89 = .ok (.iload_n 3, 1) := by decide +kernel
theorem dX12_correct_90 : decode cX12_correct 90 = .ok (.putfield 323, 3) := by decide +kernel
theorem dX12_correct_93 : decode cX12_correct 93 = .ok (.aload_n 0, 1) := by decide +kernel
theorem dX12_correct_94 : decode cX12_correct 94 = .ok (.iload 4, 2) := by decide +kernel
theorem dX12_correct_96 : decode cX12_correct 96 = .ok (.putfield 326, 3) := by decide +kernel
theorem dX12_correct_99 : decode cX12_correct 99 = .ok (.aload_n 0, 1) := by decide +kernel
theorem dX12_correct_100 : decode cX12_correct 100 = .ok (.iconst 1, 1) := by decide +kernel
theorem dX12_correct_101 : decode cX12_correct 101 = .ok (.iload_n 2, 1) := by decide +kernel
theorem dX12_correct_102 : decode cX12_correct 102 = .ok (.iadd, 1) := by decide +kernel
theorem dX12_correct_103 : decode cX12_correct 103 = .ok (.iload_n 3, 1) := by decide +kernel
theorem dX12_correct_104 : decode cX12_correct 104 = .ok (.iload 4, 2) := by decide +kernel
theorem dX12_correct_106 : decode cX12_correct 106 = .ok (.invokevirtual 295, 3) := by decide +kernel
theorem dX12_correct_109 : decode cX12_correct 109 = .ok (.aload_n 0, 1) := by decide +kernel
theorem dX12_correct_110 : decode cX12_correct 110 = .ok (.iconst 0, 1) := by decide +kernel
theorem dX12_correct_111 : decode cX12_correct 111 = .ok (.putfield 311, 3) := by decide +kernel
theorem dX12_correct_114 : decode cX12_correct 114 = .ok (.aload_n 0, 1) := by decide +kernel
theorem dX12_correct_115 : decode cX12_correct 115 = .ok (.iconst 0, 1) := by decide +kernel
theorem dX12_correct_116 : decode cX12_correct 116 = .ok (.putfield 314, 3) := by decide +kernel
theorem dX12_correct_119 : decode cX12_correct 119 = .ok (.aload_n 0, 1) := by decide +kernel
theorem dX12_correct_120 : decode cX12_correct 120 = .ok (.iload_n 1, 1) := by decide +kernel
theorem dX12_correct_121 : decode cX12_correct 121 = .ok (.invokevirtual 378, 3) := by decide +kernel
theorem dX12_correct_124 : decode cX12_correct 124 = .ok (.aload_n 0, 1) := by decide +kernel
theorem dX12_correct_125 : decode cX12_correct 125 = .ok (.aload_n 0, 1) := by decide +kernel
theorem dX12_correct_126 : decode cX12_correct 126 = .ok (.iload_n 1, 1) := by decide +kernel
theorem dX12_correct_127 : decode cX12_correct 127 = .ok (.invokevirtual 385, 3) := by decide +kernel
theorem dX12_correct_130 : decode cX12_correct 130 = .ok (.putfield 389, 3) := by decide +kernel
theorem dX12_correct_133 : decode cX12_correct 133 = .ok (.iconst 0, 1) := by decide +kernel
theorem dX12_correct_134 : decode cX12_correct 134 = .ok (.istore 7, 2) := by decide +kernel
theorem dX12_correct_136 : decode cX12_correct 136 = .ok (.iload 7, 2) := by decide +kernel
theorem dX12_correct_138 : decode cX12_correct 138 = .ok (.iconst 4, 1) := by decide +kernel
theorem dX12_correct_139 : decode cX12_correct 139 = .ok (.if_icmp .ge 17, 3) := by decide +kernel
theorem dX12_correct_142 : decode cX12_correct 142 = .ok (.aload_n 0, 1) := by decide +kernel
theorem dX12_correct_143 : decode cX12_correct 143 = .ok (.getfield 139, 3) := by decide +kernel
theorem dX12_correct_146 : decode cX12_correct 146 = .ok (.iload 7, 2) := by decide +kernel
theorem dX12_correct_148 : decode cX12_correct 148 = .ok (.iconst (-1), 1) := by decide +kernel
theorem dX12_correct_149 : decode cX12_correct 149 = .ok (.iastore, 1) := by decide +kernel
theorem dX12_correct_150 : decode cX12_correct 150 = .ok (.iinc 7 1, 3) := by decide +kernel
theorem dX12_correct_153 : decode cX12_correct 153 = .ok (.goto (-17), 3) := by decide +kernel
theorem dX12_correct_156 : decode cX12_correct 156 = .ok (.iconst 0, 1) := by decide +kernel
theorem dX12_correct_157 : decode cX12_correct 157 = .ok (.istore 7, 2) := by decide +kernel
theorem dX12_correct_159 : decode cX12_correct 159 = .ok (.iload 7, 2) := by decide +kernel
theorem dX12_correct_161 : decode cX12_correct 161 = .ok (.aload_n 0, 1) := by decide +kernel
theorem dX12_correct_162 : decode cX12_correct 162 = .ok (.getfield 172, 3) := by decide +kernel
theorem dX12_correct_165 : decode cX12_correct 165 = .ok (.if_icmp .ge 39, 3) := by decide +kernel
theorem dX12_correct_168 : decode cX12_correct 168 = .ok (.iconst 1, 1) := by decide +kernel
theorem dX12_correct_169 : decode cX12_correct 169 = .ok (.istore 8, 2) := by decide +kernel
theorem dX12_correct_171 : decode cX12_correct 171 = .ok (.iload 8, 2) := by decide +kernel
theorem dX12_correct_173 : decode cX12_correct 173 = .ok (.iload 6, 2) := by decide +kernel
theorem dX12_correct_175 : decode cX12_correct 175 = .ok (.if_icmp .gt 23, 3) := by decide +kernel
theorem dX12_correct_178 : decode cX12_correct 178 = .ok (.aload_n 0, 1) := by decide +kernel
theorem dX12_correct_179 : decode cX12_correct 179 = .ok (.iload_n 1, 1) := by decide +kernel
theorem dX12_correct_180 : decode cX12_correct 180 = .ok (.iload 7, 2) := by decide +kernel
theorem dX12_correct_182 : decode cX12_correct 182 = .ok (.iload 5, 2) := by decide +kernel
theorem dX12_correct_184 : decode cX12_correct 184 = .ok (.iload 8, 2) := by decide +kernel
theorem dX12_correct_186 : decode cX12_correct 186 = .ok (.imul, 1) := by decide +kernel
theorem dX12_correct_187 : decode cX12_correct 187 = .ok (.iconst (-1), 1) := by decide +kernel
theorem dX12_correct_188 : decode cX12_correct 188 = .ok (.iconst 0, 1) := by decide +kernel
theorem dX12_correct_189 : decode cX12_correct 189 = .ok (.invokevirtual 392, 3) := by decide +kernel
theorem dX12_correct_192 : decode cX12_correct 192 = .ok (.iinc 8 1, 3) := by decide +kernel
theorem dX12_correct_195 : decode cX12_correct 195 = .ok (.goto (-24), 3) := by decide +kernel
theorem dX12_correct_198 : decode cX12_correct 198 = .ok (.iinc 7 1, 3) := by decide +kernel
theorem dX12_correct_201 : decode cX12_correct 201 = .ok (.goto (-42), 3) := by decide +kernel
theorem dX12_correct_204 : decode cX12_correct 204 = .ok (.iconst 0, 1) := by decide +kernel
theorem dX12_correct_205 : decode cX12_correct 205 = .ok (.istore 7, 2) := by decide +kernel
theorem dX12_correct_207 : decode cX12_correct 207 = .ok (.iload 7, 2) := by decide +kernel
theorem dX12_correct_209 : decode cX12_correct 209 = .ok (.aload_n 0, 1) := by decide +kernel
theorem dX12_correct_210 : decode cX12_correct 210 = .ok (.getfield 172, 3) := by decide +kernel
theorem dX12_correct_213 : decode cX12_correct 213 = .ok (.if_icmp .ge 81, 3) := by decide +kernel
theorem dX12_correct_216 : decode cX12_correct 216 = .ok (.iload 7, 2) := by decide +kernel
theorem dX12_correct_218 : decode cX12_correct 218 = .ok (.iconst 1, 1) := by decide +kernel
theorem dX12_correct_219 : decode cX12_correct 219 = .ok (.iadd, 1) := by decide +kernel
theorem dX12_correct_220 : decode cX12_correct 220 = .ok (.istore 8, 2) := by decide +kernel
theorem dX12_correct_222 : decode cX12_correct 222 = .ok (.iload 8, 2) := by decide +kernel
theorem dX12_correct_224 : decode cX12_correct 224 = .ok (.aload_n 0, 1) := by decide +kernel
theorem dX12_correct_225 : decode cX12_correct 225 = .ok (.getfield 172, 3) := by decide +kernel
theorem dX12_correct_228 : decode cX12_correct 228 = .ok (.if_icmp .ge 60, 3) := by decide +kernel
theorem dX12_correct_231 : decode cX12_correct 231 = .ok (.iconst 1, 1) := by decide +kernel
theorem dX12_correct_232 : decode cX12_correct 232 = .ok (.istore 9, 2) := by decide +kernel
theorem dX12_correct_234 : decode cX12_correct 234 = .ok (.iload 9, 2) := by decide +kernel
theorem dX12_correct_236 : decode cX12_correct 236 = .ok (.iload 6, 2) := by decide +kernel
theorem dX12_correct_238 : decode cX12_correct 238 = .ok (.if_icmp .gt 44, 3) := by decide +kernel
theorem dX12_correct_241 : decode cX12_correct 241 = .ok (.iconst 1, 1) := by decide +kernel
theorem dX12_correct_242 : decode cX12_correct 242 = .ok (.istore 10, 2) := by decide +kernel
theorem dX12_correct_244 : decode cX12_correct 244 = .ok (.iload 10, 2) := by decide +kernel
theorem dX12_correct_246 : decode cX12_correct 246 = .ok (.iload 6, 2) := by decide +kernel
theorem dX12_correct_248 : decode cX12_correct 248 = .ok (.if_icmp .gt 28, 3) := by decide +kernel
theorem dX12_correct_251 : decode cX12_correct 251 = .ok (.aload_n 0, 1) := by decide +kernel
theorem dX12_correct_252 : decode cX12_correct 252 = .ok (.iload_n 1, 1) := by decide +kernel
theorem dX12_correct_253 : decode cX12_correct 253 = .ok (.iload 7, 2) := by decide +kernel
theorem dX12_correct_255 : decode cX12_correct 255 = .ok (.iload 5, 2) := by decide +kernel
theorem dX12_correct_257 : decode cX12_correct 257 = .ok (.iload 9, 2) := by decide +kernel
theorem dX12_correct_259 : decode cX12_correct 259 = .ok (.imul, 1) := by decide +kernel
theorem dX12_correct_260 : decode cX12_correct 260 = .ok (.iload 8, 2) := by decide +kernel
theorem dX12_correct_262 : decode cX12_correct 262 = .ok (.iload 5, 2) := by decide +kernel
theorem dX12_correct_264 : decode cX12_correct 264 = .ok (.iload 10, 2) := by decide +kernel
theorem dX12_correct_266 : decode cX12_correct 266 = .ok (.imul, 1) := by decide +kernel
theorem dX12_correct_267 : decode cX12_correct 267 = .ok (.invokevirtual 392, 3) := by decide +kernel
theorem dX12_correct_270 : decode cX12_correct 270 = .ok (.iinc 10 1, 3) := by decide +kernel
theorem dX12_correct_273 : decode cX12_correct 273 = .ok (.goto (-29), 3) := by decide +kernel
theorem dX12_correct_276 : decode cX12_correct 276 = .ok (.iinc 9 1, 3) := by decide +kernel
theorem dX12_correct_279 : decode cX12_correct 279 = .ok (.goto (-45), 3) := by decide +kernel
theorem dX12_correct_282 : decode cX12_correct 282 = .ok (.iinc 8 1, 3) := by decide +kernel
theorem dX12_correct_285 : decode cX12_correct 285 = .ok (.goto (-63), 3) := by decide +kernel
theorem dX12_correct_288 : decode cX12_correct 288 = .ok (.iinc 7 1, 3) := by decide +kernel
theorem dX12_correct_291 : decode cX12_correct 291 = .ok (.goto (-84), 3) := by decide +kernel
theorem dX12_correct_294 : decode cX12_correct 294 = .ok (.aload_n 0, 1) := by decide +kernel
theorem dX12_correct_295 : decode cX12_correct 295 = .ok (.getfield 136, 3) := by decide +kernel
theorem dX12_correct_298 : decode cX12_correct 298 = .ok (.iconst 0, 1) := by decide +kernel
theorem dX12_correct_299 : decode cX12_correct 299 = .ok (.aload_n 0, 1) := by decide +kernel
theorem dX12_correct_300 : decode cX12_correct 300 = .ok (.getfield 311, 3) := by decide +kernel
theorem dX12_correct_303 : decode cX12_correct 303 = .ok (.iastore, 1) := by decide +kernel
theorem dX12_correct_304 : decode cX12_correct 304 = .ok (.aload_n 0, 1) := by decide +kernel
theorem dX12_correct_305 : decode cX12_correct 305 = .ok (.getfield 136, 3) := by decide +kernel
theorem dX12_correct_308 : decode cX12_correct 308 = .ok (.iconst 1, 1) := by decide +kernel
theorem dX12_correct_309 : decode cX12_correct 309 = .ok (.aload_n 0, 1) := by decide +kernel
theorem dX12_correct_310 : decode cX12_correct 310 = .ok (.getfield 314, 3) := by decide +kernel
theorem dX12_correct_313 : decode cX12_correct 313 = .ok (.ifCond .eq 7, 3) := by decide +kernel
theorem dX12_correct_316 : decode cX12_correct 316 = .ok (.iconst 0, 1) := by decide +kernel
theorem dX12_correct_317 : decode cX12_correct 317 = .ok (.goto 4, 3) := by decide +kernel
theorem dX12_correct_320 : decode cX12_correct 320 = .ok (.iconst 1, 1) := by decide +kernel
theorem dX12_correct_321 : decode cX12_correct 321 = .ok (.iastore, 1) := by decide +kernel
theorem dX12_correct_322 : decode cX12_correct 322 = .ok (.iconst 0, 1) := by decide +kernel
theorem dX12_correct_323 : decode cX12_correct 323 = .ok (.istore 7, 2) := by decide +kernel
theorem dX12_correct_325 : decode cX12_correct 325 = .ok (.iload 7, 2) := by decide +kernel
theorem dX12_correct_327 : decode cX12_correct 327 = .ok (.iconst 4, 1) := by decide +kernel
theorem dX12_correct_328 : decode cX12_correct 328 = .ok (.if_icmp .ge 25, 3) := by decide +kernel
theorem dX12_correct_331 : decode cX12_correct 331 = .ok (.aload_n 0, 1) := by decide +kernel
theorem dX12_correct_332 : decode cX12_correct 332 = .ok (.getfield 136, 3) := by decide +kernel
theorem dX12_correct_335 : decode cX12_correct 335 = .ok (.iconst 2, 1) := by decide +kernel
theorem dX12_correct_336 : decode cX12_correct 336 = .ok (.iload 7, 2) := by decide +kernel
theorem dX12_correct_338 : decode cX12_correct 338 = .ok (.iadd, 1) := by decide +kernel
theorem dX12_correct_339 : decode cX12_correct 339 = .ok (.aload_n 0, 1) := by decide +kernel
theorem dX12_correct_340 : decode cX12_correct 340 = .ok (.getfield 139, 3) := by decide +kernel
theorem dX12_correct_343 : decode cX12_correct 343 = .ok (.iload 7, 2) := by decide +kernel
theorem dX12_correct_345 : decode cX12_correct 345 = .ok (.iaload, 1) := by decide +kernel
theorem dX12_correct_346 : decode cX12_correct 346 = .ok (.iastore, 1) := by decide +kernel
theorem dX12_correct_347 : decode cX12_correct 347 = .ok (.iinc 7 1, 3) := by decide +kernel
theorem dX12_correct_350 : decode cX12_correct 350 = .ok (.goto (-25), 3) := by decide +kernel
theorem dX12_correct_353 : decode cX12_correct 353 = .ok (.aload_n 0, 1) := by decide +kernel
theorem dX12_correct_354 : decode cX12_correct 354 = .ok (.iconst 1, 1) := by decide +kernel
theorem dX12_correct_355 : decode cX12_correct 355 = .ok (.putfield 396, 3) := by decide +kernel
theorem dX12_correct_358 : decode cX12_correct 358 = .ok (.aload_n 0, 1) := by decide +kernel
theorem dX12_correct_359 : decode cX12_correct 359 = .ok (.iconst 0, 1) := by decide +kernel
theorem dX12_correct_360 : decode cX12_correct 360 = .ok (.putfield 153, 3) := by decide +kernel
theorem dX12_correct_363 : decode cX12_correct 363 = .ok (.aload_n 0, 1) := by decide +kernel
theorem dX12_correct_364 : decode cX12_correct 364 = .ok (.getfield 139, 3) := by decide +kernel
theorem dX12_correct_367 : decode cX12_correct 367 = .ok (.iconst 0, 1) := by decide +kernel
theorem dX12_correct_368 : decode cX12_correct 368 = .ok (.iaload, 1) := by decide +kernel
theorem dX12_correct_369 : decode cX12_correct 369 = .ok (.iconst (-1), 1) := by decide +kernel
theorem dX12_correct_370 : decode cX12_correct 370 = .ok (.if_icmp .ne 7, 3) := by decide +kernel
theorem dX12_correct_373 : decode cX12_correct 373 = .ok (.iconst 0, 1) := by decide +kernel
theorem dX12_correct_374 : decode cX12_correct 374 = .ok (.goto 18, 3) := by decide +kernel
theorem dX12_correct_377 : decode cX12_correct 377 = .ok (.aload_n 0, 1) := by decide +kernel
theorem dX12_correct_378 : decode cX12_correct 378 = .ok (.getfield 139, 3) := by decide +kernel
theorem dX12_correct_381 : decode cX12_correct 381 = .ok (.iconst 2, 1) := by decide +kernel
theorem dX12_correct_382 : decode cX12_correct 382 = .ok (.iaload, 1) := by decide +kernel
theorem dX12_correct_383 : decode cX12_correct 383 = .ok (.iconst (-1), 1) := by decide +kernel
theorem dX12_correct_384 : decode cX12_correct 384 = .ok (.if_icmp .ne 7, 3) := by decide +kernel
theorem dX12_correct_387 : decode cX12_correct 387 = .ok (.iconst 1, 1) := by decide +kernel
theorem dX12_correct_388 : decode cX12_correct 388 = .ok (.goto 4, 3) := by decide +kernel
theorem dX12_correct_391 : decode cX12_correct 391 = .ok (.iconst 2, 1) := by decide +kernel
theorem dX12_correct_392 : decode cX12_correct 392 = .ok (.ireturn, 1) := by decide +kernel
set_option maxRecDepth 20000 in
theorem ggX12_addition_X12_is : GoodIn wsX12_addition wsX12_is := goodIn_r _ [8] (by decide +kernel) (by decide +kernel)
set_option maxRecDepth 20000 in
theorem gX12_addition_X12_is : GoodIn wsX12_addition (wsV RX12 186 RX12 yX12_is wsX12_is) := goodIn_app (goodIn_of _ (by decide +kernel)) ggX12_addition_X12_is
theorem dX12_addition_0 : decode cX12_addition 0 = .ok (.aload_n 0, 1) := by decide +kernel
theorem dX12_addition_1 : decode cX12_addition 1 = .ok (.iconst 0, 1) := by decide +kernel
theorem dX12_addition_2 : decode cX12_addition 2 = .ok (.putfield 149, 3) := by decide +kernel
theorem dX12_addition_5 : decode cX12_addition 5 = .ok (.aload_n 0, 1) := by decide +kernel
theorem dX12_addition_6 : decode cX12_addition 6 = .ok (.getfield 396, 3) := by decide +kernel
theorem dX12_addition_9 : decode cX12_addition 9 = .ok (.ifCond .eq 22, 3) := by decide +kernel
theorem dX12_addition_12 : decode cX12_addition 12 = .ok (.aload_n 0, 1) := by decide +kernel
theorem dX12_addition_13 : decode cX12_addition 13 = .ok (.iload_n 1, 1) := by decide +kernel
theorem dX12_addition_14 : decode cX12_addition 14 = .ok (.bipush 6, 2) := by decide +kernel
theorem dX12_addition_16 : decode cX12_addition 16 = .ok (.invokevirtual 186, 3) := by decide +kernel
theorem dX12_addition_19 : decode cX12_addition 19 = .ok (.ifCond .eq 12, 3) := by decide +kernel
theorem dX12_addition_22 : decode cX12_addition 22 = .ok (.aload_n 0, 1) := by decide +kernel
theorem dX12_addition_23 : decode cX12_addition 23 = .ok (.getfield 136, 3) := by decide +kernel
theorem dX12_addition_26 : decode cX12_addition 26 = .ok (.iload_n 1, 1) := by decide +kernel
theorem dX12_addition_27 : decode cX12_addition 27 = .ok (.iaload, 1) := by decide +kernel
theorem dX12_addition_28 : decode cX12_addition 28 = .ok (.goto 4, 3) := by decide +kernel
theorem dX12_addition_31 : decode cX12_addition 31 = .ok (.iconst (-1), 1) := by decide +kernel
theorem dX12_addition_32 : decode cX12_addition 32 = .ok (.ireturn, 1) := by decide +kernel
set_option maxRecDepth 20000 in
theorem ggX12_measured_X12_is : GoodIn wsX12_measured wsX12_is := goodIn_r _ [8] (by decide +kernel) (by decide +kernel)
set_option maxRecDepth 20000 in
theorem gX12_measured_X12_is : GoodIn wsX12_measured (wsV RX12 186 RX12 yX12_is wsX12_is) := goodIn_app (goodIn_of _ (by decide +kernel)) ggX12_measured_X12_is
set_option maxRecDepth 20000 in
theorem ggX12_measured_X12_not : GoodIn wsX12_measured wsX12_not := goodIn_r _ [12, 13, 35, 36, 37, 38, 39, 40, 41, 42, 43, 44, 45, 46, 47, 48, 49, 50, 51, 52, 53, 54, 55, 56, 57, 58, 59, 60, 61, 62, 63, 64, 65, 66, 67, 68, 69, 70, 71, 72, 73, 74, 75, 76, 77, 78, 79, 80, 81, 82, 83, 84, 85, 86, 87, 88, 89, 90, 91, 92, 93, 94, 95, 96, 97, 98, 99, 100, 101, 102, 103, 104, 105, 106, 107, 108, 109, 110] (by decide +kernel) (by decide +kernel)
set_option maxRecDepth 20000 in
theorem gX12_measured_X12_not : GoodIn wsX12_measured (wsV RX12 216 RX12 yX12_not wsX12_not) := goodIn_app (goodIn_of _ (by decide +kernel)) ggX12_measured_X12_not
set_option maxRecDepth 20000 in
theorem ggX12_measured_X12_act : GoodIn wsX12_measured wsX12_act := goodIn_r _ [17, 18, 19, 20, 21, 22, 23, 24, 13, 35, 36, 37, 38, 39, 40, 41, 42, 43, 44, 45, 46, 47, 48, 49, 50, 51, 52, 53, 54, 55, 56, 57, 58, 59, 60, 61, 62, 63, 64, 65, 66, 67, 68, 69, 70, 71, 72, 73, 74, 75, 76, 77, 78, 79, 80, 81, 82, 83, 84, 85, 86, 87, 88, 89, 90, 91, 92, 93, 94, 95, 96, 97, 98, 99, 100, 101, 102, 103, 104, 105, 106, 107, 108, 109, 110] (by decide +kernel) (by decide +kernel)
set_option maxRecDepth 20000 in
theorem gX12_measured_X12_act : GoodIn wsX12_measured (wsV RX12 204 RX12 yX12_act wsX12_act) := goodIn_app (goodIn_of _ (by decide +kernel)) ggX12_measured_X12_act
set_option maxRecDepth 20000 in
theorem ggX12_measured_X12_note : GoodIn wsX12_measured wsX12_note := goodIn_r _ [28, 23, 18, 29, 24, 30, 35, 36, 37, 38, 39, 40, 41, 42, 43, 44, 45, 46, 47, 48, 49, 50, 51, 52, 53, 54, 55, 56, 57, 58, 59, 60, 61, 62, 63, 64, 65, 66, 67, 68, 69, 70, 71, 72, 73, 74, 75, 76, 77, 78, 79, 80, 81, 82, 83, 84, 85, 86, 87, 88, 89, 90, 91, 92, 93, 94, 95, 96, 97, 98, 99, 100, 101, 102, 103, 104, 105, 106, 107, 108, 109, 110] (by decide +kernel) (by decide +kernel)
set_option maxRecDepth 20000 in
theorem gX12_measured_X12_note : GoodIn wsX12_measured (wsV RX12 399 RX12 yX12_note wsX12_note) := goodIn_app (goodIn_of _ (by decide +kernel)) ggX12_measured_X12_note
set_option maxRecDepth 20000 in
theorem ggX12_measured_X12_copy : GoodIn wsX12_measured wsX12_copy := goodIn_r _ [34, 29, 35, 36, 37, 38, 39, 40, 41, 42, 43, 44, 45, 46, 47, 48, 49, 50, 51, 52, 53, 54, 55, 56, 57, 58, 59, 60, 61, 62, 63, 64, 65, 66, 67, 68, 69, 70, 71, 72, 73, 74, 75, 76, 77, 78, 79, 80, 81, 82, 83, 84, 85, 86, 87, 88, 89, 90, 91, 92, 93, 94, 95, 96, 97, 98, 99, 100, 101, 102, 103, 104, 105, 106, 107, 108, 109, 110] (by decide +kernel) (by decide +kernel)
set_option maxRecDepth 20000 in
theorem gX12_measured_X12_copy : GoodIn wsX12_measured (wsV RX12 200 RX12 yX12_copy wsX12_copy) := goodIn_app (goodIn_of _ (by decide +kernel)) ggX12_measured_X12_copy
theorem dX12_measured_0 : decode cX12_measured 0 = .ok (.aload_n 0, 1) := by decide +kernel
theorem dX12_measured_1 : decode cX12_measured 1 = .ok (.iconst 0, 1) := by decide +kernel
theorem dX12_measured_2 : decode cX12_measured 2 = .ok (.putfield 149, 3) := by decide +kernel
theorem dX12_measured_5 : decode cX12_measured 5 = .ok (.aload_n 0, 1) := by decide +kernel
theorem dX12_measured_6 : decode cX12_measured 6 = .ok (.iload_n 1, 1) := by decide +kernel
theorem dX12_measured_7 : decode cX12_measured 7 = .ok (.aload_n 0, 1) := by decide +kernel
theorem dX12_measured_8 : decode cX12_measured 8 = .ok (.getfield 175, 3) := by decide +kernel
theorem dX12_measured_11 : decode cX12_measured 11 = .ok (.invokevirtual 186, 3) := by decide +kernel
theorem dX12_measured_14 : decode cX12_measured 14 = .ok (.ifCond .ne 9, 3) := by decide +kernel
theorem dX12_measured_17 : decode cX12_measured 17 = .ok (.aload_n 0, 1) := by decide +kernel
theorem dX12_measured_18 : decode cX12_measured 18 = .ok (.iconst 2, 1) := by decide +kernel
theorem dX12_measured_19 : decode cX12_measured 19 = .ok (.invokevirtual 216, 3) := by decide +kernel
theorem dX12_measured_22 : decode cX12_measured 22 = .ok (.ireturn, 1) := by decide +kernel
theorem dX12_measured_23 : decode cX12_measured 23 = .ok (.aload_n 0, 1) := by decide +kernel
theorem dX12_measured_24 : decode cX12_measured 24 = .ok (.bipush 9, 2) := by decide +kernel
theorem dX12_measured_26 : decode cX12_measured 26 = .ok (.iload_n 1, 1) := by decide +kernel
theorem dX12_measured_27 : decode cX12_measured 27 = .ok (.aload_n 0, 1) := by decide +kernel
theorem dX12_measured_28 : decode cX12_measured 28 = .ok (.getfield 59, 3) := by decide +kernel
theorem dX12_measured_31 : decode cX12_measured 31 = .ok (.iload_n 1, 1) := by decide +kernel
theorem dX12_measured_32 : decode cX12_measured 32 = .ok (.baload, 1) := by decide +kernel
theorem dX12_measured_33 : decode cX12_measured 33 = .ok (.ifCond .eq 7, 3) := by decide +kernel
theorem dX12_measured_36 : decode cX12_measured 36 = .ok (.iconst 1, 1) := by decide +kernel
theorem dX12_measured_37 : decode cX12_measured 37 = .ok (.goto 4, 3) := by decide +kernel
theorem dX12_measured_40 : decode cX12_measured 40 = .ok (.iconst 0, 1) := by decide +kernel
theorem dX12_measured_41 : decode cX12_measured 41 = .ok (.iconst 0, 1) := by decide +kernel
theorem dX12_measured_42 : decode cX12_measured 42 = .ok (.invokevirtual 204, 3) := by decide +kernel
theorem dX12_measured_45 : decode cX12_measured 45 = .ok (.aload_n 0, 1) := by decide +kernel
theorem dX12_measured_46 : decode cX12_measured 46 = .ok (.bipush 50, 2) := by decide +kernel
theorem dX12_measured_48 : decode cX12_measured 48 = .ok (.iload_n 1, 1) := by decide +kernel
theorem dX12_measured_49 : decode cX12_measured 49 = .ok (.iadd, 1) := by decide +kernel
theorem dX12_measured_50 : decode cX12_measured 50 = .ok (.iconst (-1), 1) := by decide +kernel
theorem dX12_measured_51 : decode cX12_measured 51 = .ok (.invokevirtual 399, 3) := by decide +kernel
theorem dX12_measured_54 : decode cX12_measured 54 = .ok (.aload_n 0, 1) := by decide +kernel
theorem dX12_measured_55 : decode cX12_measured 55 = .ok (.iconst 0, 1) := by decide +kernel
theorem dX12_measured_56 : decode cX12_measured 56 = .ok (.bipush 50, 2) := by decide +kernel
theorem dX12_measured_58 : decode cX12_measured 58 = .ok (.iload_n 1, 1) := by decide +kernel
theorem dX12_measured_59 : decode cX12_measured 59 = .ok (.iadd, 1) := by decide +kernel
theorem dX12_measured_60 : decode cX12_measured 60 = .ok (.invokevirtual 200, 3) := by decide +kernel
theorem dX12_measured_63 : decode cX12_measured 63 = .ok (.aload_n 0, 1) := by decide +kernel
theorem dX12_measured_64 : decode cX12_measured 64 = .ok (.getfield 59, 3) := by decide +kernel
theorem dX12_measured_67 : decode cX12_measured 67 = .ok (.iload_n 1, 1) := by decide +kernel
theorem dX12_measured_68 : decode cX12_measured 68 = .ok (.iconst 1, 1) := by decide +kernel
theorem dX12_measured_69 : decode cX12_measured 69 = .ok (.bastore, 1) := by decide +kernel
theorem dX12_measured_70 : decode cX12_measured 70 = .ok (.iconst 1, 1) := by decide +kernel
theorem dX12_measured_71 : decode cX12_measured 71 = .ok (.ireturn, 1) := by decide +kernel
set_option maxRecDepth 20000 in
theorem ggX12_passes_X12_is : GoodIn wsX12_passes wsX12_is := goodIn_r _ [9] (by decide +kernel) (by decide +kernel)
set_option maxRecDepth 20000 in
theorem gX12_passes_X12_is : GoodIn wsX12_passes (wsV RX12 186 RX12 yX12_is wsX12_is) := goodIn_app (goodIn_of _ (by decide +kernel)) ggX12_passes_X12_is
set_option maxRecDepth 20000 in
theorem ggX12_passes_X12_insideOf : GoodIn wsX12_passes wsX12_insideOf := goodIn_r _ [13, 14, 15, 16, 17, 18, 19, 20, 21, 8, 22, 23, 24, 25, 26, 27, 28, 29, 30, 31, 32, 33, 34, 35, 36, 37, 38, 39, 40, 41, 42, 43, 44, 45, 46, 47, 48, 49, 50, 51, 52, 53, 54, 55, 56, 57, 58, 59, 60, 61, 62, 63, 64, 65, 66, 67, 68, 69, 70, 71, 72, 73, 74, 75, 76, 77, 78, 79, 80, 81, 82, 83, 84, 85, 86, 87, 88, 89, 90, 91, 92, 93, 94, 95, 96, 97, 98, 99, 100, 101, 102, 103, 104, 105, 106, 107, 108, 109, 110, 111, 112, 113, 114, 115, 116, 117, 118, 119, 120, 121, 122, 123, 124, 125, 126, 127, 128, 129, 130] (by decide +kernel) (by decide +kernel)
set_option maxRecDepth 20000 in
theorem gX12_passes_X12_insideOf : GoodIn wsX12_passes (wsV RX12 308 RX12 yX12_insideOf wsX12_insideOf) := goodIn_app (goodIn_of _ (by decide +kernel)) ggX12_passes_X12_insideOf
theorem dX12_passes_0 : decode cX12_passes 0 = .ok (.aload_n 0, 1) := by decide +kernel
theorem dX12_passes_1 : decode cX12_passes 1 = .ok (.iconst 0, 1) := by decide +kernel
theorem dX12_passes_2 : decode cX12_passes 2 = .ok (.putfield 149, 3) := by decide +kernel
theorem dX12_passes_5 : decode cX12_passes 5 = .ok (.aload_n 0, 1) := by decide +kernel
theorem dX12_passes_6 : decode cX12_passes 6 = .ok (.iload_n 1, 1) := by decide +kernel
theorem dX12_passes_7 : decode cX12_passes 7 = .ok (.aload_n 0, 1) := by decide +kernel
theorem dX12_passes_8 : decode cX12_passes 8 = .ok (.getfield 175, 3) := by decide +kernel
theorem dX12_passes_11 : decode cX12_passes 11 = .ok (.invokevirtual 186, 3) := by decide +kernel
theorem dX12_passes_14 : decode cX12_passes 14 = .ok (.ifCond .eq 24, 3) := by decide +kernel
theorem dX12_passes_17 : decode cX12_passes 17 = .ok (.aload_n 0, 1) := by decide +kernel
theorem dX12_passes_18 : decode cX12_passes 18 = .ok (.iload_n 2, 1) := by decide +kernel
theorem dX12_passes_19 : decode cX12_passes 19 = .ok (.aload_n 0, 1) := by decide +kernel
theorem dX12_passes_20 : decode cX12_passes 20 = .ok (.getfield 169, 3) := by decide +kernel
theorem dX12_passes_23 : decode cX12_passes 23 = .ok (.invokevirtual 186, 3) := by decide +kernel
theorem dX12_passes_26 : decode cX12_passes 26 = .ok (.ifCond .eq 12, 3) := by decide +kernel
theorem dX12_passes_29 : decode cX12_passes 29 = .ok (.aload_n 0, 1) := by decide +kernel
theorem dX12_passes_30 : decode cX12_passes 30 = .ok (.getfield 59, 3) := by decide +kernel
theorem dX12_passes_33 : decode cX12_passes 33 = .ok (.iload_n 1, 1) := by decide +kernel
theorem dX12_passes_34 : decode cX12_passes 34 = .ok (.baload, 1) := by decide +kernel
theorem dX12_passes_35 : decode cX12_passes 35 = .ok (.ifCond .ne 5, 3) := by decide +kernel
theorem dX12_passes_38 : decode cX12_passes 38 = .ok (.iconst (-1), 1) := by decide +kernel
theorem dX12_passes_39 : decode cX12_passes 39 = .ok (.ireturn, 1) := by decide +kernel
theorem dX12_passes_40 : decode cX12_passes 40 = .ok (.aload_n 0, 1) := by decide +kernel
theorem dX12_passes_41 : decode cX12_passes 41 = .ok (.iload_n 2, 1) := by decide +kernel
theorem dX12_passes_42 : decode cX12_passes 42 = .ok (.bipush 50, 2) := by decide +kernel
theorem dX12_passes_44 : decode cX12_passes 44 = .ok (.iload_n 1, 1) := by decide +kernel
theorem dX12_passes_45 : decode cX12_passes 45 = .ok (.iadd, 1) := by decide +kernel
theorem dX12_passes_46 : decode cX12_passes 46 = .ok (.invokevirtual 308, 3) := by decide +kernel
theorem dX12_passes_49 : decode cX12_passes 49 = .ok (.ifCond .ne 7, 3) := by decide +kernel
theorem dX12_passes_52 : decode cX12_passes 52 = .ok (.iconst 0, 1) := by decide +kernel
theorem dX12_passes_53 : decode cX12_passes 53 = .ok (.goto 4, 3) := by decide +kernel
theorem dX12_passes_56 : decode cX12_passes 56 = .ok (.iconst 1, 1) := by decide +kernel
theorem dX12_passes_57 : decode cX12_passes 57 = .ok (.ireturn, 1) := by decide +kernel
set_option maxRecDepth 20000 in
theorem ggX12_told_X12_is : GoodIn wsX12_told wsX12_is := goodIn_r _ [12] (by decide +kernel) (by decide +kernel)
set_option maxRecDepth 20000 in
theorem gX12_told_X12_is : GoodIn wsX12_told (wsV RX12 186 RX12 yX12_is wsX12_is) := goodIn_app (goodIn_of _ (by decide +kernel)) ggX12_told_X12_is
set_option maxRecDepth 20000 in
theorem ggX12_told_X12_toldOfLot : GoodIn wsX12_told wsX12_toldOfLot := goodIn_r _ [16, 17, 18, 19, 29, 30, 31, 32, 33, 34, 35, 36, 37, 38, 39, 40, 41, 42, 43, 44, 45, 46, 47, 48, 49, 50, 51, 52, 53, 54, 55, 56, 57, 58, 59, 60, 61, 62, 63, 64, 65, 66, 67, 68, 69, 70, 71, 72, 73, 74, 75, 76, 77, 78, 79, 80, 81, 82, 83, 84, 85, 86, 87, 88, 89, 90, 91, 92, 93, 94, 95, 96, 97, 98, 99, 100, 101, 102, 103, 104] (by decide +kernel) (by decide +kernel)
set_option maxRecDepth 20000 in
theorem gX12_told_X12_toldOfLot : GoodIn wsX12_told (wsV RX12 402 RX12 yX12_toldOfLot wsX12_toldOfLot) := goodIn_app (goodIn_of _ (by decide +kernel)) ggX12_told_X12_toldOfLot
set_option maxRecDepth 20000 in
theorem ggX12_told_X12_toldOfBatch : GoodIn wsX12_told wsX12_toldOfBatch := goodIn_r _ [23, 24, 25, 26, 27, 28, 29, 30, 31, 32, 33, 34, 35, 36, 37, 38, 39, 40, 41, 42, 43, 44, 45, 46, 47, 48, 49, 50, 51, 52, 53, 54, 55, 56, 57, 58, 59, 60, 61, 62, 63, 64, 65, 66, 67, 68, 69, 70, 71, 72, 73, 74, 75, 76, 77, 78, 79, 80, 81, 82, 83, 84, 85, 86, 87, 88, 89, 90, 91, 92, 93, 94, 95, 96, 97, 98, 99, 100, 101, 102, 103, 104] (by decide +kernel) (by decide +kernel)
set_option maxRecDepth 20000 in
theorem gX12_told_X12_toldOfBatch : GoodIn wsX12_told (wsV RX12 405 RX12 yX12_toldOfBatch wsX12_toldOfBatch) := goodIn_app (goodIn_of _ (by decide +kernel)) ggX12_told_X12_toldOfBatch
theorem dX12_told_0 : decode cX12_told 0 = .ok (.aload_n 0, 1) := by decide +kernel
theorem dX12_told_1 : decode cX12_told 1 = .ok (.iconst 0, 1) := by decide +kernel
theorem dX12_told_2 : decode cX12_told 2 = .ok (.putfield 149, 3) := by decide +kernel
theorem dX12_told_5 : decode cX12_told 5 = .ok (.iload_n 2, 1) := by decide +kernel
theorem dX12_told_6 : decode cX12_told 6 = .ok (.iconst 4, 1) := by decide +kernel
theorem dX12_told_7 : decode cX12_told 7 = .ok (.if_icmp .ge 26, 3) := by decide +kernel
theorem dX12_told_10 : decode cX12_told 10 = .ok (.aload_n 0, 1) := by decide +kernel
theorem dX12_told_11 : decode cX12_told 11 = .ok (.iload_n 1, 1) := by decide +kernel
theorem dX12_told_12 : decode cX12_told 12 = .ok (.aload_n 0, 1) := by decide +kernel
theorem dX12_told_13 : decode cX12_told 13 = .ok (.getfield 172, 3) := by decide +kernel
theorem dX12_told_16 : decode cX12_told 16 = .ok (.invokevirtual 186, 3) := by decide +kernel
theorem dX12_told_19 : decode cX12_told 19 = .ok (.ifCond .eq 12, 3) := by decide +kernel
theorem dX12_told_22 : decode cX12_told 22 = .ok (.aload_n 0, 1) := by decide +kernel
theorem dX12_told_23 : decode cX12_told 23 = .ok (.iload_n 1, 1) := by decide +kernel
theorem dX12_told_24 : decode cX12_told 24 = .ok (.iload_n 2, 1) := by decide +kernel
theorem dX12_told_25 : decode cX12_told 25 = .ok (.invokevirtual 402, 3) := by decide +kernel
theorem dX12_told_28 : decode cX12_told 28 = .ok (.goto 4, 3) := by decide +kernel
theorem dX12_told_31 : decode cX12_told 31 = .ok (.iconst (-1), 1) := by decide +kernel
theorem dX12_told_32 : decode cX12_told 32 = .ok (.ireturn, 1) := by decide +kernel
theorem dX12_told_33 : decode cX12_told 33 = .ok (.iload_n 2, 1) := by decide +kernel
theorem dX12_told_34 : decode cX12_told 34 = .ok (.bipush 9, 2) := by decide +kernel
theorem dX12_told_36 : decode cX12_told 36 = .ok (.if_icmp .ge 26, 3) := by decide +kernel
theorem dX12_told_39 : decode cX12_told 39 = .ok (.aload_n 0, 1) := by decide +kernel
theorem dX12_told_40 : decode cX12_told 40 = .ok (.iload_n 1, 1) := by decide +kernel
theorem dX12_told_41 : decode cX12_told 41 = .ok (.aload_n 0, 1) := by decide +kernel
theorem dX12_told_42 : decode cX12_told 42 = .ok (.getfield 175, 3) := by decide +kernel
theorem dX12_told_45 : decode cX12_told 45 = .ok (.invokevirtual 186, 3) := by decide +kernel
theorem dX12_told_48 : decode cX12_told 48 = .ok (.ifCond .eq 12, 3) := by decide +kernel
theorem dX12_told_51 : decode cX12_told 51 = .ok (.aload_n 0, 1) := by decide +kernel
theorem dX12_told_52 : decode cX12_told 52 = .ok (.iload_n 1, 1) := by decide +kernel
theorem dX12_told_53 : decode cX12_told 53 = .ok (.iload_n 2, 1) := by decide +kernel
theorem dX12_told_54 : decode cX12_told 54 = .ok (.invokevirtual 405, 3) := by decide +kernel
theorem dX12_told_57 : decode cX12_told 57 = .ok (.goto 4, 3) := by decide +kernel
theorem dX12_told_60 : decode cX12_told 60 = .ok (.iconst (-1), 1) := by decide +kernel
theorem dX12_told_61 : decode cX12_told 61 = .ok (.ireturn, 1) := by decide +kernel
theorem dX12_told_62 : decode cX12_told 62 = .ok (.aload_n 0, 1) := by decide +kernel
theorem dX12_told_63 : decode cX12_told 63 = .ok (.iload_n 1, 1) := by decide +kernel
theorem dX12_told_64 : decode cX12_told 64 = .ok (.aload_n 0, 1) := by decide +kernel
theorem dX12_told_65 : decode cX12_told 65 = .ok (.getfield 166, 3) := by decide +kernel
theorem dX12_told_68 : decode cX12_told 68 = .ok (.invokevirtual 186, 3) := by decide +kernel
theorem dX12_told_71 : decode cX12_told 71 = .ok (.ifCond .ne 5, 3) := by decide +kernel
theorem dX12_told_74 : decode cX12_told 74 = .ok (.iconst (-1), 1) := by decide +kernel
theorem dX12_told_75 : decode cX12_told 75 = .ok (.ireturn, 1) := by decide +kernel
theorem dX12_told_76 : decode cX12_told 76 = .ok (.iload_n 2, 1) := by decide +kernel
theorem dX12_told_77 : decode cX12_told 77 = .ok (.tableswitch 48 9 11 #[27, 34, 41], 27) := by decide +kernel
theorem dX12_told_104 : decode cX12_told 104 = .ok (.aload_n 0, 1) := by decide +kernel
theorem dX12_told_105 : decode cX12_told 105 = .ok (.getfield 16, 3) := by decide +kernel
theorem dX12_told_108 : decode cX12_told 108 = .ok (.iload_n 1, 1) := by decide +kernel
theorem dX12_told_109 : decode cX12_told 109 = .ok (.iaload, 1) := by decide +kernel
theorem dX12_told_110 : decode cX12_told 110 = .ok (.ireturn, 1) := by decide +kernel
theorem dX12_told_111 : decode cX12_told 111 = .ok (.aload_n 0, 1) := by decide +kernel
theorem dX12_told_112 : decode cX12_told 112 = .ok (.getfield 20, 3) := by decide +kernel
theorem dX12_told_115 : decode cX12_told 115 = .ok (.iload_n 1, 1) := by decide +kernel
theorem dX12_told_116 : decode cX12_told 116 = .ok (.iaload, 1) := by decide +kernel
theorem dX12_told_117 : decode cX12_told 117 = .ok (.ireturn, 1) := by decide +kernel
theorem dX12_told_118 : decode cX12_told 118 = .ok (.aload_n 0, 1) := by decide +kernel
theorem dX12_told_119 : decode cX12_told 119 = .ok (.getfield 26, 3) := by decide +kernel
theorem dX12_told_122 : decode cX12_told 122 = .ok (.iload_n 1, 1) := by decide +kernel
theorem dX12_told_123 : decode cX12_told 123 = .ok (.iaload, 1) := by decide +kernel
theorem dX12_told_124 : decode cX12_told 124 = .ok (.ireturn, 1) := by decide +kernel
theorem dX12_told_125 : decode cX12_told 125 = .ok (.iconst (-1), 1) := by decide +kernel
theorem dX12_told_126 : decode cX12_told 126 = .ok (.ireturn, 1) := by decide +kernel
theorem dX12_toldOfLot_0 : decode cX12_toldOfLot 0 = .ok (.iload_n 2, 1) := by decide +kernel
theorem dX12_toldOfLot_1 : decode cX12_toldOfLot 1 = .ok (.tableswitch 66 0 3 #[31, 38, 45, 59], 31) := by decide +kernel
theorem dX12_toldOfLot_32 : decode cX12_toldOfLot 32 = .ok (.aload_n 0, 1) := by decide +kernel
theorem dX12_toldOfLot_33 : decode cX12_toldOfLot 33 = .ok (.getfield 29, 3) := by decide +kernel
theorem dX12_toldOfLot_36 : decode cX12_toldOfLot 36 = .ok (.iload_n 1, 1) := by decide +kernel
theorem dX12_toldOfLot_37 : decode cX12_toldOfLot 37 = .ok (.iaload, 1) := by decide +kernel
theorem dX12_toldOfLot_38 : decode cX12_toldOfLot 38 = .ok (.ireturn, 1) := by decide +kernel
theorem dX12_toldOfLot_39 : decode cX12_toldOfLot 39 = .ok (.aload_n 0, 1) := by decide +kernel
theorem dX12_toldOfLot_40 : decode cX12_toldOfLot 40 = .ok (.getfield 41, 3) := by decide +kernel
theorem dX12_toldOfLot_43 : decode cX12_toldOfLot 43 = .ok (.iload_n 1, 1) := by decide +kernel
theorem dX12_toldOfLot_44 : decode cX12_toldOfLot 44 = .ok (.iaload, 1) := by decide +kernel
theorem dX12_toldOfLot_45 : decode cX12_toldOfLot 45 = .ok (.ireturn, 1) := by decide +kernel
theorem dX12_toldOfLot_46 : decode cX12_toldOfLot 46 = .ok (.aload_n 0, 1) := by decide +kernel
theorem dX12_toldOfLot_47 : decode cX12_toldOfLot 47 = .ok (.getfield 38, 3) := by decide +kernel
theorem dX12_toldOfLot_50 : decode cX12_toldOfLot 50 = .ok (.iload_n 1, 1) := by decide +kernel
theorem dX12_toldOfLot_51 : decode cX12_toldOfLot 51 = .ok (.iaload, 1) := by decide +kernel
theorem dX12_toldOfLot_52 : decode cX12_toldOfLot 52 = .ok (.aload_n 0, 1) := by decide +kernel
theorem dX12_toldOfLot_53 : decode cX12_toldOfLot 53 = .ok (.getfield 41, 3) := by decide +kernel
theorem dX12_toldOfLot_56 : decode cX12_toldOfLot 56 = .ok (.iload_n 1, 1) := by decide +kernel
theorem dX12_toldOfLot_57 : decode cX12_toldOfLot 57 = .ok (.iaload, 1) := by decide +kernel
theorem dX12_toldOfLot_58 : decode cX12_toldOfLot 58 = .ok (.isub, 1) := by decide +kernel
theorem dX12_toldOfLot_59 : decode cX12_toldOfLot 59 = .ok (.ireturn, 1) := by decide +kernel
theorem dX12_toldOfLot_60 : decode cX12_toldOfLot 60 = .ok (.aload_n 0, 1) := by decide +kernel
theorem dX12_toldOfLot_61 : decode cX12_toldOfLot 61 = .ok (.getfield 38, 3) := by decide +kernel
theorem dX12_toldOfLot_64 : decode cX12_toldOfLot 64 = .ok (.iload_n 1, 1) := by decide +kernel
theorem dX12_toldOfLot_65 : decode cX12_toldOfLot 65 = .ok (.iaload, 1) := by decide +kernel
theorem dX12_toldOfLot_66 : decode cX12_toldOfLot 66 = .ok (.ireturn, 1) := by decide +kernel
theorem dX12_toldOfLot_67 : decode cX12_toldOfLot 67 = .ok (.iconst (-1), 1) := by decide +kernel
theorem dX12_toldOfLot_68 : decode cX12_toldOfLot 68 = .ok (.ireturn, 1) := by decide +kernel
theorem dX12_toldOfBatch_0 : decode cX12_toldOfBatch 0 = .ok (.iconst 0, 1) := by decide +kernel
theorem dX12_toldOfBatch_1 : decode cX12_toldOfBatch 1 = .ok (.istore_n 3, 1) := by decide +kernel
theorem dX12_toldOfBatch_2 : decode cX12_toldOfBatch 2 = .ok (.iload_n 2, 1) := by decide +kernel
theorem dX12_toldOfBatch_3 : decode cX12_toldOfBatch 3 = .ok (.tableswitch 87 4 7 #[29, 36, 43, 50], 29) := by decide +kernel
theorem dX12_toldOfBatch_32 : decode cX12_toldOfBatch 32 = .ok (.aload_n 0, 1) := by decide +kernel
theorem dX12_toldOfBatch_33 : decode cX12_toldOfBatch 33 = .ok (.getfield 44, 3) := by decide +kernel
theorem dX12_toldOfBatch_36 : decode cX12_toldOfBatch 36 = .ok (.iload_n 1, 1) := by decide +kernel
theorem dX12_toldOfBatch_37 : decode cX12_toldOfBatch 37 = .ok (.iaload, 1) := by decide +kernel
theorem dX12_toldOfBatch_38 : decode cX12_toldOfBatch 38 = .ok (.ireturn, 1) := by decide +kernel
theorem dX12_toldOfBatch_39 : decode cX12_toldOfBatch 39 = .ok (.aload_n 0, 1) := by decide +kernel
theorem dX12_toldOfBatch_40 : decode cX12_toldOfBatch 40 = .ok (.getfield 47, 3) := by decide +kernel
theorem dX12_toldOfBatch_43 : decode cX12_toldOfBatch 43 = .ok (.iload_n 1, 1) := by decide +kernel
theorem dX12_toldOfBatch_44 : decode cX12_toldOfBatch 44 = .ok (.iaload, 1) := by decide +kernel
theorem dX12_toldOfBatch_45 : decode cX12_toldOfBatch 45 = .ok (.ireturn, 1) := by decide +kernel
theorem dX12_toldOfBatch_46 : decode cX12_toldOfBatch 46 = .ok (.aload_n 0, 1) := by decide +kernel
theorem dX12_toldOfBatch_47 : decode cX12_toldOfBatch 47 = .ok (.getfield 50, 3) := by decide +kernel
theorem dX12_toldOfBatch_50 : decode cX12_toldOfBatch 50 = .ok (.iload_n 1, 1) := by decide +kernel
theorem dX12_toldOfBatch_51 : decode cX12_toldOfBatch 51 = .ok (.iaload, 1) := by decide +kernel
theorem dX12_toldOfBatch_52 : decode cX12_toldOfBatch 52 = .ok (.ireturn, 1) := by decide +kernel
theorem dX12_toldOfBatch_53 : decode cX12_toldOfBatch 53 = .ok (.iconst 0, 1) := by decide +kernel
theorem dX12_toldOfBatch_54 : decode cX12_toldOfBatch 54 = .ok (.istore 4, 2) := by decide +kernel
theorem dX12_toldOfBatch_56 : decode cX12_toldOfBatch 56 = .ok (.iload 4, 2) := by decide +kernel
theorem dX12_toldOfBatch_58 : decode cX12_toldOfBatch 58 = .ok (.aload_n 0, 1) := by decide +kernel
theorem dX12_toldOfBatch_59 : decode cX12_toldOfBatch 59 = .ok (.getfield 50, 3) := by decide +kernel
theorem dX12_toldOfBatch_62 : decode cX12_toldOfBatch 62 = .ok (.iload_n 1, 1) := by decide +kernel
theorem dX12_toldOfBatch_63 : decode cX12_toldOfBatch 63 = .ok (.iaload, 1) := by decide +kernel
theorem dX12_toldOfBatch_64 : decode cX12_toldOfBatch 64 = .ok (.if_icmp .ge 24, 3) := by decide +kernel
theorem dX12_toldOfBatch_67 : decode cX12_toldOfBatch 67 = .ok (.iload_n 3, 1) := by decide +kernel
theorem dX12_toldOfBatch_68 : decode cX12_toldOfBatch 68 = .ok (.aload_n 0, 1) := by decide +kernel
theorem dX12_toldOfBatch_69 : decode cX12_toldOfBatch 69 = .ok (.getfield 56, 3) := by decide +kernel
theorem dX12_toldOfBatch_72 : decode cX12_toldOfBatch 72 = .ok (.bipush 8, 2) := by decide +kernel
theorem dX12_toldOfBatch_74 : decode cX12_toldOfBatch 74 = .ok (.iload_n 1, 1) := by decide +kernel
theorem dX12_toldOfBatch_75 : decode cX12_toldOfBatch 75 = .ok (.imul, 1) := by decide +kernel
theorem dX12_toldOfBatch_76 : decode cX12_toldOfBatch 76 = .ok (.iload 4, 2) := by decide +kernel
theorem dX12_toldOfBatch_78 : decode cX12_toldOfBatch 78 = .ok (.iadd, 1) := by decide +kernel
theorem dX12_toldOfBatch_79 : decode cX12_toldOfBatch 79 = .ok (.iaload, 1) := by decide +kernel
theorem dX12_toldOfBatch_80 : decode cX12_toldOfBatch 80 = .ok (.iadd, 1) := by decide +kernel
theorem dX12_toldOfBatch_81 : decode cX12_toldOfBatch 81 = .ok (.istore_n 3, 1) := by decide +kernel
theorem dX12_toldOfBatch_82 : decode cX12_toldOfBatch 82 = .ok (.iinc 4 1, 3) := by decide +kernel
theorem dX12_toldOfBatch_85 : decode cX12_toldOfBatch 85 = .ok (.goto (-29), 3) := by decide +kernel
theorem dX12_toldOfBatch_88 : decode cX12_toldOfBatch 88 = .ok (.iload_n 3, 1) := by decide +kernel
theorem dX12_toldOfBatch_89 : decode cX12_toldOfBatch 89 = .ok (.ireturn, 1) := by decide +kernel
theorem dX12_toldOfBatch_90 : decode cX12_toldOfBatch 90 = .ok (.aload_n 0, 1) := by decide +kernel
theorem dX12_toldOfBatch_91 : decode cX12_toldOfBatch 91 = .ok (.getfield 59, 3) := by decide +kernel
theorem dX12_toldOfBatch_94 : decode cX12_toldOfBatch 94 = .ok (.iload_n 1, 1) := by decide +kernel
theorem dX12_toldOfBatch_95 : decode cX12_toldOfBatch 95 = .ok (.baload, 1) := by decide +kernel
theorem dX12_toldOfBatch_96 : decode cX12_toldOfBatch 96 = .ok (.ifCond .eq 7, 3) := by decide +kernel
theorem dX12_toldOfBatch_99 : decode cX12_toldOfBatch 99 = .ok (.iconst 1, 1) := by decide +kernel
theorem dX12_toldOfBatch_100 : decode cX12_toldOfBatch 100 = .ok (.goto 4, 3) := by decide +kernel
theorem dX12_toldOfBatch_103 : decode cX12_toldOfBatch 103 = .ok (.iconst 0, 1) := by decide +kernel
theorem dX12_toldOfBatch_104 : decode cX12_toldOfBatch 104 = .ok (.ireturn, 1) := by decide +kernel
set_option maxRecDepth 20000 in
theorem ggX12_weighed_X12_is : GoodIn wsX12_weighed wsX12_is := goodIn_r _ [10] (by decide +kernel) (by decide +kernel)
set_option maxRecDepth 20000 in
theorem gX12_weighed_X12_is : GoodIn wsX12_weighed (wsV RX12 186 RX12 yX12_is wsX12_is) := goodIn_app (goodIn_of _ (by decide +kernel)) ggX12_weighed_X12_is
theorem dX12_weighed_0 : decode cX12_weighed 0 = .ok (.aload_n 0, 1) := by decide +kernel
theorem dX12_weighed_1 : decode cX12_weighed 1 = .ok (.iconst 0, 1) := by decide +kernel
theorem dX12_weighed_2 : decode cX12_weighed 2 = .ok (.putfield 149, 3) := by decide +kernel
theorem dX12_weighed_5 : decode cX12_weighed 5 = .ok (.aload_n 0, 1) := by decide +kernel
theorem dX12_weighed_6 : decode cX12_weighed 6 = .ok (.iload_n 1, 1) := by decide +kernel
theorem dX12_weighed_7 : decode cX12_weighed 7 = .ok (.aload_n 0, 1) := by decide +kernel
theorem dX12_weighed_8 : decode cX12_weighed 8 = .ok (.getfield 175, 3) := by decide +kernel
theorem dX12_weighed_11 : decode cX12_weighed 11 = .ok (.invokevirtual 186, 3) := by decide +kernel
theorem dX12_weighed_14 : decode cX12_weighed 14 = .ok (.ifCond .eq 17, 3) := by decide +kernel
theorem dX12_weighed_17 : decode cX12_weighed 17 = .ok (.aload_n 0, 1) := by decide +kernel
theorem dX12_weighed_18 : decode cX12_weighed 18 = .ok (.iload_n 2, 1) := by decide +kernel
theorem dX12_weighed_19 : decode cX12_weighed 19 = .ok (.aload_n 0, 1) := by decide +kernel
theorem dX12_weighed_20 : decode cX12_weighed 20 = .ok (.getfield 50, 3) := by decide +kernel
theorem dX12_weighed_23 : decode cX12_weighed 23 = .ok (.iload_n 1, 1) := by decide +kernel
theorem dX12_weighed_24 : decode cX12_weighed 24 = .ok (.iaload, 1) := by decide +kernel
theorem dX12_weighed_25 : decode cX12_weighed 25 = .ok (.invokevirtual 186, 3) := by decide +kernel
theorem dX12_weighed_28 : decode cX12_weighed 28 = .ok (.ifCond .ne 5, 3) := by decide +kernel
theorem dX12_weighed_31 : decode cX12_weighed 31 = .ok (.iconst (-1), 1) := by decide +kernel
theorem dX12_weighed_32 : decode cX12_weighed 32 = .ok (.ireturn, 1) := by decide +kernel
theorem dX12_weighed_33 : decode cX12_weighed 33 = .ok (.iload_n 3, 1) := by decide +kernel
theorem dX12_weighed_34 : decode cX12_weighed 34 = .ok (.ifCond .eq 17, 3) := by decide +kernel
theorem dX12_weighed_37 : decode cX12_weighed 37 = .ok (.aload_n 0, 1) := by decide +kernel
theorem dX12_weighed_38 : decode cX12_weighed 38 = .ok (.getfield 56, 3) := by decide +kernel
theorem dX12_weighed_41 : decode cX12_weighed 41 = .ok (.bipush 8, 2) := by decide +kernel
theorem dX12_weighed_43 : decode cX12_weighed 43 = .ok (.iload_n 1, 1) := by decide +kernel
theorem dX12_weighed_44 : decode cX12_weighed 44 = .ok (.imul, 1) := by decide +kernel
theorem dX12_weighed_45 : decode cX12_weighed 45 = .ok (.iload_n 2, 1) := by decide +kernel
theorem dX12_weighed_46 : decode cX12_weighed 46 = .ok (.iadd, 1) := by decide +kernel
theorem dX12_weighed_47 : decode cX12_weighed 47 = .ok (.iaload, 1) := by decide +kernel
theorem dX12_weighed_48 : decode cX12_weighed 48 = .ok (.goto 14, 3) := by decide +kernel
theorem dX12_weighed_51 : decode cX12_weighed 51 = .ok (.aload_n 0, 1) := by decide +kernel
theorem dX12_weighed_52 : decode cX12_weighed 52 = .ok (.getfield 53, 3) := by decide +kernel
theorem dX12_weighed_55 : decode cX12_weighed 55 = .ok (.bipush 8, 2) := by decide +kernel
theorem dX12_weighed_57 : decode cX12_weighed 57 = .ok (.iload_n 1, 1) := by decide +kernel
theorem dX12_weighed_58 : decode cX12_weighed 58 = .ok (.imul, 1) := by decide +kernel
theorem dX12_weighed_59 : decode cX12_weighed 59 = .ok (.iload_n 2, 1) := by decide +kernel
theorem dX12_weighed_60 : decode cX12_weighed 60 = .ok (.iadd, 1) := by decide +kernel
theorem dX12_weighed_61 : decode cX12_weighed 61 = .ok (.iaload, 1) := by decide +kernel
theorem dX12_weighed_62 : decode cX12_weighed 62 = .ok (.ireturn, 1) := by decide +kernel
set_option maxRecDepth 20000 in
theorem ggX12_remeasure_X12_is : GoodIn wsX12_remeasure wsX12_is := goodIn_r _ [9] (by decide +kernel) (by decide +kernel)
set_option maxRecDepth 20000 in
theorem gX12_remeasure_X12_is : GoodIn wsX12_remeasure (wsV RX12 186 RX12 yX12_is wsX12_is) := goodIn_app (goodIn_of _ (by decide +kernel)) ggX12_remeasure_X12_is
set_option maxRecDepth 20000 in
theorem ggX12_remeasure_X12_not : GoodIn wsX12_remeasure wsX12_not := goodIn_r _ [13, 14, 34, 35, 36, 37, 38, 39, 40, 41, 42, 43, 44, 45, 46, 47, 48, 49, 50, 51, 52, 53, 54, 55, 56, 57, 58, 59, 60, 61, 62, 63, 64, 65, 66, 67, 68, 69, 70, 71, 72, 73, 74, 75, 76, 77, 78, 79, 80, 81, 82, 83, 84, 85, 86, 87, 88, 89, 90, 91, 92, 93, 94, 95, 96, 97, 98, 99, 100, 101, 102, 103, 104, 105, 106, 107, 108, 109] (by decide +kernel) (by decide +kernel)
set_option maxRecDepth 20000 in
theorem gX12_remeasure_X12_not : GoodIn wsX12_remeasure (wsV RX12 216 RX12 yX12_not wsX12_not) := goodIn_app (goodIn_of _ (by decide +kernel)) ggX12_remeasure_X12_not
set_option maxRecDepth 20000 in
theorem ggX12_remeasure_X12_act : GoodIn wsX12_remeasure wsX12_act := goodIn_r _ [18, 19, 20, 21, 22, 23, 24, 25, 14, 34, 35, 36, 37, 38, 39, 40, 41, 42, 43, 44, 45, 46, 47, 48, 49, 50, 51, 52, 53, 54, 55, 56, 57, 58, 59, 60, 61, 62, 63, 64, 65, 66, 67, 68, 69, 70, 71, 72, 73, 74, 75, 76, 77, 78, 79, 80, 81, 82, 83, 84, 85, 86, 87, 88, 89, 90, 91, 92, 93, 94, 95, 96, 97, 98, 99, 100, 101, 102, 103, 104, 105, 106, 107, 108, 109] (by decide +kernel) (by decide +kernel)
set_option maxRecDepth 20000 in
theorem gX12_remeasure_X12_act : GoodIn wsX12_remeasure (wsV RX12 204 RX12 yX12_act wsX12_act) := goodIn_app (goodIn_of _ (by decide +kernel)) ggX12_remeasure_X12_act
set_option maxRecDepth 20000 in
theorem ggX12_remeasure_X12_note : GoodIn wsX12_remeasure wsX12_note := goodIn_r _ [29, 24, 19, 4, 25, 3, 34, 35, 36, 37, 38, 39, 40, 41, 42, 43, 44, 45, 46, 47, 48, 49, 50, 51, 52, 53, 54, 55, 56, 57, 58, 59, 60, 61, 62, 63, 64, 65, 66, 67, 68, 69, 70, 71, 72, 73, 74, 75, 76, 77, 78, 79, 80, 81, 82, 83, 84, 85, 86, 87, 88, 89, 90, 91, 92, 93, 94, 95, 96, 97, 98, 99, 100, 101, 102, 103, 104, 105, 106, 107, 108, 109] (by decide +kernel) (by decide +kernel)
set_option maxRecDepth 20000 in
theorem gX12_remeasure_X12_note : GoodIn wsX12_remeasure (wsV RX12 399 RX12 yX12_note wsX12_note) := goodIn_app (goodIn_of _ (by decide +kernel)) ggX12_remeasure_X12_note
set_option maxRecDepth 20000 in
theorem ggX12_remeasure_X12_copy : GoodIn wsX12_remeasure wsX12_copy := goodIn_r _ [33, 4, 34, 35, 36, 37, 38, 39, 40, 41, 42, 43, 44, 45, 46, 47, 48, 49, 50, 51, 52, 53, 54, 55, 56, 57, 58, 59, 60, 61, 62, 63, 64, 65, 66, 67, 68, 69, 70, 71, 72, 73, 74, 75, 76, 77, 78, 79, 80, 81, 82, 83, 84, 85, 86, 87, 88, 89, 90, 91, 92, 93, 94, 95, 96, 97, 98, 99, 100, 101, 102, 103, 104, 105, 106, 107, 108, 109] (by decide +kernel) (by decide +kernel)
set_option maxRecDepth 20000 in
theorem gX12_remeasure_X12_copy : GoodIn wsX12_remeasure (wsV RX12 200 RX12 yX12_copy wsX12_copy) := goodIn_app (goodIn_of _ (by decide +kernel)) ggX12_remeasure_X12_copy
theorem dX12_remeasure_0 : decode cX12_remeasure 0 = .ok (.aload_n 0, 1) := by decide +kernel
theorem dX12_remeasure_1 : decode cX12_remeasure 1 = .ok (.iconst 0, 1) := by decide +kernel
theorem dX12_remeasure_2 : decode cX12_remeasure 2 = .ok (.putfield 149, 3) := by decide +kernel
theorem dX12_remeasure_5 : decode cX12_remeasure 5 = .ok (.aload_n 0, 1) := by decide +kernel
theorem dX12_remeasure_6 : decode cX12_remeasure 6 = .ok (.iload_n 1, 1) := by decide +kernel
theorem dX12_remeasure_7 : decode cX12_remeasure 7 = .ok (.aload_n 0, 1) := by decide +kernel
theorem dX12_remeasure_8 : decode cX12_remeasure 8 = .ok (.getfield 160, 3) := by decide +kernel
theorem dX12_remeasure_11 : decode cX12_remeasure 11 = .ok (.invokevirtual 186, 3) := by decide +kernel
theorem dX12_remeasure_14 : decode cX12_remeasure 14 = .ok (.ifCond .ne 9, 3) := by decide +kernel
theorem dX12_remeasure_17 : decode cX12_remeasure 17 = .ok (.aload_n 0, 1) := by decide +kernel
theorem dX12_remeasure_18 : decode cX12_remeasure 18 = .ok (.iconst 2, 1) := by decide +kernel
theorem dX12_remeasure_19 : decode cX12_remeasure 19 = .ok (.invokevirtual 216, 3) := by decide +kernel
theorem dX12_remeasure_22 : decode cX12_remeasure 22 = .ok (.ireturn, 1) := by decide +kernel
theorem dX12_remeasure_23 : decode cX12_remeasure 23 = .ok (.aload_n 0, 1) := by decide +kernel
theorem dX12_remeasure_24 : decode cX12_remeasure 24 = .ok (.bipush 10, 2) := by decide +kernel
theorem dX12_remeasure_26 : decode cX12_remeasure 26 = .ok (.iload_n 1, 1) := by decide +kernel
theorem dX12_remeasure_27 : decode cX12_remeasure 27 = .ok (.iconst 0, 1) := by decide +kernel
theorem dX12_remeasure_28 : decode cX12_remeasure 28 = .ok (.iconst 0, 1) := by decide +kernel
theorem dX12_remeasure_29 : decode cX12_remeasure 29 = .ok (.invokevirtual 204, 3) := by decide +kernel
theorem dX12_remeasure_32 : decode cX12_remeasure 32 = .ok (.aload_n 0, 1) := by decide +kernel
theorem dX12_remeasure_33 : decode cX12_remeasure 33 = .ok (.iconst 1, 1) := by decide +kernel
theorem dX12_remeasure_34 : decode cX12_remeasure 34 = .ok (.iload_n 1, 1) := by decide +kernel
theorem dX12_remeasure_35 : decode cX12_remeasure 35 = .ok (.iadd, 1) := by decide +kernel
theorem dX12_remeasure_36 : decode cX12_remeasure 36 = .ok (.iload_n 1, 1) := by decide +kernel
theorem dX12_remeasure_37 : decode cX12_remeasure 37 = .ok (.invokevirtual 399, 3) := by decide +kernel
theorem dX12_remeasure_40 : decode cX12_remeasure 40 = .ok (.iconst 0, 1) := by decide +kernel
theorem dX12_remeasure_41 : decode cX12_remeasure 41 = .ok (.istore_n 2, 1) := by decide +kernel
theorem dX12_remeasure_42 : decode cX12_remeasure 42 = .ok (.iload_n 2, 1) := by decide +kernel
theorem dX12_remeasure_43 : decode cX12_remeasure 43 = .ok (.bipush 16, 2) := by decide +kernel
theorem dX12_remeasure_45 : decode cX12_remeasure 45 = .ok (.if_icmp .ge 40, 3) := by decide +kernel
theorem dX12_remeasure_48 : decode cX12_remeasure 48 = .ok (.aload_n 0, 1) := by decide +kernel
theorem dX12_remeasure_49 : decode cX12_remeasure 49 = .ok (.getfield 13, 3) := by decide +kernel
theorem dX12_remeasure_52 : decode cX12_remeasure 52 = .ok (.bipush 16, 2) := by decide +kernel
theorem dX12_remeasure_54 : decode cX12_remeasure 54 = .ok (.iload_n 1, 1) := by decide +kernel
theorem dX12_remeasure_55 : decode cX12_remeasure 55 = .ok (.imul, 1) := by decide +kernel
theorem dX12_remeasure_56 : decode cX12_remeasure 56 = .ok (.iload_n 2, 1) := by decide +kernel
theorem dX12_remeasure_57 : decode cX12_remeasure 57 = .ok (.iadd, 1) := by decide +kernel
theorem dX12_remeasure_58 : decode cX12_remeasure 58 = .ok (.aload_n 0, 1) := by decide +kernel
theorem dX12_remeasure_59 : decode cX12_remeasure 59 = .ok (.getfield 7, 3) := by decide +kernel
theorem dX12_remeasure_62 : decode cX12_remeasure 62 = .ok (.iload_n 2, 1) := by decide +kernel
theorem dX12_remeasure_63 : decode cX12_remeasure 63 = .ok (.faload, 1) := by decide +kernel
theorem dX12_remeasure_64 : decode cX12_remeasure 64 = .ok (.aload_n 0, 1) := by decide +kernel
theorem dX12_remeasure_65 : decode cX12_remeasure 65 = .ok (.getfield 7, 3) := by decide +kernel
theorem dX12_remeasure_68 : decode cX12_remeasure 68 = .ok (.bipush 16, 2) := by decide +kernel
theorem dX12_remeasure_70 : decode cX12_remeasure 70 = .ok (.iconst 1, 1) := by decide +kernel
theorem dX12_remeasure_71 : decode cX12_remeasure 71 = .ok (.iload_n 1, 1) := by decide +kernel
theorem dX12_remeasure_72 : decode cX12_remeasure 72 = .ok (.iadd, 1) := by decide +kernel
theorem dX12_remeasure_73 : decode cX12_remeasure 73 = .ok (.imul, 1) := by decide +kernel
theorem dX12_remeasure_74 : decode cX12_remeasure 74 = .ok (.iload_n 2, 1) := by decide +kernel
theorem dX12_remeasure_75 : decode cX12_remeasure 75 = .ok (.iadd, 1) := by decide +kernel
theorem dX12_remeasure_76 : decode cX12_remeasure 76 = .ok (.faload, 1) := by decide +kernel
theorem dX12_remeasure_77 : decode cX12_remeasure 77 = .ok (.fsub, 1) := by decide +kernel
theorem dX12_remeasure_78 : decode cX12_remeasure 78 = .ok (.fastore, 1) := by decide +kernel
theorem dX12_remeasure_79 : decode cX12_remeasure 79 = .ok (.iinc 2 1, 3) := by decide +kernel
theorem dX12_remeasure_82 : decode cX12_remeasure 82 = .ok (.goto (-40), 3) := by decide +kernel
theorem dX12_remeasure_85 : decode cX12_remeasure 85 = .ok (.aload_n 0, 1) := by decide +kernel
theorem dX12_remeasure_86 : decode cX12_remeasure 86 = .ok (.iconst 0, 1) := by decide +kernel
theorem dX12_remeasure_87 : decode cX12_remeasure 87 = .ok (.iconst 1, 1) := by decide +kernel
theorem dX12_remeasure_88 : decode cX12_remeasure 88 = .ok (.iload_n 1, 1) := by decide +kernel
theorem dX12_remeasure_89 : decode cX12_remeasure 89 = .ok (.iadd, 1) := by decide +kernel
theorem dX12_remeasure_90 : decode cX12_remeasure 90 = .ok (.invokevirtual 200, 3) := by decide +kernel
theorem dX12_remeasure_93 : decode cX12_remeasure 93 = .ok (.iconst 1, 1) := by decide +kernel
theorem dX12_remeasure_94 : decode cX12_remeasure 94 = .ok (.ireturn, 1) := by decide +kernel
set_option maxRecDepth 20000 in
theorem ggX12_drift_X12_is : GoodIn wsX12_drift wsX12_is := goodIn_r _ [9] (by decide +kernel) (by decide +kernel)
set_option maxRecDepth 20000 in
theorem gX12_drift_X12_is : GoodIn wsX12_drift (wsV RX12 186 RX12 yX12_is wsX12_is) := goodIn_app (goodIn_of _ (by decide +kernel)) ggX12_drift_X12_is
set_option maxRecDepth 20000 in
theorem ggX12_drift_Jxf58ca_floatToIntBits_5c35a : GoodIn wsX12_drift wsJxf58ca_floatToIntBits_5c35a := goodIn_r _ [13, 14, 15, 16, 17, 18, 19, 20, 12, 21] (by decide +kernel) (by decide +kernel)
set_option maxRecDepth 20000 in
theorem gX12_drift_Jxf58ca_floatToIntBits_5c35a : GoodIn wsX12_drift (va_wsS RX12 223 yJxf58ca_floatToIntBits_5c35a wsJxf58ca_floatToIntBits_5c35a) := goodIn_app (goodIn_of _ (by decide +kernel)) ggX12_drift_Jxf58ca_floatToIntBits_5c35a
theorem dX12_drift_0 : decode cX12_drift 0 = .ok (.aload_n 0, 1) := by decide +kernel
theorem dX12_drift_1 : decode cX12_drift 1 = .ok (.iconst 0, 1) := by decide +kernel
theorem dX12_drift_2 : decode cX12_drift 2 = .ok (.putfield 149, 3) := by decide +kernel
theorem dX12_drift_5 : decode cX12_drift 5 = .ok (.aload_n 0, 1) := by decide +kernel
theorem dX12_drift_6 : decode cX12_drift 6 = .ok (.iload_n 1, 1) := by decide +kernel
theorem dX12_drift_7 : decode cX12_drift 7 = .ok (.aload_n 0, 1) := by decide +kernel
theorem dX12_drift_8 : decode cX12_drift 8 = .ok (.getfield 160, 3) := by decide +kernel
theorem dX12_drift_11 : decode cX12_drift 11 = .ok (.invokevirtual 186, 3) := by decide +kernel
theorem dX12_drift_14 : decode cX12_drift 14 = .ok (.ifCond .ne 5, 3) := by decide +kernel
theorem dX12_drift_17 : decode cX12_drift 17 = .ok (.iconst 0, 1) := by decide +kernel
theorem dX12_drift_18 : decode cX12_drift 18 = .ok (.ireturn, 1) := by decide +kernel
theorem dX12_drift_19 : decode cX12_drift 19 = .ok (.dconst 0, 1) := by decide +kernel
theorem dX12_drift_20 : decode cX12_drift 20 = .ok (.dstore_n 2, 1) := by decide +kernel
theorem dX12_drift_21 : decode cX12_drift 21 = .ok (.iconst 0, 1) := by decide +kernel
theorem dX12_drift_22 : decode cX12_drift 22 = .ok (.istore 4, 2) := by decide +kernel
theorem dX12_drift_24 : decode cX12_drift 24 = .ok (.iload 4, 2) := by decide +kernel
theorem dX12_drift_26 : decode cX12_drift 26 = .ok (.bipush 16, 2) := by decide +kernel
theorem dX12_drift_28 : decode cX12_drift 28 = .ok (.if_icmp .ge 25, 3) := by decide +kernel
theorem dX12_drift_31 : decode cX12_drift 31 = .ok (.dload_n 2, 1) := by decide +kernel
theorem dX12_drift_32 : decode cX12_drift 32 = .ok (.aload_n 0, 1) := by decide +kernel
theorem dX12_drift_33 : decode cX12_drift 33 = .ok (.getfield 13, 3) := by decide +kernel
theorem dX12_drift_36 : decode cX12_drift 36 = .ok (.bipush 16, 2) := by decide +kernel
theorem dX12_drift_38 : decode cX12_drift 38 = .ok (.iload_n 1, 1) := by decide +kernel
theorem dX12_drift_39 : decode cX12_drift 39 = .ok (.imul, 1) := by decide +kernel
theorem dX12_drift_40 : decode cX12_drift 40 = .ok (.iload 4, 2) := by decide +kernel
theorem dX12_drift_42 : decode cX12_drift 42 = .ok (.iadd, 1) := by decide +kernel
theorem dX12_drift_43 : decode cX12_drift 43 = .ok (.faload, 1) := by decide +kernel
theorem dX12_drift_44 : decode cX12_drift 44 = .ok (.f2d, 1) := by decide +kernel
theorem dX12_drift_45 : decode cX12_drift 45 = .ok (.dadd, 1) := by decide +kernel
theorem dX12_drift_46 : decode cX12_drift 46 = .ok (.dstore_n 2, 1) := by decide +kernel
theorem dX12_drift_47 : decode cX12_drift 47 = .ok (.iinc 4 1, 3) := by decide +kernel
theorem dX12_drift_50 : decode cX12_drift 50 = .ok (.goto (-26), 3) := by decide +kernel
theorem dX12_drift_53 : decode cX12_drift 53 = .ok (.dload_n 2, 1) := by decide +kernel
theorem dX12_drift_54 : decode cX12_drift 54 = .ok (.ldc2_w 408, 3) := by decide +kernel
theorem dX12_drift_57 : decode cX12_drift 57 = .ok (.ddiv, 1) := by decide +kernel
theorem dX12_drift_58 : decode cX12_drift 58 = .ok (.d2f, 1) := by decide +kernel
theorem dX12_drift_59 : decode cX12_drift 59 = .ok (.invokestatic 223, 3) := by decide +kernel
theorem dX12_drift_62 : decode cX12_drift 62 = .ok (.ireturn, 1) := by decide +kernel
theorem dX12_four_0 : decode cX12_four 0 = .ok (.iconst 0, 1) := by decide +kernel
theorem dX12_four_1 : decode cX12_four 1 = .ok (.istore_n 3, 1) := by decide +kernel
theorem dX12_four_2 : decode cX12_four 2 = .ok (.iload_n 3, 1) := by decide +kernel
theorem dX12_four_3 : decode cX12_four 3 = .ok (.iconst 4, 1) := by decide +kernel
theorem dX12_four_4 : decode cX12_four 4 = .ok (.if_icmp .ge 27, 3) := by decide +kernel
theorem dX12_four_7 : decode cX12_four 7 = .ok (.aload_n 0, 1) := by decide +kernel
theorem dX12_four_8 : decode cX12_four 8 = .ok (.getfield 142, 3) := by decide +kernel
theorem dX12_four_11 : decode cX12_four 11 = .ok (.iload_n 1, 1) := by decide +kernel
theorem dX12_four_12 : decode cX12_four 12 = .ok (.iload_n 3, 1) := by decide +kernel
theorem dX12_four_13 : decode cX12_four 13 = .ok (.iadd, 1) := by decide +kernel
theorem dX12_four_14 : decode cX12_four 14 = .ok (.iload_n 2, 1) := by decide +kernel
theorem dX12_four_15 : decode cX12_four 15 = .ok (.bipush 24, 2) := by decide +kernel
theorem dX12_four_17 : decode cX12_four 17 = .ok (.bipush 8, 2) := by decide +kernel
theorem dX12_four_19 : decode cX12_four 19 = .ok (.iload_n 3, 1) := by decide +kernel
theorem dX12_four_20 : decode cX12_four 20 = .ok (.imul, 1) := by decide +kernel
theorem dX12_four_21 : decode cX12_four 21 = .ok (.isub, 1) := by decide +kernel
theorem dX12_four_22 : decode cX12_four 22 = .ok (.ishr, 1) := by decide +kernel
theorem dX12_four_23 : decode cX12_four 23 = .ok (.i2b, 1) := by decide +kernel
theorem dX12_four_24 : decode cX12_four 24 = .ok (.bastore, 1) := by decide +kernel
theorem dX12_four_25 : decode cX12_four 25 = .ok (.iinc 3 1, 3) := by decide +kernel
theorem dX12_four_28 : decode cX12_four 28 = .ok (.goto (-26), 3) := by decide +kernel
theorem dX12_four_31 : decode cX12_four 31 = .ok (.return_, 1) := by decide +kernel
theorem dX12_sumOf_0 : decode cX12_sumOf 0 = .ok (.bipush 17, 2) := by decide +kernel
theorem dX12_sumOf_2 : decode cX12_sumOf 2 = .ok (.istore_n 2, 1) := by decide +kernel
theorem dX12_sumOf_3 : decode cX12_sumOf 3 = .ok (.iconst 0, 1) := by decide +kernel
theorem dX12_sumOf_4 : decode cX12_sumOf 4 = .ok (.istore_n 3, 1) := by decide +kernel
theorem dX12_sumOf_5 : decode cX12_sumOf 5 = .ok (.iload_n 3, 1) := by decide +kernel
theorem dX12_sumOf_6 : decode cX12_sumOf 6 = .ok (.bipush 64, 2) := by decide +kernel
theorem dX12_sumOf_8 : decode cX12_sumOf 8 = .ok (.if_icmp .ge 22, 3) := by decide +kernel
theorem dX12_sumOf_11 : decode cX12_sumOf 11 = .ok (.bipush 31, 2) := by decide +kernel
theorem dX12_sumOf_13 : decode cX12_sumOf 13 = .ok (.iload_n 2, 1) := by decide +kernel
theorem dX12_sumOf_14 : decode cX12_sumOf 14 = .ok (.imul, 1) := by decide +kernel
theorem dX12_sumOf_15 : decode cX12_sumOf 15 = .ok (.aload_n 1, 1) := by decide +kernel
theorem dX12_sumOf_16 : decode cX12_sumOf 16 = .ok (.iload_n 3, 1) := by decide +kernel
theorem dX12_sumOf_17 : decode cX12_sumOf 17 = .ok (.baload, 1) := by decide +kernel
theorem dX12_sumOf_18 : decode cX12_sumOf 18 = .ok (.sipush 255, 3) := by decide +kernel
