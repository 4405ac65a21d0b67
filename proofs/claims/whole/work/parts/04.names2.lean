theorem dX11_init_314 : decode cX11_init 314 = .ok (.iinc 1 1, 3) := by decide +kernel
theorem dX11_init_317 : decode cX11_init 317 = .ok (.goto (-22), 3) := by decide +kernel
theorem dX11_init_320 : decode cX11_init 320 = .ok (.return_, 1) := by decide +kernel
set_option maxRecDepth 20000 in
theorem ggX11_bands_X7_isTaken : GoodIn wsX11_bands wsX7_isTaken := goodIn_r _ [5, 6] (by decide +kernel) (by decide +kernel)
set_option maxRecDepth 20000 in
theorem gX11_bands_X7_isTaken : GoodIn wsX11_bands (va_wsS RX11 118 yX7_isTaken wsX7_isTaken) := goodIn_app (goodIn_of _ (by decide +kernel)) ggX11_bands_X7_isTaken
set_option maxRecDepth 20000 in
theorem ggX11_bands_X7_floatOf : GoodIn wsX11_bands wsX7_floatOf := goodIn_r _ [9, 10, 11, 12, 13, 14, 15, 16] (by decide +kernel) (by decide +kernel)
set_option maxRecDepth 20000 in
theorem gX11_bands_X7_floatOf : GoodIn wsX11_bands (va_wsS RX11 124 yX7_floatOf wsX7_floatOf) := goodIn_app (goodIn_of _ (by decide +kernel)) ggX11_bands_X7_floatOf
theorem dX11_bands_0 : decode cX11_bands 0 = .ok (.iload_n 1, 1) := by decide +kernel
theorem dX11_bands_1 : decode cX11_bands 1 = .ok (.ifCond .lt 8, 3) := by decide +kernel
theorem dX11_bands_4 : decode cX11_bands 4 = .ok (.iload_n 1, 1) := by decide +kernel
theorem dX11_bands_5 : decode cX11_bands 5 = .ok (.iconst 3, 1) := by decide +kernel
theorem dX11_bands_6 : decode cX11_bands 6 = .ok (.if_icmp .le 5, 3) := by decide +kernel
theorem dX11_bands_9 : decode cX11_bands 9 = .ok (.iconst 0, 1) := by decide +kernel
theorem dX11_bands_10 : decode cX11_bands 10 = .ok (.ireturn, 1) := by decide +kernel
theorem dX11_bands_11 : decode cX11_bands 11 = .ok (.iload_n 2, 1) := by decide +kernel
theorem dX11_bands_12 : decode cX11_bands 12 = .ok (.invokestatic 118, 3) := by decide +kernel
theorem dX11_bands_15 : decode cX11_bands 15 = .ok (.ifCond .eq 26, 3) := by decide +kernel
theorem dX11_bands_18 : decode cX11_bands 18 = .ok (.iload_n 3, 1) := by decide +kernel
theorem dX11_bands_19 : decode cX11_bands 19 = .ok (.invokestatic 118, 3) := by decide +kernel
theorem dX11_bands_22 : decode cX11_bands 22 = .ok (.ifCond .eq 19, 3) := by decide +kernel
theorem dX11_bands_25 : decode cX11_bands 25 = .ok (.iload 4, 2) := by decide +kernel
theorem dX11_bands_27 : decode cX11_bands 27 = .ok (.invokestatic 118, 3) := by decide +kernel
theorem dX11_bands_30 : decode cX11_bands 30 = .ok (.ifCond .eq 11, 3) := by decide +kernel
theorem dX11_bands_33 : decode cX11_bands 33 = .ok (.iload 5, 2) := by decide +kernel
theorem dX11_bands_35 : decode cX11_bands 35 = .ok (.invokestatic 118, 3) := by decide +kernel
theorem dX11_bands_38 : decode cX11_bands 38 = .ok (.ifCond .ne 5, 3) := by decide +kernel
theorem dX11_bands_41 : decode cX11_bands 41 = .ok (.iconst 0, 1) := by decide +kernel
theorem dX11_bands_42 : decode cX11_bands 42 = .ok (.ireturn, 1) := by decide +kernel
theorem dX11_bands_43 : decode cX11_bands 43 = .ok (.aload_n 0, 1) := by decide +kernel
theorem dX11_bands_44 : decode cX11_bands 44 = .ok (.getfield 9, 3) := by decide +kernel
theorem dX11_bands_47 : decode cX11_bands 47 = .ok (.iconst 4, 1) := by decide +kernel
theorem dX11_bands_48 : decode cX11_bands 48 = .ok (.iload_n 1, 1) := by decide +kernel
theorem dX11_bands_49 : decode cX11_bands 49 = .ok (.imul, 1) := by decide +kernel
theorem dX11_bands_50 : decode cX11_bands 50 = .ok (.iload_n 2, 1) := by decide +kernel
theorem dX11_bands_51 : decode cX11_bands 51 = .ok (.invokestatic 124, 3) := by decide +kernel
theorem dX11_bands_54 : decode cX11_bands 54 = .ok (.fastore, 1) := by decide +kernel
theorem dX11_bands_55 : decode cX11_bands 55 = .ok (.aload_n 0, 1) := by decide +kernel
theorem dX11_bands_56 : decode cX11_bands 56 = .ok (.getfield 9, 3) := by decide +kernel
theorem dX11_bands_59 : decode cX11_bands 59 = .ok (.iconst 4, 1) := by decide +kernel
theorem dX11_bands_60 : decode cX11_bands 60 = .ok (.iload_n 1, 1) := by decide +kernel
theorem dX11_bands_61 : decode cX11_bands 61 = .ok (.imul, 1) := by decide +kernel
theorem dX11_bands_62 : decode cX11_bands 62 = .ok (.iconst 1, 1) := by decide +kernel
theorem dX11_bands_63 : decode cX11_bands 63 = .ok (.iadd, 1) := by decide +kernel
theorem dX11_bands_64 : decode cX11_bands 64 = .ok (.iload_n 3, 1) := by decide +kernel
theorem dX11_bands_65 : decode cX11_bands 65 = .ok (.invokestatic 124, 3) := by decide +kernel
theorem dX11_bands_68 : decode cX11_bands 68 = .ok (.fastore, 1) := by decide +kernel
theorem dX11_bands_69 : decode cX11_bands 69 = .ok (.aload_n 0, 1) := by decide +kernel
theorem dX11_bands_70 : decode cX11_bands 70 = .ok (.getfield 9, 3) := by decide +kernel
theorem dX11_bands_73 : decode cX11_bands 73 = .ok (.iconst 4, 1) := by decide +kernel
theorem dX11_bands_74 : decode cX11_bands 74 = .ok (.iload_n 1, 1) := by decide +kernel
theorem dX11_bands_75 : decode cX11_bands 75 = .ok (.imul, 1) := by decide +kernel
theorem dX11_bands_76 : decode cX11_bands 76 = .ok (.iconst 2, 1) := by decide +kernel
theorem dX11_bands_77 : decode cX11_bands 77 = .ok (.iadd, 1) := by decide +kernel
theorem dX11_bands_78 : decode cX11_bands 78 = .ok (.iload 4, 2) := by decide +kernel
theorem dX11_bands_80 : decode cX11_bands 80 = .ok (.invokestatic 124, 3) := by decide +kernel
theorem dX11_bands_83 : decode cX11_bands 83 = .ok (.fastore, 1) := by decide +kernel
theorem dX11_bands_84 : decode cX11_bands 84 = .ok (.aload_n 0, 1) := by decide +kernel
theorem dX11_bands_85 : decode cX11_bands 85 = .ok (.getfield 9, 3) := by decide +kernel
theorem dX11_bands_88 : decode cX11_bands 88 = .ok (.iconst 4, 1) := by decide +kernel
theorem dX11_bands_89 : decode cX11_bands 89 = .ok (.iload_n 1, 1) := by decide +kernel
theorem dX11_bands_90 : decode cX11_bands 90 = .ok (.imul, 1) := by decide +kernel
theorem dX11_bands_91 : decode cX11_bands 91 = .ok (.iconst 3, 1) := by decide +kernel
theorem dX11_bands_92 : decode cX11_bands 92 = .ok (.iadd, 1) := by decide +kernel
theorem dX11_bands_93 : decode cX11_bands 93 = .ok (.iload 5, 2) := by decide +kernel
theorem dX11_bands_95 : decode cX11_bands 95 = .ok (.invokestatic 124, 3) := by decide +kernel
theorem dX11_bands_98 : decode cX11_bands 98 = .ok (.fastore, 1) := by decide +kernel
theorem dX11_bands_99 : decode cX11_bands 99 = .ok (.iconst 1, 1) := by decide +kernel
theorem dX11_bands_100 : decode cX11_bands 100 = .ok (.ireturn, 1) := by decide +kernel
set_option maxRecDepth 20000 in
theorem ggX11_chip_X11_refused : GoodIn wsX11_chip wsX11_refused := goodIn_r _ [9, 10, 40, 41, 42, 43, 44, 45, 46, 47, 48, 49, 50, 51, 52, 53, 54, 55, 56, 57, 58, 59] (by decide +kernel) (by decide +kernel)
set_option maxRecDepth 20000 in
theorem gX11_chip_X11_refused : GoodIn wsX11_chip (wsV RX11 128 RX11 yX11_refused wsX11_refused) := goodIn_app (goodIn_of _ (by decide +kernel)) ggX11_chip_X11_refused
set_option maxRecDepth 20000 in
theorem ggX11_chip_X11_copyRow : GoodIn wsX11_chip wsX11_copyRow := goodIn_r _ [13, 14, 15, 16, 17] (by decide +kernel) (by decide +kernel)
set_option maxRecDepth 20000 in
theorem gX11_chip_X11_copyRow : GoodIn wsX11_chip (va_wsS RX11 135 yX11_copyRow wsX11_copyRow) := goodIn_app (goodIn_of _ (by decide +kernel)) ggX11_chip_X11_copyRow
set_option maxRecDepth 20000 in
theorem ggX11_chip_X11_newOne : GoodIn wsX11_chip wsX11_newOne := goodIn_r _ [21, 22, 1, 23, 24, 25, 26, 27, 28, 29, 30, 31, 32, 33, 34, 35, 36, 37, 38, 8, 39, 10, 40, 41, 42, 43, 44, 45, 46, 47, 48, 49, 50, 51, 52, 53, 54, 55, 56, 57, 58, 59, 62, 63, 64, 65] (by decide +kernel) (by decide +kernel)
set_option maxRecDepth 20000 in
theorem gX11_chip_X11_newOne : GoodIn wsX11_chip (wsV RX11 139 RX11 yX11_newOne wsX11_newOne) := goodIn_app (goodIn_of _ (by decide +kernel)) ggX11_chip_X11_newOne
theorem dX11_chip_0 : decode cX11_chip 0 = .ok (.aload_n 0, 1) := by decide +kernel
theorem dX11_chip_1 : decode cX11_chip 1 = .ok (.getfield 20, 3) := by decide +kernel
theorem dX11_chip_4 : decode cX11_chip 4 = .ok (.iconst 0, 1) := by decide +kernel
theorem dX11_chip_5 : decode cX11_chip 5 = .ok (.iaload, 1) := by decide +kernel
theorem dX11_chip_6 : decode cX11_chip 6 = .ok (.bipush 40, 2) := by decide +kernel
theorem dX11_chip_8 : decode cX11_chip 8 = .ok (.if_icmp .lt 9, 3) := by decide +kernel
theorem dX11_chip_11 : decode cX11_chip 11 = .ok (.aload_n 0, 1) := by decide +kernel
theorem dX11_chip_12 : decode cX11_chip 12 = .ok (.iconst 1, 1) := by decide +kernel
theorem dX11_chip_13 : decode cX11_chip 13 = .ok (.invokevirtual 128, 3) := by decide +kernel
theorem dX11_chip_16 : decode cX11_chip 16 = .ok (.ireturn, 1) := by decide +kernel
theorem dX11_chip_17 : decode cX11_chip 17 = .ok (.aload_n 0, 1) := by decide +kernel
theorem dX11_chip_18 : decode cX11_chip 18 = .ok (.getfield 9, 3) := by decide +kernel
theorem dX11_chip_21 : decode cX11_chip 21 = .ok (.aload_n 0, 1) := by decide +kernel
theorem dX11_chip_22 : decode cX11_chip 22 = .ok (.getfield 26, 3) := by decide +kernel
theorem dX11_chip_25 : decode cX11_chip 25 = .ok (.aload_n 0, 1) := by decide +kernel
theorem dX11_chip_26 : decode cX11_chip 26 = .ok (.getfield 20, 3) := by decide +kernel
theorem dX11_chip_29 : decode cX11_chip 29 = .ok (.iconst 0, 1) := by decide +kernel
theorem dX11_chip_30 : decode cX11_chip 30 = .ok (.iaload, 1) := by decide +kernel
theorem dX11_chip_31 : decode cX11_chip 31 = .ok (.aaload, 1) := by decide +kernel
theorem dX11_chip_32 : decode cX11_chip 32 = .ok (.getfield 132, 3) := by decide +kernel
theorem dX11_chip_35 : decode cX11_chip 35 = .ok (.invokestatic 135, 3) := by decide +kernel
theorem dX11_chip_38 : decode cX11_chip 38 = .ok (.aload_n 0, 1) := by decide +kernel
theorem dX11_chip_39 : decode cX11_chip 39 = .ok (.iconst 0, 1) := by decide +kernel
theorem dX11_chip_40 : decode cX11_chip 40 = .ok (.invokevirtual 139, 3) := by decide +kernel
theorem dX11_chip_43 : decode cX11_chip 43 = .ok (.ireturn, 1) := by decide +kernel
set_option maxRecDepth 20000 in
theorem ggX11_cloth_X11_refused : GoodIn wsX11_cloth wsX11_refused := goodIn_r _ [8, 9, 39, 40, 41, 42, 43, 44, 45, 46, 47, 48, 49, 50, 51, 52, 53, 54, 55, 56, 57, 58] (by decide +kernel) (by decide +kernel)
set_option maxRecDepth 20000 in
theorem gX11_cloth_X11_refused : GoodIn wsX11_cloth (wsV RX11 128 RX11 yX11_refused wsX11_refused) := goodIn_app (goodIn_of _ (by decide +kernel)) ggX11_cloth_X11_refused
set_option maxRecDepth 20000 in
theorem ggX11_cloth_X11_copyRow : GoodIn wsX11_cloth wsX11_copyRow := goodIn_r _ [12, 13, 14, 15, 16] (by decide +kernel) (by decide +kernel)
set_option maxRecDepth 20000 in
theorem gX11_cloth_X11_copyRow : GoodIn wsX11_cloth (va_wsS RX11 135 yX11_copyRow wsX11_copyRow) := goodIn_app (goodIn_of _ (by decide +kernel)) ggX11_cloth_X11_copyRow
set_option maxRecDepth 20000 in
theorem ggX11_cloth_X11_newOne : GoodIn wsX11_cloth wsX11_newOne := goodIn_r _ [20, 21, 1, 22, 23, 24, 25, 26, 27, 28, 29, 30, 31, 32, 33, 34, 35, 36, 37, 7, 38, 9, 39, 40, 41, 42, 43, 44, 45, 46, 47, 48, 49, 50, 51, 52, 53, 54, 55, 56, 57, 58, 59, 60, 61, 62] (by decide +kernel) (by decide +kernel)
set_option maxRecDepth 20000 in
theorem gX11_cloth_X11_newOne : GoodIn wsX11_cloth (wsV RX11 139 RX11 yX11_newOne wsX11_newOne) := goodIn_app (goodIn_of _ (by decide +kernel)) ggX11_cloth_X11_newOne
theorem dX11_cloth_0 : decode cX11_cloth 0 = .ok (.aload_n 0, 1) := by decide +kernel
theorem dX11_cloth_1 : decode cX11_cloth 1 = .ok (.getfield 20, 3) := by decide +kernel
theorem dX11_cloth_4 : decode cX11_cloth 4 = .ok (.iconst 1, 1) := by decide +kernel
theorem dX11_cloth_5 : decode cX11_cloth 5 = .ok (.iaload, 1) := by decide +kernel
theorem dX11_cloth_6 : decode cX11_cloth 6 = .ok (.bipush 8, 2) := by decide +kernel
theorem dX11_cloth_8 : decode cX11_cloth 8 = .ok (.if_icmp .lt 9, 3) := by decide +kernel
theorem dX11_cloth_11 : decode cX11_cloth 11 = .ok (.aload_n 0, 1) := by decide +kernel
theorem dX11_cloth_12 : decode cX11_cloth 12 = .ok (.iconst 1, 1) := by decide +kernel
theorem dX11_cloth_13 : decode cX11_cloth 13 = .ok (.invokevirtual 128, 3) := by decide +kernel
theorem dX11_cloth_16 : decode cX11_cloth 16 = .ok (.ireturn, 1) := by decide +kernel
theorem dX11_cloth_17 : decode cX11_cloth 17 = .ok (.aload_n 0, 1) := by decide +kernel
theorem dX11_cloth_18 : decode cX11_cloth 18 = .ok (.getfield 9, 3) := by decide +kernel
theorem dX11_cloth_21 : decode cX11_cloth 21 = .ok (.aload_n 0, 1) := by decide +kernel
theorem dX11_cloth_22 : decode cX11_cloth 22 = .ok (.getfield 32, 3) := by decide +kernel
theorem dX11_cloth_25 : decode cX11_cloth 25 = .ok (.aload_n 0, 1) := by decide +kernel
theorem dX11_cloth_26 : decode cX11_cloth 26 = .ok (.getfield 20, 3) := by decide +kernel
theorem dX11_cloth_29 : decode cX11_cloth 29 = .ok (.iconst 1, 1) := by decide +kernel
theorem dX11_cloth_30 : decode cX11_cloth 30 = .ok (.iaload, 1) := by decide +kernel
theorem dX11_cloth_31 : decode cX11_cloth 31 = .ok (.aaload, 1) := by decide +kernel
theorem dX11_cloth_32 : decode cX11_cloth 32 = .ok (.invokestatic 135, 3) := by decide +kernel
theorem dX11_cloth_35 : decode cX11_cloth 35 = .ok (.aload_n 0, 1) := by decide +kernel
theorem dX11_cloth_36 : decode cX11_cloth 36 = .ok (.iconst 1, 1) := by decide +kernel
theorem dX11_cloth_37 : decode cX11_cloth 37 = .ok (.invokevirtual 139, 3) := by decide +kernel
theorem dX11_cloth_40 : decode cX11_cloth 40 = .ok (.ireturn, 1) := by decide +kernel
set_option maxRecDepth 20000 in
theorem ggX11_dye_X11_isThere : GoodIn wsX11_dye wsX11_isThere := goodIn_r _ [7, 1, 43, 44, 45, 46, 47, 48, 49, 50, 51, 52, 53, 54, 55, 56, 57, 58, 59, 60, 61, 62] (by decide +kernel) (by decide +kernel)
set_option maxRecDepth 20000 in
theorem gX11_dye_X11_isThere : GoodIn wsX11_dye (wsV RX11 142 RX11 yX11_isThere wsX11_isThere) := goodIn_app (goodIn_of _ (by decide +kernel)) ggX11_dye_X11_isThere
set_option maxRecDepth 20000 in
theorem ggX11_dye_X11_refused : GoodIn wsX11_dye wsX11_refused := goodIn_r _ [11, 12, 43, 44, 45, 46, 47, 48, 49, 50, 51, 52, 53, 54, 55, 56, 57, 58, 59, 60, 61, 62] (by decide +kernel) (by decide +kernel)
set_option maxRecDepth 20000 in
theorem gX11_dye_X11_refused : GoodIn wsX11_dye (wsV RX11 128 RX11 yX11_refused wsX11_refused) := goodIn_app (goodIn_of _ (by decide +kernel)) ggX11_dye_X11_refused
set_option maxRecDepth 20000 in
theorem ggX11_dye_X3_begin : GoodIn wsX11_dye wsX3_begin := goodIn_r _ [17, 18, 19, 20, 63, 64, 65, 66, 67] (by decide +kernel) (by decide +kernel)
set_option maxRecDepth 20000 in
theorem gX11_dye_X3_begin : GoodIn wsX11_dye (wsV RX11 146 RX3 yX3_begin wsX3_begin) := goodIn_app (goodIn_of _ (by decide +kernel)) ggX11_dye_X3_begin
set_option maxRecDepth 20000 in
theorem ggX11_dye_X11_newOne : GoodIn wsX11_dye wsX11_newOne := goodIn_r _ [24, 25, 1, 26, 27, 28, 29, 30, 31, 32, 33, 34, 35, 36, 37, 38, 39, 40, 41, 6, 42, 12, 43, 44, 45, 46, 47, 48, 49, 50, 51, 52, 53, 54, 55, 56, 57, 58, 59, 60, 61, 62, 68, 69, 70, 71] (by decide +kernel) (by decide +kernel)
set_option maxRecDepth 20000 in
theorem gX11_dye_X11_newOne : GoodIn wsX11_dye (wsV RX11 139 RX11 yX11_newOne wsX11_newOne) := goodIn_app (goodIn_of _ (by decide +kernel)) ggX11_dye_X11_newOne
theorem dX11_dye_0 : decode cX11_dye 0 = .ok (.aload_n 0, 1) := by decide +kernel
theorem dX11_dye_1 : decode cX11_dye 1 = .ok (.iconst 1, 1) := by decide +kernel
theorem dX11_dye_2 : decode cX11_dye 2 = .ok (.iload_n 1, 1) := by decide +kernel
theorem dX11_dye_3 : decode cX11_dye 3 = .ok (.invokevirtual 142, 3) := by decide +kernel
theorem dX11_dye_6 : decode cX11_dye 6 = .ok (.ifCond .ne 9, 3) := by decide +kernel
theorem dX11_dye_9 : decode cX11_dye 9 = .ok (.aload_n 0, 1) := by decide +kernel
theorem dX11_dye_10 : decode cX11_dye 10 = .ok (.iconst 2, 1) := by decide +kernel
theorem dX11_dye_11 : decode cX11_dye 11 = .ok (.invokevirtual 128, 3) := by decide +kernel
theorem dX11_dye_14 : decode cX11_dye 14 = .ok (.ireturn, 1) := by decide +kernel
theorem dX11_dye_15 : decode cX11_dye 15 = .ok (.aload_n 0, 1) := by decide +kernel
theorem dX11_dye_16 : decode cX11_dye 16 = .ok (.getfield 20, 3) := by decide +kernel
theorem dX11_dye_19 : decode cX11_dye 19 = .ok (.iconst 2, 1) := by decide +kernel
theorem dX11_dye_20 : decode cX11_dye 20 = .ok (.iaload, 1) := by decide +kernel
theorem dX11_dye_21 : decode cX11_dye 21 = .ok (.bipush 12, 2) := by decide +kernel
theorem dX11_dye_23 : decode cX11_dye 23 = .ok (.if_icmp .lt 9, 3) := by decide +kernel
theorem dX11_dye_26 : decode cX11_dye 26 = .ok (.aload_n 0, 1) := by decide +kernel
theorem dX11_dye_27 : decode cX11_dye 27 = .ok (.iconst 1, 1) := by decide +kernel
theorem dX11_dye_28 : decode cX11_dye 28 = .ok (.invokevirtual 128, 3) := by decide +kernel
theorem dX11_dye_31 : decode cX11_dye 31 = .ok (.ireturn, 1) := by decide +kernel
theorem dX11_dye_32 : decode cX11_dye 32 = .ok (.aload_n 0, 1) := by decide +kernel
theorem dX11_dye_33 : decode cX11_dye 33 = .ok (.getfield 37, 3) := by decide +kernel
theorem dX11_dye_36 : decode cX11_dye 36 = .ok (.aload_n 0, 1) := by decide +kernel
theorem dX11_dye_37 : decode cX11_dye 37 = .ok (.getfield 20, 3) := by decide +kernel
theorem dX11_dye_40 : decode cX11_dye 40 = .ok (.iconst 2, 1) := by decide +kernel
theorem dX11_dye_41 : decode cX11_dye 41 = .ok (.iaload, 1) := by decide +kernel
theorem dX11_dye_42 : decode cX11_dye 42 = .ok (.aaload, 1) := by decide +kernel
theorem dX11_dye_43 : decode cX11_dye 43 = .ok (.iload_n 1, 1) := by decide +kernel
theorem dX11_dye_44 : decode cX11_dye 44 = .ok (.invokevirtual 146, 3) := by decide +kernel
theorem dX11_dye_47 : decode cX11_dye 47 = .ok (.aload_n 0, 1) := by decide +kernel
theorem dX11_dye_48 : decode cX11_dye 48 = .ok (.iconst 2, 1) := by decide +kernel
theorem dX11_dye_49 : decode cX11_dye 49 = .ok (.invokevirtual 139, 3) := by decide +kernel
theorem dX11_dye_52 : decode cX11_dye 52 = .ok (.ireturn, 1) := by decide +kernel
set_option maxRecDepth 20000 in
theorem ggX11_strength_X11_isThere : GoodIn wsX11_strength wsX11_isThere := goodIn_r _ [12, 13, 57, 58, 59, 60, 61, 62, 63, 64, 65, 66, 67, 68, 69, 70, 71, 72, 73, 74, 75, 76] (by decide +kernel) (by decide +kernel)
set_option maxRecDepth 20000 in
theorem gX11_strength_X11_isThere : GoodIn wsX11_strength (wsV RX11 142 RX11 yX11_isThere wsX11_isThere) := goodIn_app (goodIn_of _ (by decide +kernel)) ggX11_strength_X11_isThere
set_option maxRecDepth 20000 in
theorem ggX11_strength_X11_refused : GoodIn wsX11_strength wsX11_refused := goodIn_r _ [17, 18, 57, 58, 59, 60, 61, 62, 63, 64, 65, 66, 67, 68, 69, 70, 71, 72, 73, 74, 75, 76] (by decide +kernel) (by decide +kernel)
set_option maxRecDepth 20000 in
theorem gX11_strength_X11_refused : GoodIn wsX11_strength (wsV RX11 128 RX11 yX11_refused wsX11_refused) := goodIn_app (goodIn_of _ (by decide +kernel)) ggX11_strength_X11_refused
set_option maxRecDepth 20000 in
theorem ggX11_strength_X11_isWithin : GoodIn wsX11_strength wsX11_isWithin := goodIn_r _ [21] (by decide +kernel) (by decide +kernel)
set_option maxRecDepth 20000 in
theorem gX11_strength_X11_isWithin : GoodIn wsX11_strength (va_wsS RX11 151 yX11_isWithin wsX11_isWithin) := goodIn_app (goodIn_of _ (by decide +kernel)) ggX11_strength_X11_isWithin
set_option maxRecDepth 20000 in
theorem ggX11_strength_X3_lastGrams : GoodIn wsX11_strength wsX3_lastGrams := goodIn_r _ [26, 27, 28, 77, 78, 79, 80, 81] (by decide +kernel) (by decide +kernel)
set_option maxRecDepth 20000 in
theorem gX11_strength_X3_lastGrams : GoodIn wsX11_strength (wsV RX11 155 RX3 yX3_lastGrams wsX3_lastGrams) := goodIn_app (goodIn_of _ (by decide +kernel)) ggX11_strength_X3_lastGrams
set_option maxRecDepth 20000 in
theorem ggX11_strength_X3_strengthen : GoodIn wsX11_strength wsX3_strengthen := goodIn_r _ [32, 33, 27, 28, 34, 35, 36, 37, 38, 39, 77, 78, 79, 80, 81] (by decide +kernel) (by decide +kernel)
set_option maxRecDepth 20000 in
theorem gX11_strength_X3_strengthen : GoodIn wsX11_strength (wsV RX11 165 RX3 yX3_strengthen wsX3_strengthen) := goodIn_app (goodIn_of _ (by decide +kernel)) ggX11_strength_X3_strengthen
set_option maxRecDepth 20000 in
theorem ggX11_strength_X0_note : GoodIn wsX11_strength wsX0_note := goodIn_r _ [44, 45, 46, 47, 48, 49, 50, 51, 52, 82, 83, 84, 85] (by decide +kernel) (by decide +kernel)
set_option maxRecDepth 20000 in
theorem gX11_strength_X0_note : GoodIn wsX11_strength (wsV RX11 169 RX0 yX0_note wsX0_note) := goodIn_app (goodIn_of _ (by decide +kernel)) ggX11_strength_X0_note
set_option maxRecDepth 20000 in
theorem ggX11_strength_X11_accept : GoodIn wsX11_strength wsX11_accept := goodIn_r _ [56, 18, 57, 58, 59, 60, 61, 62, 63, 64, 65, 66, 67, 68, 69, 70, 71, 72, 73, 74, 75, 76] (by decide +kernel) (by decide +kernel)
set_option maxRecDepth 20000 in
theorem gX11_strength_X11_accept : GoodIn wsX11_strength (wsV RX11 173 RX11 yX11_accept wsX11_accept) := goodIn_app (goodIn_of _ (by decide +kernel)) ggX11_strength_X11_accept
theorem dX11_strength_0 : decode cX11_strength 0 = .ok (.aload_n 0, 1) := by decide +kernel
theorem dX11_strength_1 : decode cX11_strength 1 = .ok (.iconst 2, 1) := by decide +kernel
theorem dX11_strength_2 : decode cX11_strength 2 = .ok (.iload_n 1, 1) := by decide +kernel
theorem dX11_strength_3 : decode cX11_strength 3 = .ok (.invokevirtual 142, 3) := by decide +kernel
theorem dX11_strength_6 : decode cX11_strength 6 = .ok (.ifCond .ne 9, 3) := by decide +kernel
theorem dX11_strength_9 : decode cX11_strength 9 = .ok (.aload_n 0, 1) := by decide +kernel
theorem dX11_strength_10 : decode cX11_strength 10 = .ok (.iconst 2, 1) := by decide +kernel
theorem dX11_strength_11 : decode cX11_strength 11 = .ok (.invokevirtual 128, 3) := by decide +kernel
theorem dX11_strength_14 : decode cX11_strength 14 = .ok (.ireturn, 1) := by decide +kernel
theorem dX11_strength_15 : decode cX11_strength 15 = .ok (.aload_n 0, 1) := by decide +kernel
theorem dX11_strength_16 : decode cX11_strength 16 = .ok (.getfield 37, 3) := by decide +kernel
theorem dX11_strength_19 : decode cX11_strength 19 = .ok (.iload_n 1, 1) := by decide +kernel
theorem dX11_strength_20 : decode cX11_strength 20 = .ok (.aaload, 1) := by decide +kernel
theorem dX11_strength_21 : decode cX11_strength 21 = .ok (.astore_n 3, 1) := by decide +kernel
theorem dX11_strength_22 : decode cX11_strength 22 = .ok (.iload_n 2, 1) := by decide +kernel
theorem dX11_strength_23 : decode cX11_strength 23 = .ok (.iconst 1, 1) := by decide +kernel
theorem dX11_strength_24 : decode cX11_strength 24 = .ok (.ldc 150, 2) := by decide +kernel
theorem dX11_strength_26 : decode cX11_strength 26 = .ok (.invokestatic 151, 3) := by decide +kernel
theorem dX11_strength_29 : decode cX11_strength 29 = .ok (.ifCond .eq 11, 3) := by decide +kernel
theorem dX11_strength_32 : decode cX11_strength 32 = .ok (.iload_n 2, 1) := by decide +kernel
theorem dX11_strength_33 : decode cX11_strength 33 = .ok (.aload_n 3, 1) := by decide +kernel
theorem dX11_strength_34 : decode cX11_strength 34 = .ok (.invokevirtual 155, 3) := by decide +kernel
theorem dX11_strength_37 : decode cX11_strength 37 = .ok (.if_icmp .gt 9, 3) := by decide +kernel
theorem dX11_strength_40 : decode cX11_strength 40 = .ok (.aload_n 0, 1) := by decide +kernel
theorem dX11_strength_41 : decode cX11_strength 41 = .ok (.iconst 3, 1) := by decide +kernel
theorem dX11_strength_42 : decode cX11_strength 42 = .ok (.invokevirtual 128, 3) := by decide +kernel
theorem dX11_strength_45 : decode cX11_strength 45 = .ok (.ireturn, 1) := by decide +kernel
theorem dX11_strength_46 : decode cX11_strength 46 = .ok (.aload_n 3, 1) := by decide +kernel
theorem dX11_strength_47 : decode cX11_strength 47 = .ok (.getfield 159, 3) := by decide +kernel
theorem dX11_strength_50 : decode cX11_strength 50 = .ok (.bipush 6, 2) := by decide +kernel
theorem dX11_strength_52 : decode cX11_strength 52 = .ok (.if_icmp .lt 9, 3) := by decide +kernel
theorem dX11_strength_55 : decode cX11_strength 55 = .ok (.aload_n 0, 1) := by decide +kernel
theorem dX11_strength_56 : decode cX11_strength 56 = .ok (.iconst 1, 1) := by decide +kernel
theorem dX11_strength_57 : decode cX11_strength 57 = .ok (.invokevirtual 128, 3) := by decide +kernel
theorem dX11_strength_60 : decode cX11_strength 60 = .ok (.ireturn, 1) := by decide +kernel
theorem dX11_strength_61 : decode cX11_strength 61 = .ok (.aload_n 3, 1) := by decide +kernel
theorem dX11_strength_62 : decode cX11_strength 62 = .ok (.iload_n 2, 1) := by decide +kernel
theorem dX11_strength_63 : decode cX11_strength 63 = .ok (.aload_n 0, 1) := by decide +kernel
theorem dX11_strength_64 : decode cX11_strength 64 = .ok (.getfield 9, 3) := by decide +kernel
theorem dX11_strength_67 : decode cX11_strength 67 = .ok (.aload_n 0, 1) := by decide +kernel
theorem dX11_strength_68 : decode cX11_strength 68 = .ok (.getfield 32, 3) := by decide +kernel
theorem dX11_strength_71 : decode cX11_strength 71 = .ok (.aload_n 3, 1) := by decide +kernel
theorem dX11_strength_72 : decode cX11_strength 72 = .ok (.getfield 162, 3) := by decide +kernel
theorem dX11_strength_75 : decode cX11_strength 75 = .ok (.aaload, 1) := by decide +kernel
theorem dX11_strength_76 : decode cX11_strength 76 = .ok (.invokevirtual 165, 3) := by decide +kernel
theorem dX11_strength_79 : decode cX11_strength 79 = .ok (.aload_n 0, 1) := by decide +kernel
theorem dX11_strength_80 : decode cX11_strength 80 = .ok (.getfield 106, 3) := by decide +kernel
theorem dX11_strength_83 : decode cX11_strength 83 = .ok (.bipush 6, 2) := by decide +kernel
theorem dX11_strength_85 : decode cX11_strength 85 = .ok (.iload_n 1, 1) := by decide +kernel
theorem dX11_strength_86 : decode cX11_strength 86 = .ok (.iconst 0, 1) := by decide +kernel
theorem dX11_strength_87 : decode cX11_strength 87 = .ok (.iconst 0, 1) := by decide +kernel
theorem dX11_strength_88 : decode cX11_strength 88 = .ok (.invokevirtual 169, 3) := by decide +kernel
theorem dX11_strength_91 : decode cX11_strength 91 = .ok (.pop, 1) := by decide +kernel
theorem dX11_strength_92 : decode cX11_strength 92 = .ok (.aload_n 0, 1) := by decide +kernel
theorem dX11_strength_93 : decode cX11_strength 93 = .ok (.invokevirtual 173, 3) := by decide +kernel
theorem dX11_strength_96 : decode cX11_strength 96 = .ok (.pop, 1) := by decide +kernel
theorem dX11_strength_97 : decode cX11_strength 97 = .ok (.aload_n 3, 1) := by decide +kernel
theorem dX11_strength_98 : decode cX11_strength 98 = .ok (.getfield 159, 3) := by decide +kernel
theorem dX11_strength_101 : decode cX11_strength 101 = .ok (.ireturn, 1) := by decide +kernel
set_option maxRecDepth 20000 in
theorem ggX11_cents_X11_isThere : GoodIn wsX11_cents wsX11_isThere := goodIn_r _ [9, 10, 36, 37, 38, 39, 40, 41, 42, 43, 44, 45, 46, 47, 48, 49, 50, 51, 52, 53, 54, 55] (by decide +kernel) (by decide +kernel)
set_option maxRecDepth 20000 in
theorem gX11_cents_X11_isThere : GoodIn wsX11_cents (wsV RX11 142 RX11 yX11_isThere wsX11_isThere) := goodIn_app (goodIn_of _ (by decide +kernel)) ggX11_cents_X11_isThere
set_option maxRecDepth 20000 in
theorem ggX11_cents_X11_denied : GoodIn wsX11_cents wsX11_denied := goodIn_r _ [14, 15, 36, 37, 38, 39, 40, 41, 42, 43, 44, 45, 46, 47, 48, 49, 50, 51, 52, 53, 54, 55] (by decide +kernel) (by decide +kernel)
set_option maxRecDepth 20000 in
theorem gX11_cents_X11_denied : GoodIn wsX11_cents (wsV RX11 177 RX11 yX11_denied wsX11_denied) := goodIn_app (goodIn_of _ (by decide +kernel)) ggX11_cents_X11_denied
set_option maxRecDepth 20000 in
theorem ggX11_cents_X11_isWithin : GoodIn wsX11_cents wsX11_isWithin := goodIn_r _ [18] (by decide +kernel) (by decide +kernel)
set_option maxRecDepth 20000 in
theorem gX11_cents_X11_isWithin : GoodIn wsX11_cents (va_wsS RX11 151 yX11_isWithin wsX11_isWithin) := goodIn_app (goodIn_of _ (by decide +kernel)) ggX11_cents_X11_isWithin
set_option maxRecDepth 20000 in
theorem ggX11_cents_X0_note : GoodIn wsX11_cents wsX0_note := goodIn_r _ [23, 24, 25, 26, 27, 28, 29, 30, 31, 61, 62, 63, 64] (by decide +kernel) (by decide +kernel)
set_option maxRecDepth 20000 in
theorem gX11_cents_X0_note : GoodIn wsX11_cents (wsV RX11 169 RX0 yX0_note wsX0_note) := goodIn_app (goodIn_of _ (by decide +kernel)) ggX11_cents_X0_note
set_option maxRecDepth 20000 in
theorem ggX11_cents_X11_accept : GoodIn wsX11_cents wsX11_accept := goodIn_r _ [35, 15, 36, 37, 38, 39, 40, 41, 42, 43, 44, 45, 46, 47, 48, 49, 50, 51, 52, 53, 54, 55] (by decide +kernel) (by decide +kernel)
set_option maxRecDepth 20000 in
theorem gX11_cents_X11_accept : GoodIn wsX11_cents (wsV RX11 173 RX11 yX11_accept wsX11_accept) := goodIn_app (goodIn_of _ (by decide +kernel)) ggX11_cents_X11_accept
theorem dX11_cents_0 : decode cX11_cents 0 = .ok (.aload_n 0, 1) := by decide +kernel
theorem dX11_cents_1 : decode cX11_cents 1 = .ok (.iconst 2, 1) := by decide +kernel
theorem dX11_cents_2 : decode cX11_cents 2 = .ok (.iload_n 1, 1) := by decide +kernel
theorem dX11_cents_3 : decode cX11_cents 3 = .ok (.invokevirtual 142, 3) := by decide +kernel
theorem dX11_cents_6 : decode cX11_cents 6 = .ok (.ifCond .ne 9, 3) := by decide +kernel
theorem dX11_cents_9 : decode cX11_cents 9 = .ok (.aload_n 0, 1) := by decide +kernel
theorem dX11_cents_10 : decode cX11_cents 10 = .ok (.iconst 2, 1) := by decide +kernel
theorem dX11_cents_11 : decode cX11_cents 11 = .ok (.invokevirtual 177, 3) := by decide +kernel
theorem dX11_cents_14 : decode cX11_cents 14 = .ok (.ireturn, 1) := by decide +kernel
theorem dX11_cents_15 : decode cX11_cents 15 = .ok (.iload_n 2, 1) := by decide +kernel
theorem dX11_cents_16 : decode cX11_cents 16 = .ok (.iconst 0, 1) := by decide +kernel
theorem dX11_cents_17 : decode cX11_cents 17 = .ok (.ldc 150, 2) := by decide +kernel
theorem dX11_cents_19 : decode cX11_cents 19 = .ok (.invokestatic 151, 3) := by decide +kernel
theorem dX11_cents_22 : decode cX11_cents 22 = .ok (.ifCond .ne 9, 3) := by decide +kernel
theorem dX11_cents_25 : decode cX11_cents 25 = .ok (.aload_n 0, 1) := by decide +kernel
theorem dX11_cents_26 : decode cX11_cents 26 = .ok (.iconst 3, 1) := by decide +kernel
theorem dX11_cents_27 : decode cX11_cents 27 = .ok (.invokevirtual 177, 3) := by decide +kernel
theorem dX11_cents_30 : decode cX11_cents 30 = .ok (.ireturn, 1) := by decide +kernel
theorem dX11_cents_31 : decode cX11_cents 31 = .ok (.aload_n 0, 1) := by decide +kernel
theorem dX11_cents_32 : decode cX11_cents 32 = .ok (.getfield 106, 3) := by decide +kernel
theorem dX11_cents_35 : decode cX11_cents 35 = .ok (.bipush 7, 2) := by decide +kernel
theorem dX11_cents_37 : decode cX11_cents 37 = .ok (.iload_n 1, 1) := by decide +kernel
theorem dX11_cents_38 : decode cX11_cents 38 = .ok (.aload_n 0, 1) := by decide +kernel
theorem dX11_cents_39 : decode cX11_cents 39 = .ok (.getfield 37, 3) := by decide +kernel
theorem dX11_cents_42 : decode cX11_cents 42 = .ok (.iload_n 1, 1) := by decide +kernel
theorem dX11_cents_43 : decode cX11_cents 43 = .ok (.aaload, 1) := by decide +kernel
theorem dX11_cents_44 : decode cX11_cents 44 = .ok (.getfield 180, 3) := by decide +kernel
theorem dX11_cents_47 : decode cX11_cents 47 = .ok (.iconst 0, 1) := by decide +kernel
theorem dX11_cents_48 : decode cX11_cents 48 = .ok (.invokevirtual 169, 3) := by decide +kernel
theorem dX11_cents_51 : decode cX11_cents 51 = .ok (.pop, 1) := by decide +kernel
theorem dX11_cents_52 : decode cX11_cents 52 = .ok (.aload_n 0, 1) := by decide +kernel
theorem dX11_cents_53 : decode cX11_cents 53 = .ok (.getfield 37, 3) := by decide +kernel
theorem dX11_cents_56 : decode cX11_cents 56 = .ok (.iload_n 1, 1) := by decide +kernel
theorem dX11_cents_57 : decode cX11_cents 57 = .ok (.aaload, 1) := by decide +kernel
theorem dX11_cents_58 : decode cX11_cents 58 = .ok (.iload_n 2, 1) := by decide +kernel
theorem dX11_cents_59 : decode cX11_cents 59 = .ok (.putfield 180, 3) := by decide +kernel
theorem dX11_cents_62 : decode cX11_cents 62 = .ok (.aload_n 0, 1) := by decide +kernel
theorem dX11_cents_63 : decode cX11_cents 63 = .ok (.invokevirtual 173, 3) := by decide +kernel
theorem dX11_cents_66 : decode cX11_cents 66 = .ok (.ireturn, 1) := by decide +kernel
set_option maxRecDepth 20000 in
theorem ggX11_band_X11_driftOf : GoodIn wsX11_band wsX11_driftOf := goodIn_r _ [5, 6, 7, 8, 9, 10, 4, 11, 12, 34, 35, 36, 37, 38, 39, 40, 41, 42, 43, 44, 45, 46, 47, 48, 49, 50, 51, 52, 53, 54, 55] (by decide +kernel) (by decide +kernel)
set_option maxRecDepth 20000 in
theorem gX11_band_X11_driftOf : GoodIn wsX11_band (wsV RX11 183 RX11 yX11_driftOf wsX11_driftOf) := goodIn_app (goodIn_of _ (by decide +kernel)) ggX11_band_X11_driftOf
set_option maxRecDepth 20000 in
theorem ggX11_band_X11_spectrumOf : GoodIn wsX11_band wsX11_spectrumOf := goodIn_r _ [16, 17, 6, 18, 19, 20, 21, 22, 23, 24, 8, 9, 10, 4, 11, 12, 34, 35, 36, 37, 38, 39, 40, 41, 42, 43, 44, 45, 46, 47, 48, 49, 50, 51, 52, 53, 54, 55, 56, 57, 58, 59, 60, 61, 62] (by decide +kernel) (by decide +kernel)
set_option maxRecDepth 20000 in
theorem gX11_band_X11_spectrumOf : GoodIn wsX11_band (wsV RX11 187 RX11 yX11_spectrumOf wsX11_spectrumOf) := goodIn_app (goodIn_of _ (by decide +kernel)) ggX11_band_X11_spectrumOf
set_option maxRecDepth 20000 in
theorem ggX11_band_X7_floatBits : GoodIn wsX11_band wsX7_floatBits := goodIn_r _ [28, 29, 30, 31, 32, 33] (by decide +kernel) (by decide +kernel)
set_option maxRecDepth 20000 in
theorem gX11_band_X7_floatBits : GoodIn wsX11_band (va_wsS RX11 191 yX7_floatBits wsX7_floatBits) := goodIn_app (goodIn_of _ (by decide +kernel)) ggX11_band_X7_floatBits
theorem dX11_band_0 : decode cX11_band 0 = .ok (.iload_n 1, 1) := by decide +kernel
theorem dX11_band_1 : decode cX11_band 1 = .ok (.iconst 4, 1) := by decide +kernel
theorem dX11_band_2 : decode cX11_band 2 = .ok (.if_icmp .ne 11, 3) := by decide +kernel
theorem dX11_band_5 : decode cX11_band 5 = .ok (.aload_n 0, 1) := by decide +kernel
theorem dX11_band_6 : decode cX11_band 6 = .ok (.iload_n 2, 1) := by decide +kernel
theorem dX11_band_7 : decode cX11_band 7 = .ok (.invokevirtual 183, 3) := by decide +kernel
theorem dX11_band_10 : decode cX11_band 10 = .ok (.goto 9, 3) := by decide +kernel
theorem dX11_band_13 : decode cX11_band 13 = .ok (.aload_n 0, 1) := by decide +kernel
theorem dX11_band_14 : decode cX11_band 14 = .ok (.iload_n 1, 1) := by decide +kernel
theorem dX11_band_15 : decode cX11_band 15 = .ok (.iload_n 2, 1) := by decide +kernel
theorem dX11_band_16 : decode cX11_band 16 = .ok (.invokevirtual 187, 3) := by decide +kernel
theorem dX11_band_19 : decode cX11_band 19 = .ok (.astore 4, 2) := by decide +kernel
theorem dX11_band_21 : decode cX11_band 21 = .ok (.aload 4, 2) := by decide +kernel
theorem dX11_band_23 : decode cX11_band 23 = .ok (.ifnull 13, 3) := by decide +kernel
theorem dX11_band_26 : decode cX11_band 26 = .ok (.iload_n 3, 1) := by decide +kernel
theorem dX11_band_27 : decode cX11_band 27 = .ok (.ifCond .lt 9, 3) := by decide +kernel
theorem dX11_band_30 : decode cX11_band 30 = .ok (.iload_n 3, 1) := by decide +kernel
theorem dX11_band_31 : decode cX11_band 31 = .ok (.bipush 16, 2) := by decide +kernel
theorem dX11_band_33 : decode cX11_band 33 = .ok (.if_icmp .lt 5, 3) := by decide +kernel
theorem dX11_band_36 : decode cX11_band 36 = .ok (.iconst 0, 1) := by decide +kernel
theorem dX11_band_37 : decode cX11_band 37 = .ok (.ireturn, 1) := by decide +kernel
theorem dX11_band_38 : decode cX11_band 38 = .ok (.aload 4, 2) := by decide +kernel
theorem dX11_band_40 : decode cX11_band 40 = .ok (.iload_n 3, 1) := by decide +kernel
theorem dX11_band_41 : decode cX11_band 41 = .ok (.faload, 1) := by decide +kernel
theorem dX11_band_42 : decode cX11_band 42 = .ok (.f2d, 1) := by decide +kernel
theorem dX11_band_43 : decode cX11_band 43 = .ok (.invokestatic 191, 3) := by decide +kernel
theorem dX11_band_46 : decode cX11_band 46 = .ok (.ireturn, 1) := by decide +kernel
set_option maxRecDepth 20000 in
theorem ggX11_pick_X11_spectrumOf : GoodIn wsX11_pick wsX11_spectrumOf := goodIn_r _ [6, 1, 7, 8, 9, 10, 11, 12, 13, 14, 15, 16, 17, 5, 18, 19, 36, 37, 38, 39, 40, 41, 42, 43, 44, 45, 46, 47, 48, 49, 50, 51, 52, 53, 54, 55, 56, 57, 58, 59, 60, 61, 62, 63, 64] (by decide +kernel) (by decide +kernel)
set_option maxRecDepth 20000 in
theorem gX11_pick_X11_spectrumOf : GoodIn wsX11_pick (wsV RX11 187 RX11 yX11_spectrumOf wsX11_spectrumOf) := goodIn_app (goodIn_of _ (by decide +kernel)) ggX11_pick_X11_spectrumOf
set_option maxRecDepth 20000 in
theorem ggX11_pick_X11_denied : GoodIn wsX11_pick wsX11_denied := goodIn_r _ [23, 24, 36, 37, 38, 39, 40, 41, 42, 43, 44, 45, 46, 47, 48, 49, 50, 51, 52, 53, 54, 55] (by decide +kernel) (by decide +kernel)
set_option maxRecDepth 20000 in
theorem gX11_pick_X11_denied : GoodIn wsX11_pick (wsV RX11 177 RX11 yX11_denied wsX11_denied) := goodIn_app (goodIn_of _ (by decide +kernel)) ggX11_pick_X11_denied
set_option maxRecDepth 20000 in
theorem ggX11_pick_X11_copyRow : GoodIn wsX11_pick wsX11_copyRow := goodIn_r _ [27, 28, 29, 30, 31] (by decide +kernel) (by decide +kernel)
set_option maxRecDepth 20000 in
theorem gX11_pick_X11_copyRow : GoodIn wsX11_pick (va_wsS RX11 135 yX11_copyRow wsX11_copyRow) := goodIn_app (goodIn_of _ (by decide +kernel)) ggX11_pick_X11_copyRow
set_option maxRecDepth 20000 in
theorem ggX11_pick_X11_accept : GoodIn wsX11_pick wsX11_accept := goodIn_r _ [35, 24, 36, 37, 38, 39, 40, 41, 42, 43, 44, 45, 46, 47, 48, 49, 50, 51, 52, 53, 54, 55] (by decide +kernel) (by decide +kernel)
set_option maxRecDepth 20000 in
theorem gX11_pick_X11_accept : GoodIn wsX11_pick (wsV RX11 173 RX11 yX11_accept wsX11_accept) := goodIn_app (goodIn_of _ (by decide +kernel)) ggX11_pick_X11_accept
theorem dX11_pick_0 : decode cX11_pick 0 = .ok (.aload_n 0, 1) := by decide +kernel
theorem dX11_pick_1 : decode cX11_pick 1 = .ok (.iload_n 1, 1) := by decide +kernel
theorem dX11_pick_2 : decode cX11_pick 2 = .ok (.iload_n 2, 1) := by decide +kernel
theorem dX11_pick_3 : decode cX11_pick 3 = .ok (.invokevirtual 187, 3) := by decide +kernel
theorem dX11_pick_6 : decode cX11_pick 6 = .ok (.astore_n 3, 1) := by decide +kernel
theorem dX11_pick_7 : decode cX11_pick 7 = .ok (.aload_n 3, 1) := by decide +kernel
theorem dX11_pick_8 : decode cX11_pick 8 = .ok (.ifnull 7, 3) := by decide +kernel
theorem dX11_pick_11 : decode cX11_pick 11 = .ok (.iload_n 1, 1) := by decide +kernel
theorem dX11_pick_12 : decode cX11_pick 12 = .ok (.ifCond .ne 9, 3) := by decide +kernel
theorem dX11_pick_15 : decode cX11_pick 15 = .ok (.aload_n 0, 1) := by decide +kernel
theorem dX11_pick_16 : decode cX11_pick 16 = .ok (.iconst 2, 1) := by decide +kernel
theorem dX11_pick_17 : decode cX11_pick 17 = .ok (.invokevirtual 177, 3) := by decide +kernel
theorem dX11_pick_20 : decode cX11_pick 20 = .ok (.ireturn, 1) := by decide +kernel
theorem dX11_pick_21 : decode cX11_pick 21 = .ok (.aload_n 3, 1) := by decide +kernel
theorem dX11_pick_22 : decode cX11_pick 22 = .ok (.aload_n 0, 1) := by decide +kernel
theorem dX11_pick_23 : decode cX11_pick 23 = .ok (.getfield 9, 3) := by decide +kernel
theorem dX11_pick_26 : decode cX11_pick 26 = .ok (.invokestatic 135, 3) := by decide +kernel
theorem dX11_pick_29 : decode cX11_pick 29 = .ok (.aload_n 0, 1) := by decide +kernel
theorem dX11_pick_30 : decode cX11_pick 30 = .ok (.invokevirtual 173, 3) := by decide +kernel
theorem dX11_pick_33 : decode cX11_pick 33 = .ok (.ireturn, 1) := by decide +kernel
set_option maxRecDepth 20000 in
theorem ggX11_blend_X11_isThere : GoodIn wsX11_blend wsX11_isThere := goodIn_r _ [7, 1, 44, 45, 46, 47, 48, 49, 50, 51, 52, 53, 54, 55, 56, 57, 58, 59, 60, 61, 62, 63] (by decide +kernel) (by decide +kernel)
set_option maxRecDepth 20000 in
theorem gX11_blend_X11_isThere : GoodIn wsX11_blend (wsV RX11 142 RX11 yX11_isThere wsX11_isThere) := goodIn_app (goodIn_of _ (by decide +kernel)) ggX11_blend_X11_isThere
set_option maxRecDepth 20000 in
theorem ggX11_blend_X11_refused : GoodIn wsX11_blend wsX11_refused := goodIn_r _ [11, 12, 44, 45, 46, 47, 48, 49, 50, 51, 52, 53, 54, 55, 56, 57, 58, 59, 60, 61, 62, 63] (by decide +kernel) (by decide +kernel)
set_option maxRecDepth 20000 in
theorem gX11_blend_X11_refused : GoodIn wsX11_blend (wsV RX11 128 RX11 yX11_refused wsX11_refused) := goodIn_app (goodIn_of _ (by decide +kernel)) ggX11_blend_X11_refused
set_option maxRecDepth 20000 in
theorem ggX11_blend_X11_isWithin : GoodIn wsX11_blend wsX11_isWithin := goodIn_r _ [15] (by decide +kernel) (by decide +kernel)
set_option maxRecDepth 20000 in
theorem gX11_blend_X11_isWithin : GoodIn wsX11_blend (va_wsS RX11 151 yX11_isWithin wsX11_isWithin) := goodIn_app (goodIn_of _ (by decide +kernel)) ggX11_blend_X11_isWithin
set_option maxRecDepth 20000 in
theorem ggX11_blend_X2_become : GoodIn wsX11_blend wsX2_become := goodIn_r _ [20, 21, 64, 65] (by decide +kernel) (by decide +kernel)
set_option maxRecDepth 20000 in
theorem gX11_blend_X2_become : GoodIn wsX11_blend (wsV RX11 195 RX2 yX2_become wsX2_become) := goodIn_app (goodIn_of _ (by decide +kernel)) ggX11_blend_X2_become
set_option maxRecDepth 20000 in
theorem ggX11_blend_X11_newOne : GoodIn wsX11_blend wsX11_newOne := goodIn_r _ [25, 26, 1, 27, 28, 29, 30, 31, 32, 33, 34, 35, 36, 37, 38, 39, 40, 41, 42, 6, 43, 12, 44, 45, 46, 47, 48, 49, 50, 51, 52, 53, 54, 55, 56, 57, 58, 59, 60, 61, 62, 63, 66, 67, 68, 69] (by decide +kernel) (by decide +kernel)
set_option maxRecDepth 20000 in
theorem gX11_blend_X11_newOne : GoodIn wsX11_blend (wsV RX11 139 RX11 yX11_newOne wsX11_newOne) := goodIn_app (goodIn_of _ (by decide +kernel)) ggX11_blend_X11_newOne
theorem dX11_blend_0 : decode cX11_blend 0 = .ok (.aload_n 0, 1) := by decide +kernel
theorem dX11_blend_1 : decode cX11_blend 1 = .ok (.iconst 0, 1) := by decide +kernel
theorem dX11_blend_2 : decode cX11_blend 2 = .ok (.iload_n 1, 1) := by decide +kernel
theorem dX11_blend_3 : decode cX11_blend 3 = .ok (.invokevirtual 142, 3) := by decide +kernel
theorem dX11_blend_6 : decode cX11_blend 6 = .ok (.ifCond .eq 12, 3) := by decide +kernel
theorem dX11_blend_9 : decode cX11_blend 9 = .ok (.aload_n 0, 1) := by decide +kernel
theorem dX11_blend_10 : decode cX11_blend 10 = .ok (.iconst 0, 1) := by decide +kernel
theorem dX11_blend_11 : decode cX11_blend 11 = .ok (.iload_n 2, 1) := by decide +kernel
theorem dX11_blend_12 : decode cX11_blend 12 = .ok (.invokevirtual 142, 3) := by decide +kernel
theorem dX11_blend_15 : decode cX11_blend 15 = .ok (.ifCond .ne 9, 3) := by decide +kernel
theorem dX11_blend_18 : decode cX11_blend 18 = .ok (.aload_n 0, 1) := by decide +kernel
theorem dX11_blend_19 : decode cX11_blend 19 = .ok (.iconst 2, 1) := by decide +kernel
theorem dX11_blend_20 : decode cX11_blend 20 = .ok (.invokevirtual 128, 3) := by decide +kernel
theorem dX11_blend_23 : decode cX11_blend 23 = .ok (.ireturn, 1) := by decide +kernel
theorem dX11_blend_24 : decode cX11_blend 24 = .ok (.iload 4, 2) := by decide +kernel
theorem dX11_blend_26 : decode cX11_blend 26 = .ok (.iconst 1, 1) := by decide +kernel
theorem dX11_blend_27 : decode cX11_blend 27 = .ok (.sipush 1000, 3) := by decide +kernel
theorem dX11_blend_30 : decode cX11_blend 30 = .ok (.invokestatic 151, 3) := by decide +kernel
theorem dX11_blend_33 : decode cX11_blend 33 = .ok (.ifCond .eq 13, 3) := by decide +kernel
theorem dX11_blend_36 : decode cX11_blend 36 = .ok (.iload_n 3, 1) := by decide +kernel
theorem dX11_blend_37 : decode cX11_blend 37 = .ok (.iconst 0, 1) := by decide +kernel
theorem dX11_blend_38 : decode cX11_blend 38 = .ok (.iload 4, 2) := by decide +kernel
theorem dX11_blend_40 : decode cX11_blend 40 = .ok (.invokestatic 151, 3) := by decide +kernel
theorem dX11_blend_43 : decode cX11_blend 43 = .ok (.ifCond .ne 9, 3) := by decide +kernel
theorem dX11_blend_46 : decode cX11_blend 46 = .ok (.aload_n 0, 1) := by decide +kernel
theorem dX11_blend_47 : decode cX11_blend 47 = .ok (.iconst 3, 1) := by decide +kernel
theorem dX11_blend_48 : decode cX11_blend 48 = .ok (.invokevirtual 128, 3) := by decide +kernel
theorem dX11_blend_51 : decode cX11_blend 51 = .ok (.ireturn, 1) := by decide +kernel
theorem dX11_blend_52 : decode cX11_blend 52 = .ok (.aload_n 0, 1) := by decide +kernel
theorem dX11_blend_53 : decode cX11_blend 53 = .ok (.getfield 20, 3) := by decide +kernel
theorem dX11_blend_56 : decode cX11_blend 56 = .ok (.iconst 0, 1) := by decide +kernel
theorem dX11_blend_57 : decode cX11_blend 57 = .ok (.iaload, 1) := by decide +kernel
theorem dX11_blend_58 : decode cX11_blend 58 = .ok (.bipush 40, 2) := by decide +kernel
theorem dX11_blend_60 : decode cX11_blend 60 = .ok (.if_icmp .lt 9, 3) := by decide +kernel
theorem dX11_blend_63 : decode cX11_blend 63 = .ok (.aload_n 0, 1) := by decide +kernel
theorem dX11_blend_64 : decode cX11_blend 64 = .ok (.iconst 1, 1) := by decide +kernel
theorem dX11_blend_65 : decode cX11_blend 65 = .ok (.invokevirtual 128, 3) := by decide +kernel
theorem dX11_blend_68 : decode cX11_blend 68 = .ok (.ireturn, 1) := by decide +kernel
theorem dX11_blend_69 : decode cX11_blend 69 = .ok (.aload_n 0, 1) := by decide +kernel
theorem dX11_blend_70 : decode cX11_blend 70 = .ok (.getfield 26, 3) := by decide +kernel
theorem dX11_blend_73 : decode cX11_blend 73 = .ok (.aload_n 0, 1) := by decide +kernel
theorem dX11_blend_74 : decode cX11_blend 74 = .ok (.getfield 20, 3) := by decide +kernel
theorem dX11_blend_77 : decode cX11_blend 77 = .ok (.iconst 0, 1) := by decide +kernel
theorem dX11_blend_78 : decode cX11_blend 78 = .ok (.iaload, 1) := by decide +kernel
theorem dX11_blend_79 : decode cX11_blend 79 = .ok (.aaload, 1) := by decide +kernel
theorem dX11_blend_80 : decode cX11_blend 80 = .ok (.aload_n 0, 1) := by decide +kernel
theorem dX11_blend_81 : decode cX11_blend 81 = .ok (.getfield 26, 3) := by decide +kernel
theorem dX11_blend_84 : decode cX11_blend 84 = .ok (.iload_n 1, 1) := by decide +kernel
theorem dX11_blend_85 : decode cX11_blend 85 = .ok (.aaload, 1) := by decide +kernel
theorem dX11_blend_86 : decode cX11_blend 86 = .ok (.aload_n 0, 1) := by decide +kernel
theorem dX11_blend_87 : decode cX11_blend 87 = .ok (.getfield 26, 3) := by decide +kernel
theorem dX11_blend_90 : decode cX11_blend 90 = .ok (.iload_n 2, 1) := by decide +kernel
theorem dX11_blend_91 : decode cX11_blend 91 = .ok (.aaload, 1) := by decide +kernel
theorem dX11_blend_92 : decode cX11_blend 92 = .ok (.iload_n 3, 1) := by decide +kernel
theorem dX11_blend_93 : decode cX11_blend 93 = .ok (.iload 4, 2) := by decide +kernel
theorem dX11_blend_95 : decode cX11_blend 95 = .ok (.invokevirtual 195, 3) := by decide +kernel
theorem dX11_blend_98 : decode cX11_blend 98 = .ok (.aload_n 0, 1) := by decide +kernel
theorem dX11_blend_99 : decode cX11_blend 99 = .ok (.iconst 0, 1) := by decide +kernel
theorem dX11_blend_100 : decode cX11_blend 100 = .ok (.invokevirtual 139, 3) := by decide +kernel
theorem dX11_blend_103 : decode cX11_blend 103 = .ok (.ireturn, 1) := by decide +kernel
set_option maxRecDepth 20000 in
theorem ggX11_part_X11_isThere : GoodIn wsX11_part wsX11_isThere := goodIn_r _ [8, 9, 22, 23, 24, 25, 26, 27, 28, 29, 30, 31, 32, 33, 34, 35, 36, 37, 38, 39, 40, 41] (by decide +kernel) (by decide +kernel)
set_option maxRecDepth 20000 in
theorem gX11_part_X11_isThere : GoodIn wsX11_part (wsV RX11 142 RX11 yX11_isThere wsX11_isThere) := goodIn_app (goodIn_of _ (by decide +kernel)) ggX11_part_X11_isThere
set_option maxRecDepth 20000 in
theorem ggX11_part_X11_refused : GoodIn wsX11_part wsX11_refused := goodIn_r _ [13, 14, 22, 23, 24, 25, 26, 27, 28, 29, 30, 31, 32, 33, 34, 35, 36, 37, 38, 39, 40, 41] (by decide +kernel) (by decide +kernel)
set_option maxRecDepth 20000 in
theorem gX11_part_X11_refused : GoodIn wsX11_part (wsV RX11 128 RX11 yX11_refused wsX11_refused) := goodIn_app (goodIn_of _ (by decide +kernel)) ggX11_part_X11_refused
set_option maxRecDepth 20000 in
theorem ggX11_part_X11_isWithin : GoodIn wsX11_part wsX11_isWithin := goodIn_r _ [17] (by decide +kernel) (by decide +kernel)
set_option maxRecDepth 20000 in
theorem gX11_part_X11_isWithin : GoodIn wsX11_part (va_wsS RX11 151 yX11_isWithin wsX11_isWithin) := goodIn_app (goodIn_of _ (by decide +kernel)) ggX11_part_X11_isWithin
set_option maxRecDepth 20000 in
theorem ggX11_part_X11_accept : GoodIn wsX11_part wsX11_accept := goodIn_r _ [21, 14, 22, 23, 24, 25, 26, 27, 28, 29, 30, 31, 32, 33, 34, 35, 36, 37, 38, 39, 40, 41] (by decide +kernel) (by decide +kernel)
set_option maxRecDepth 20000 in
theorem gX11_part_X11_accept : GoodIn wsX11_part (wsV RX11 173 RX11 yX11_accept wsX11_accept) := goodIn_app (goodIn_of _ (by decide +kernel)) ggX11_part_X11_accept
theorem dX11_part_0 : decode cX11_part 0 = .ok (.aload_n 0, 1) := by decide +kernel
theorem dX11_part_1 : decode cX11_part 1 = .ok (.iload_n 1, 1) := by decide +kernel
theorem dX11_part_2 : decode cX11_part 2 = .ok (.ifCond .eq 7, 3) := by decide +kernel
theorem dX11_part_5 : decode cX11_part 5 = .ok (.iconst 4, 1) := by decide +kernel
theorem dX11_part_6 : decode cX11_part 6 = .ok (.goto 4, 3) := by decide +kernel
theorem dX11_part_9 : decode cX11_part 9 = .ok (.iconst 2, 1) := by decide +kernel
theorem dX11_part_10 : decode cX11_part 10 = .ok (.iload_n 2, 1) := by decide +kernel
theorem dX11_part_11 : decode cX11_part 11 = .ok (.invokevirtual 142, 3) := by decide +kernel
theorem dX11_part_14 : decode cX11_part 14 = .ok (.ifCond .ne 9, 3) := by decide +kernel
theorem dX11_part_17 : decode cX11_part 17 = .ok (.aload_n 0, 1) := by decide +kernel
theorem dX11_part_18 : decode cX11_part 18 = .ok (.iconst 2, 1) := by decide +kernel
theorem dX11_part_19 : decode cX11_part 19 = .ok (.invokevirtual 128, 3) := by decide +kernel
theorem dX11_part_22 : decode cX11_part 22 = .ok (.ireturn, 1) := by decide +kernel
theorem dX11_part_23 : decode cX11_part 23 = .ok (.iload_n 3, 1) := by decide +kernel
theorem dX11_part_24 : decode cX11_part 24 = .ok (.iconst 0, 1) := by decide +kernel
theorem dX11_part_25 : decode cX11_part 25 = .ok (.ldc 199, 2) := by decide +kernel
theorem dX11_part_27 : decode cX11_part 27 = .ok (.invokestatic 151, 3) := by decide +kernel
theorem dX11_part_30 : decode cX11_part 30 = .ok (.ifCond .ne 9, 3) := by decide +kernel
theorem dX11_part_33 : decode cX11_part 33 = .ok (.aload_n 0, 1) := by decide +kernel
theorem dX11_part_34 : decode cX11_part 34 = .ok (.iconst 3, 1) := by decide +kernel
theorem dX11_part_35 : decode cX11_part 35 = .ok (.invokevirtual 128, 3) := by decide +kernel
theorem dX11_part_38 : decode cX11_part 38 = .ok (.ireturn, 1) := by decide +kernel
theorem dX11_part_39 : decode cX11_part 39 = .ok (.aload_n 0, 1) := by decide +kernel
theorem dX11_part_40 : decode cX11_part 40 = .ok (.getfield 64, 3) := by decide +kernel
theorem dX11_part_43 : decode cX11_part 43 = .ok (.bipush 6, 2) := by decide +kernel
theorem dX11_part_45 : decode cX11_part 45 = .ok (.if_icmp .lt 9, 3) := by decide +kernel
theorem dX11_part_48 : decode cX11_part 48 = .ok (.aload_n 0, 1) := by decide +kernel
theorem dX11_part_49 : decode cX11_part 49 = .ok (.iconst 1, 1) := by decide +kernel
theorem dX11_part_50 : decode cX11_part 50 = .ok (.invokevirtual 128, 3) := by decide +kernel
theorem dX11_part_53 : decode cX11_part 53 = .ok (.ireturn, 1) := by decide +kernel
theorem dX11_part_54 : decode cX11_part 54 = .ok (.aload_n 0, 1) := by decide +kernel
theorem dX11_part_55 : decode cX11_part 55 = .ok (.getfield 61, 3) := by decide +kernel
theorem dX11_part_58 : decode cX11_part 58 = .ok (.aload_n 0, 1) := by decide +kernel
theorem dX11_part_59 : decode cX11_part 59 = .ok (.getfield 64, 3) := by decide +kernel
theorem dX11_part_62 : decode cX11_part 62 = .ok (.aaload, 1) := by decide +kernel
theorem dX11_part_63 : decode cX11_part 63 = .ok (.iconst 0, 1) := by decide +kernel
theorem dX11_part_64 : decode cX11_part 64 = .ok (.iload_n 1, 1) := by decide +kernel
theorem dX11_part_65 : decode cX11_part 65 = .ok (.ifCond .eq 7, 3) := by decide +kernel
theorem dX11_part_68 : decode cX11_part 68 = .ok (.iconst 4, 1) := by decide +kernel
theorem dX11_part_69 : decode cX11_part 69 = .ok (.goto 4, 3) := by decide +kernel
theorem dX11_part_72 : decode cX11_part 72 = .ok (.iconst 2, 1) := by decide +kernel
theorem dX11_part_73 : decode cX11_part 73 = .ok (.iastore, 1) := by decide +kernel
theorem dX11_part_74 : decode cX11_part 74 = .ok (.aload_n 0, 1) := by decide +kernel
theorem dX11_part_75 : decode cX11_part 75 = .ok (.getfield 61, 3) := by decide +kernel
theorem dX11_part_78 : decode cX11_part 78 = .ok (.aload_n 0, 1) := by decide +kernel
theorem dX11_part_79 : decode cX11_part 79 = .ok (.getfield 64, 3) := by decide +kernel
theorem dX11_part_82 : decode cX11_part 82 = .ok (.aaload, 1) := by decide +kernel
theorem dX11_part_83 : decode cX11_part 83 = .ok (.iconst 1, 1) := by decide +kernel
theorem dX11_part_84 : decode cX11_part 84 = .ok (.iload_n 2, 1) := by decide +kernel
theorem dX11_part_85 : decode cX11_part 85 = .ok (.iastore, 1) := by decide +kernel
theorem dX11_part_86 : decode cX11_part 86 = .ok (.aload_n 0, 1) := by decide +kernel
theorem dX11_part_87 : decode cX11_part 87 = .ok (.getfield 61, 3) := by decide +kernel
theorem dX11_part_90 : decode cX11_part 90 = .ok (.aload_n 0, 1) := by decide +kernel
theorem dX11_part_91 : decode cX11_part 91 = .ok (.getfield 64, 3) := by decide +kernel
theorem dX11_part_94 : decode cX11_part 94 = .ok (.aaload, 1) := by decide +kernel
theorem dX11_part_95 : decode cX11_part 95 = .ok (.iconst 2, 1) := by decide +kernel
theorem dX11_part_96 : decode cX11_part 96 = .ok (.iload_n 3, 1) := by decide +kernel
theorem dX11_part_97 : decode cX11_part 97 = .ok (.iastore, 1) := by decide +kernel
theorem dX11_part_98 : decode cX11_part 98 = .ok (.aload_n 0, 1) := by decide +kernel
theorem dX11_part_99 : decode cX11_part 99 = .ok (.dup, 1) := by decide +kernel
theorem dX11_part_100 : decode cX11_part 100 = .ok (.getfield 64, 3) := by decide +kernel
theorem dX11_part_103 : decode cX11_part 103 = .ok (.iconst 1, 1) := by decide +kernel
theorem dX11_part_104 : decode cX11_part 104 = .ok (.iadd, 1) := by decide +kernel
theorem dX11_part_105 : decode cX11_part 105 = .ok (.putfield 64, 3) := by decide +kernel
theorem dX11_part_108 : decode cX11_part 108 = .ok (.aload_n 0, 1) := by decide +kernel
theorem dX11_part_109 : decode cX11_part 109 = .ok (.invokevirtual 173, 3) := by decide +kernel
theorem dX11_part_112 : decode cX11_part 112 = .ok (.pop, 1) := by decide +kernel
theorem dX11_part_113 : decode cX11_part 113 = .ok (.aload_n 0, 1) := by decide +kernel
theorem dX11_part_114 : decode cX11_part 114 = .ok (.getfield 64, 3) := by decide +kernel
theorem dX11_part_117 : decode cX11_part 117 = .ok (.ireturn, 1) := by decide +kernel
set_option maxRecDepth 20000 in
theorem ggX11_predict_X11_isThere : GoodIn wsX11_predict wsX11_isThere := goodIn_r _ [11, 12, 95, 96, 97, 98, 99, 100, 101, 102, 103, 104, 105, 106, 107, 108, 109, 110, 111, 112, 113, 114] (by decide +kernel) (by decide +kernel)
set_option maxRecDepth 20000 in
theorem gX11_predict_X11_isThere : GoodIn wsX11_predict (wsV RX11 142 RX11 yX11_isThere wsX11_isThere) := goodIn_app (goodIn_of _ (by decide +kernel)) ggX11_predict_X11_isThere
set_option maxRecDepth 20000 in
theorem ggX11_predict_X11_denied : GoodIn wsX11_predict wsX11_denied := goodIn_r _ [16, 17, 95, 96, 97, 98, 99, 100, 101, 102, 103, 104, 105, 106, 107, 108, 109, 110, 111, 112, 113, 114] (by decide +kernel) (by decide +kernel)
set_option maxRecDepth 20000 in
theorem gX11_predict_X11_denied : GoodIn wsX11_predict (wsV RX11 177 RX11 yX11_denied wsX11_denied) := goodIn_app (goodIn_of _ (by decide +kernel)) ggX11_predict_X11_denied
set_option maxRecDepth 20000 in
theorem ggX11_predict_X6_begin : GoodIn wsX11_predict wsX6_begin := goodIn_r _ [22, 23, 24, 25, 21, 26, 27, 28, 115, 116] (by decide +kernel) (by decide +kernel)
set_option maxRecDepth 20000 in
theorem gX11_predict_X6_begin : GoodIn wsX11_predict (wsV RX11 200 RX6 yX6_begin wsX6_begin) := goodIn_app (goodIn_of _ (by decide +kernel)) ggX11_predict_X6_begin
set_option maxRecDepth 20000 in
theorem ggX11_predict_X11_mixPart : GoodIn wsX11_predict wsX11_mixPart := goodIn_r _ [32, 1, 33, 34, 35, 7, 8, 9, 10, 11, 12, 36, 37, 38, 39, 40, 41, 42, 43, 44, 45, 21, 46, 47, 48, 49, 50, 51, 52, 53, 54, 55, 56, 57, 58, 59, 60, 23, 61, 62, 63, 64, 95, 96, 97, 98, 99, 100, 101, 102, 103, 104, 105, 106, 107, 108, 109, 110, 111, 112, 113, 114, 117, 118, 119, 120, 121, 122, 123, 124, 125, 126, 115, 116] (by decide +kernel) (by decide +kernel)
set_option maxRecDepth 20000 in
theorem gX11_predict_X11_mixPart : GoodIn wsX11_predict (wsV RX11 203 RX11 yX11_mixPart wsX11_mixPart) := goodIn_app (goodIn_of _ (by decide +kernel)) ggX11_predict_X11_mixPart
set_option maxRecDepth 20000 in
theorem ggX11_predict_X6_result : GoodIn wsX11_predict wsX6_result := goodIn_r _ [68, 23, 28, 69, 70, 71, 72, 73, 74, 75, 76, 77, 78, 79, 80, 81, 82, 83, 115, 116] (by decide +kernel) (by decide +kernel)
set_option maxRecDepth 20000 in
theorem gX11_predict_X6_result : GoodIn wsX11_predict (wsV RX11 207 RX6 yX6_result wsX6_result) := goodIn_app (goodIn_of _ (by decide +kernel)) ggX11_predict_X6_result
set_option maxRecDepth 20000 in
theorem ggX11_predict_X11_copyRow : GoodIn wsX11_predict wsX11_copyRow := goodIn_r _ [86, 87, 88, 89, 90] (by decide +kernel) (by decide +kernel)
set_option maxRecDepth 20000 in
theorem gX11_predict_X11_copyRow : GoodIn wsX11_predict (va_wsS RX11 135 yX11_copyRow wsX11_copyRow) := goodIn_app (goodIn_of _ (by decide +kernel)) ggX11_predict_X11_copyRow
set_option maxRecDepth 20000 in
theorem ggX11_predict_X11_accept : GoodIn wsX11_predict wsX11_accept := goodIn_r _ [94, 17, 95, 96, 97, 98, 99, 100, 101, 102, 103, 104, 105, 106, 107, 108, 109, 110, 111, 112, 113, 114] (by decide +kernel) (by decide +kernel)
set_option maxRecDepth 20000 in
theorem gX11_predict_X11_accept : GoodIn wsX11_predict (wsV RX11 173 RX11 yX11_accept wsX11_accept) := goodIn_app (goodIn_of _ (by decide +kernel)) ggX11_predict_X11_accept
theorem dX11_predict_0 : decode cX11_predict 0 = .ok (.aload_n 0, 1) := by decide +kernel
theorem dX11_predict_1 : decode cX11_predict 1 = .ok (.iconst 1, 1) := by decide +kernel
theorem dX11_predict_2 : decode cX11_predict 2 = .ok (.iload_n 1, 1) := by decide +kernel
theorem dX11_predict_3 : decode cX11_predict 3 = .ok (.invokevirtual 142, 3) := by decide +kernel
theorem dX11_predict_6 : decode cX11_predict 6 = .ok (.ifCond .ne 9, 3) := by decide +kernel
theorem dX11_predict_9 : decode cX11_predict 9 = .ok (.aload_n 0, 1) := by decide +kernel
theorem dX11_predict_10 : decode cX11_predict 10 = .ok (.iconst 2, 1) := by decide +kernel
theorem dX11_predict_11 : decode cX11_predict 11 = .ok (.invokevirtual 177, 3) := by decide +kernel
theorem dX11_predict_14 : decode cX11_predict 14 = .ok (.ireturn, 1) := by decide +kernel
theorem dX11_predict_15 : decode cX11_predict 15 = .ok (.aload_n 0, 1) := by decide +kernel
theorem dX11_predict_16 : decode cX11_predict 16 = .ok (.getfield 82, 3) := by decide +kernel
theorem dX11_predict_19 : decode cX11_predict 19 = .ok (.aload_n 0, 1) := by decide +kernel
theorem dX11_predict_20 : decode cX11_predict 20 = .ok (.getfield 32, 3) := by decide +kernel
theorem dX11_predict_23 : decode cX11_predict 23 = .ok (.iload_n 1, 1) := by decide +kernel
theorem dX11_predict_24 : decode cX11_predict 24 = .ok (.aaload, 1) := by decide +kernel
theorem dX11_predict_25 : decode cX11_predict 25 = .ok (.invokevirtual 200, 3) := by decide +kernel
theorem dX11_predict_28 : decode cX11_predict 28 = .ok (.iconst 0, 1) := by decide +kernel
theorem dX11_predict_29 : decode cX11_predict 29 = .ok (.istore_n 2, 1) := by decide +kernel
theorem dX11_predict_30 : decode cX11_predict 30 = .ok (.iload_n 2, 1) := by decide +kernel
theorem dX11_predict_31 : decode cX11_predict 31 = .ok (.aload_n 0, 1) := by decide +kernel
theorem dX11_predict_32 : decode cX11_predict 32 = .ok (.getfield 64, 3) := by decide +kernel
theorem dX11_predict_35 : decode cX11_predict 35 = .ok (.if_icmp .ge 38, 3) := by decide +kernel
theorem dX11_predict_38 : decode cX11_predict 38 = .ok (.aload_n 0, 1) := by decide +kernel
theorem dX11_predict_39 : decode cX11_predict 39 = .ok (.aload_n 0, 1) := by decide +kernel
theorem dX11_predict_40 : decode cX11_predict 40 = .ok (.getfield 61, 3) := by decide +kernel
theorem dX11_predict_43 : decode cX11_predict 43 = .ok (.iload_n 2, 1) := by decide +kernel
theorem dX11_predict_44 : decode cX11_predict 44 = .ok (.aaload, 1) := by decide +kernel
theorem dX11_predict_45 : decode cX11_predict 45 = .ok (.iconst 0, 1) := by decide +kernel
theorem dX11_predict_46 : decode cX11_predict 46 = .ok (.iaload, 1) := by decide +kernel
theorem dX11_predict_47 : decode cX11_predict 47 = .ok (.aload_n 0, 1) := by decide +kernel
theorem dX11_predict_48 : decode cX11_predict 48 = .ok (.getfield 61, 3) := by decide +kernel
theorem dX11_predict_51 : decode cX11_predict 51 = .ok (.iload_n 2, 1) := by decide +kernel
theorem dX11_predict_52 : decode cX11_predict 52 = .ok (.aaload, 1) := by decide +kernel
theorem dX11_predict_53 : decode cX11_predict 53 = .ok (.iconst 1, 1) := by decide +kernel
theorem dX11_predict_54 : decode cX11_predict 54 = .ok (.iaload, 1) := by decide +kernel
theorem dX11_predict_55 : decode cX11_predict 55 = .ok (.aload_n 0, 1) := by decide +kernel
theorem dX11_predict_56 : decode cX11_predict 56 = .ok (.getfield 61, 3) := by decide +kernel
theorem dX11_predict_59 : decode cX11_predict 59 = .ok (.iload_n 2, 1) := by decide +kernel
theorem dX11_predict_60 : decode cX11_predict 60 = .ok (.aaload, 1) := by decide +kernel
theorem dX11_predict_61 : decode cX11_predict 61 = .ok (.iconst 2, 1) := by decide +kernel
theorem dX11_predict_62 : decode cX11_predict 62 = .ok (.iaload, 1) := by decide +kernel
theorem dX11_predict_63 : decode cX11_predict 63 = .ok (.i2l, 1) := by decide +kernel
theorem dX11_predict_64 : decode cX11_predict 64 = .ok (.invokevirtual 203, 3) := by decide +kernel
theorem dX11_predict_67 : decode cX11_predict 67 = .ok (.iinc 2 1, 3) := by decide +kernel
theorem dX11_predict_70 : decode cX11_predict 70 = .ok (.goto (-40), 3) := by decide +kernel
theorem dX11_predict_73 : decode cX11_predict 73 = .ok (.aload_n 0, 1) := by decide +kernel
theorem dX11_predict_74 : decode cX11_predict 74 = .ok (.getfield 82, 3) := by decide +kernel
theorem dX11_predict_77 : decode cX11_predict 77 = .ok (.invokevirtual 207, 3) := by decide +kernel
theorem dX11_predict_80 : decode cX11_predict 80 = .ok (.aload_n 0, 1) := by decide +kernel
theorem dX11_predict_81 : decode cX11_predict 81 = .ok (.getfield 13, 3) := by decide +kernel
theorem dX11_predict_84 : decode cX11_predict 84 = .ok (.invokestatic 135, 3) := by decide +kernel
theorem dX11_predict_87 : decode cX11_predict 87 = .ok (.aload_n 0, 1) := by decide +kernel
theorem dX11_predict_88 : decode cX11_predict 88 = .ok (.iconst 1, 1) := by decide +kernel
theorem dX11_predict_89 : decode cX11_predict 89 = .ok (.putfield 16, 3) := by decide +kernel
theorem dX11_predict_92 : decode cX11_predict 92 = .ok (.aload_n 0, 1) := by decide +kernel
theorem dX11_predict_93 : decode cX11_predict 93 = .ok (.iconst 0, 1) := by decide +kernel
theorem dX11_predict_94 : decode cX11_predict 94 = .ok (.putfield 64, 3) := by decide +kernel
theorem dX11_predict_97 : decode cX11_predict 97 = .ok (.aload_n 0, 1) := by decide +kernel
theorem dX11_predict_98 : decode cX11_predict 98 = .ok (.invokevirtual 173, 3) := by decide +kernel
theorem dX11_predict_101 : decode cX11_predict 101 = .ok (.ireturn, 1) := by decide +kernel
set_option maxRecDepth 20000 in
theorem ggX11_light_X9_setLight : GoodIn wsX11_light wsX9_setLight := goodIn_r _ [6, 7, 8, 9, 5, 10, 11, 42, 43, 44, 45, 46, 47, 48, 49, 50] (by decide +kernel) (by decide +kernel)
set_option maxRecDepth 20000 in
theorem gX11_light_X9_setLight : GoodIn wsX11_light (wsV RX11 211 RX9 yX9_setLight wsX9_setLight) := goodIn_app (goodIn_of _ (by decide +kernel)) ggX11_light_X9_setLight
set_option maxRecDepth 20000 in
theorem ggX11_light_X11_accept : GoodIn wsX11_light wsX11_accept := goodIn_r _ [16, 17, 22, 23, 24, 25, 26, 27, 28, 29, 30, 31, 32, 33, 34, 35, 36, 37, 38, 39, 40, 41] (by decide +kernel) (by decide +kernel)
set_option maxRecDepth 20000 in
theorem gX11_light_X11_accept : GoodIn wsX11_light (wsV RX11 173 RX11 yX11_accept wsX11_accept) := goodIn_app (goodIn_of _ (by decide +kernel)) ggX11_light_X11_accept
set_option maxRecDepth 20000 in
theorem ggX11_light_X11_denied : GoodIn wsX11_light wsX11_denied := goodIn_r _ [21, 17, 22, 23, 24, 25, 26, 27, 28, 29, 30, 31, 32, 33, 34, 35, 36, 37, 38, 39, 40, 41] (by decide +kernel) (by decide +kernel)
set_option maxRecDepth 20000 in
theorem gX11_light_X11_denied : GoodIn wsX11_light (wsV RX11 177 RX11 yX11_denied wsX11_denied) := goodIn_app (goodIn_of _ (by decide +kernel)) ggX11_light_X11_denied
theorem dX11_light_0 : decode cX11_light 0 = .ok (.aload_n 0, 1) := by decide +kernel
theorem dX11_light_1 : decode cX11_light 1 = .ok (.getfield 71, 3) := by decide +kernel
theorem dX11_light_4 : decode cX11_light 4 = .ok (.iload_n 1, 1) := by decide +kernel
theorem dX11_light_5 : decode cX11_light 5 = .ok (.iload_n 2, 1) := by decide +kernel
theorem dX11_light_6 : decode cX11_light 6 = .ok (.iload_n 3, 1) := by decide +kernel
theorem dX11_light_7 : decode cX11_light 7 = .ok (.invokevirtual 211, 3) := by decide +kernel
theorem dX11_light_10 : decode cX11_light 10 = .ok (.ifCond .eq 10, 3) := by decide +kernel
theorem dX11_light_13 : decode cX11_light 13 = .ok (.aload_n 0, 1) := by decide +kernel
theorem dX11_light_14 : decode cX11_light 14 = .ok (.invokevirtual 173, 3) := by decide +kernel
theorem dX11_light_17 : decode cX11_light 17 = .ok (.goto 8, 3) := by decide +kernel
theorem dX11_light_20 : decode cX11_light 20 = .ok (.aload_n 0, 1) := by decide +kernel
theorem dX11_light_21 : decode cX11_light 21 = .ok (.iconst 3, 1) := by decide +kernel
theorem dX11_light_22 : decode cX11_light 22 = .ok (.invokevirtual 177, 3) := by decide +kernel
theorem dX11_light_25 : decode cX11_light 25 = .ok (.ireturn, 1) := by decide +kernel
set_option maxRecDepth 20000 in
theorem ggX11_eye_X9_setEye : GoodIn wsX11_eye wsX9_setEye := goodIn_r _ [6, 7, 8, 9, 5, 10, 11, 42, 43, 44, 45, 46, 47, 48, 49, 50] (by decide +kernel) (by decide +kernel)
set_option maxRecDepth 20000 in
theorem gX11_eye_X9_setEye : GoodIn wsX11_eye (wsV RX11 214 RX9 yX9_setEye wsX9_setEye) := goodIn_app (goodIn_of _ (by decide +kernel)) ggX11_eye_X9_setEye
set_option maxRecDepth 20000 in
theorem ggX11_eye_X11_accept : GoodIn wsX11_eye wsX11_accept := goodIn_r _ [16, 17, 22, 23, 24, 25, 26, 27, 28, 29, 30, 31, 32, 33, 34, 35, 36, 37, 38, 39, 40, 41] (by decide +kernel) (by decide +kernel)
set_option maxRecDepth 20000 in
theorem gX11_eye_X11_accept : GoodIn wsX11_eye (wsV RX11 173 RX11 yX11_accept wsX11_accept) := goodIn_app (goodIn_of _ (by decide +kernel)) ggX11_eye_X11_accept
set_option maxRecDepth 20000 in
theorem ggX11_eye_X11_denied : GoodIn wsX11_eye wsX11_denied := goodIn_r _ [21, 17, 22, 23, 24, 25, 26, 27, 28, 29, 30, 31, 32, 33, 34, 35, 36, 37, 38, 39, 40, 41] (by decide +kernel) (by decide +kernel)
set_option maxRecDepth 20000 in
theorem gX11_eye_X11_denied : GoodIn wsX11_eye (wsV RX11 177 RX11 yX11_denied wsX11_denied) := goodIn_app (goodIn_of _ (by decide +kernel)) ggX11_eye_X11_denied
theorem dX11_eye_0 : decode cX11_eye 0 = .ok (.aload_n 0, 1) := by decide +kernel
theorem dX11_eye_1 : decode cX11_eye 1 = .ok (.getfield 71, 3) := by decide +kernel
theorem dX11_eye_4 : decode cX11_eye 4 = .ok (.iload_n 1, 1) := by decide +kernel
theorem dX11_eye_5 : decode cX11_eye 5 = .ok (.iload_n 2, 1) := by decide +kernel
theorem dX11_eye_6 : decode cX11_eye 6 = .ok (.iload_n 3, 1) := by decide +kernel
theorem dX11_eye_7 : decode cX11_eye 7 = .ok (.iload 4, 2) := by decide +kernel
theorem dX11_eye_9 : decode cX11_eye 9 = .ok (.invokevirtual 214, 3) := by decide +kernel
theorem dX11_eye_12 : decode cX11_eye 12 = .ok (.ifCond .eq 10, 3) := by decide +kernel
theorem dX11_eye_15 : decode cX11_eye 15 = .ok (.aload_n 0, 1) := by decide +kernel
theorem dX11_eye_16 : decode cX11_eye 16 = .ok (.invokevirtual 173, 3) := by decide +kernel
theorem dX11_eye_19 : decode cX11_eye 19 = .ok (.goto 8, 3) := by decide +kernel
theorem dX11_eye_22 : decode cX11_eye 22 = .ok (.aload_n 0, 1) := by decide +kernel
theorem dX11_eye_23 : decode cX11_eye 23 = .ok (.iconst 3, 1) := by decide +kernel
theorem dX11_eye_24 : decode cX11_eye 24 = .ok (.invokevirtual 177, 3) := by decide +kernel
theorem dX11_eye_27 : decode cX11_eye 27 = .ok (.ireturn, 1) := by decide +kernel
set_option maxRecDepth 20000 in
theorem ggX11_measure_X11_isWithin : GoodIn wsX11_measure wsX11_isWithin := goodIn_r _ [5] (by decide +kernel) (by decide +kernel)
set_option maxRecDepth 20000 in
theorem gX11_measure_X11_isWithin : GoodIn wsX11_measure (va_wsS RX11 151 yX11_isWithin wsX11_isWithin) := goodIn_app (goodIn_of _ (by decide +kernel)) ggX11_measure_X11_isWithin
set_option maxRecDepth 20000 in
theorem ggX11_measure_X11_denied : GoodIn wsX11_measure wsX11_denied := goodIn_r _ [9, 10, 23, 24, 25, 26, 27, 28, 29, 30, 31, 32, 33, 34, 35, 36, 37, 38, 39, 40, 41, 42] (by decide +kernel) (by decide +kernel)
set_option maxRecDepth 20000 in
theorem gX11_measure_X11_denied : GoodIn wsX11_measure (wsV RX11 177 RX11 yX11_denied wsX11_denied) := goodIn_app (goodIn_of _ (by decide +kernel)) ggX11_measure_X11_denied
set_option maxRecDepth 20000 in
theorem ggX11_measure_X9_setMeasure : GoodIn wsX11_measure wsX9_setMeasure := goodIn_r _ [15, 16, 17, 18, 43, 44, 45, 46, 47, 48, 49, 50, 51] (by decide +kernel) (by decide +kernel)
set_option maxRecDepth 20000 in
theorem gX11_measure_X9_setMeasure : GoodIn wsX11_measure (wsV RX11 218 RX9 yX9_setMeasure wsX9_setMeasure) := goodIn_app (goodIn_of _ (by decide +kernel)) ggX11_measure_X9_setMeasure
set_option maxRecDepth 20000 in
theorem ggX11_measure_X11_accept : GoodIn wsX11_measure wsX11_accept := goodIn_r _ [22, 10, 23, 24, 25, 26, 27, 28, 29, 30, 31, 32, 33, 34, 35, 36, 37, 38, 39, 40, 41, 42] (by decide +kernel) (by decide +kernel)
set_option maxRecDepth 20000 in
theorem gX11_measure_X11_accept : GoodIn wsX11_measure (wsV RX11 173 RX11 yX11_accept wsX11_accept) := goodIn_app (goodIn_of _ (by decide +kernel)) ggX11_measure_X11_accept
theorem dX11_measure_0 : decode cX11_measure 0 = .ok (.iload_n 1, 1) := by decide +kernel
theorem dX11_measure_1 : decode cX11_measure 1 = .ok (.iconst 1, 1) := by decide +kernel
theorem dX11_measure_2 : decode cX11_measure 2 = .ok (.bipush 100, 2) := by decide +kernel
theorem dX11_measure_4 : decode cX11_measure 4 = .ok (.invokestatic 151, 3) := by decide +kernel
theorem dX11_measure_7 : decode cX11_measure 7 = .ok (.ifCond .eq 23, 3) := by decide +kernel
theorem dX11_measure_10 : decode cX11_measure 10 = .ok (.iload_n 2, 1) := by decide +kernel
theorem dX11_measure_11 : decode cX11_measure 11 = .ok (.iconst 1, 1) := by decide +kernel
theorem dX11_measure_12 : decode cX11_measure 12 = .ok (.bipush 100, 2) := by decide +kernel
theorem dX11_measure_14 : decode cX11_measure 14 = .ok (.invokestatic 151, 3) := by decide +kernel
theorem dX11_measure_17 : decode cX11_measure 17 = .ok (.ifCond .eq 13, 3) := by decide +kernel
theorem dX11_measure_20 : decode cX11_measure 20 = .ok (.iload_n 3, 1) := by decide +kernel
theorem dX11_measure_21 : decode cX11_measure 21 = .ok (.iconst 1, 1) := by decide +kernel
theorem dX11_measure_22 : decode cX11_measure 22 = .ok (.bipush 100, 2) := by decide +kernel
theorem dX11_measure_24 : decode cX11_measure 24 = .ok (.invokestatic 151, 3) := by decide +kernel
theorem dX11_measure_27 : decode cX11_measure 27 = .ok (.ifCond .ne 9, 3) := by decide +kernel
theorem dX11_measure_30 : decode cX11_measure 30 = .ok (.aload_n 0, 1) := by decide +kernel
theorem dX11_measure_31 : decode cX11_measure 31 = .ok (.iconst 3, 1) := by decide +kernel
theorem dX11_measure_32 : decode cX11_measure 32 = .ok (.invokevirtual 177, 3) := by decide +kernel
theorem dX11_measure_35 : decode cX11_measure 35 = .ok (.ireturn, 1) := by decide +kernel
theorem dX11_measure_36 : decode cX11_measure 36 = .ok (.aload_n 0, 1) := by decide +kernel
theorem dX11_measure_37 : decode cX11_measure 37 = .ok (.getfield 71, 3) := by decide +kernel
theorem dX11_measure_40 : decode cX11_measure 40 = .ok (.iload_n 1, 1) := by decide +kernel
theorem dX11_measure_41 : decode cX11_measure 41 = .ok (.iload_n 2, 1) := by decide +kernel
theorem dX11_measure_42 : decode cX11_measure 42 = .ok (.iload_n 3, 1) := by decide +kernel
theorem dX11_measure_43 : decode cX11_measure 43 = .ok (.invokevirtual 218, 3) := by decide +kernel
theorem dX11_measure_46 : decode cX11_measure 46 = .ok (.aload_n 0, 1) := by decide +kernel
theorem dX11_measure_47 : decode cX11_measure 47 = .ok (.invokevirtual 173, 3) := by decide +kernel
theorem dX11_measure_50 : decode cX11_measure 50 = .ok (.ireturn, 1) := by decide +kernel
set_option maxRecDepth 20000 in
theorem ggX11_colour_X11_spectrumOf : GoodIn wsX11_colour wsX11_spectrumOf := goodIn_r _ [6, 7, 8, 9, 10, 11, 12, 13, 14, 15, 16, 17, 18, 5, 19, 20, 64, 65, 66, 67, 68, 69, 70, 71, 72, 73, 74, 75, 76, 77, 78, 79, 80, 81, 82, 83, 84, 85, 86, 87, 88, 89, 90, 91, 92] (by decide +kernel) (by decide +kernel)
set_option maxRecDepth 20000 in
theorem gX11_colour_X11_spectrumOf : GoodIn wsX11_colour (wsV RX11 187 RX11 yX11_spectrumOf wsX11_spectrumOf) := goodIn_app (goodIn_of _ (by decide +kernel)) ggX11_colour_X11_spectrumOf
set_option maxRecDepth 20000 in
theorem ggX11_colour_X9_isOne : GoodIn wsX11_colour wsX9_isOne := goodIn_r _ [24] (by decide +kernel) (by decide +kernel)
set_option maxRecDepth 20000 in
theorem gX11_colour_X9_isOne : GoodIn wsX11_colour (va_wsS RX11 222 yX9_isOne wsX9_isOne) := goodIn_app (goodIn_of _ (by decide +kernel)) ggX11_colour_X9_isOne
set_option maxRecDepth 20000 in
theorem ggX11_colour_X9_aim : GoodIn wsX11_colour wsX9_aim := goodIn_r _ [28, 29, 30, 31, 32, 93, 94, 95, 96, 97, 98, 99, 100, 101] (by decide +kernel) (by decide +kernel)
set_option maxRecDepth 20000 in
theorem gX11_colour_X9_aim : GoodIn wsX11_colour (wsV RX11 225 RX9 yX9_aim wsX9_aim) := goodIn_app (goodIn_of _ (by decide +kernel)) ggX11_colour_X9_aim
set_option maxRecDepth 20000 in
theorem ggX11_colour_X9_coloursOf : GoodIn wsX11_colour wsX9_coloursOf := goodIn_r _ [36, 37, 38, 39, 40, 41, 42, 23, 43, 32, 31, 44, 45, 46, 47, 48, 49, 50, 51, 52, 53, 54, 55, 56, 57, 93, 94, 95, 96, 97, 98, 99, 100, 101] (by decide +kernel) (by decide +kernel)
set_option maxRecDepth 20000 in
theorem gX11_colour_X9_coloursOf : GoodIn wsX11_colour (wsV RX11 229 RX9 yX9_coloursOf wsX9_coloursOf) := goodIn_app (goodIn_of _ (by decide +kernel)) ggX11_colour_X9_coloursOf
set_option maxRecDepth 20000 in
theorem ggX11_colour_X7_doubleBits : GoodIn wsX11_colour wsX7_doubleBits := goodIn_r _ [60, 61, 54, 62, 63, 51, 50] (by decide +kernel) (by decide +kernel)
set_option maxRecDepth 20000 in
theorem gX11_colour_X7_doubleBits : GoodIn wsX11_colour (va_wsS RX11 233 yX7_doubleBits wsX7_doubleBits) := goodIn_app (goodIn_of _ (by decide +kernel)) ggX11_colour_X7_doubleBits
theorem dX11_colour_0 : decode cX11_colour 0 = .ok (.aload_n 0, 1) := by decide +kernel
theorem dX11_colour_1 : decode cX11_colour 1 = .ok (.iload_n 1, 1) := by decide +kernel
theorem dX11_colour_2 : decode cX11_colour 2 = .ok (.iload_n 2, 1) := by decide +kernel
theorem dX11_colour_3 : decode cX11_colour 3 = .ok (.invokevirtual 187, 3) := by decide +kernel
theorem dX11_colour_6 : decode cX11_colour 6 = .ok (.astore 6, 2) := by decide +kernel
theorem dX11_colour_8 : decode cX11_colour 8 = .ok (.aload 6, 2) := by decide +kernel
theorem dX11_colour_10 : decode cX11_colour 10 = .ok (.ifnull 23, 3) := by decide +kernel
theorem dX11_colour_13 : decode cX11_colour 13 = .ok (.iload_n 3, 1) := by decide +kernel
theorem dX11_colour_14 : decode cX11_colour 14 = .ok (.iload 4, 2) := by decide +kernel
theorem dX11_colour_16 : decode cX11_colour 16 = .ok (.invokestatic 222, 3) := by decide +kernel
theorem dX11_colour_19 : decode cX11_colour 19 = .ok (.ifCond .eq 14, 3) := by decide +kernel
theorem dX11_colour_22 : decode cX11_colour 22 = .ok (.iload 5, 2) := by decide +kernel
theorem dX11_colour_24 : decode cX11_colour 24 = .ok (.ifCond .lt 9, 3) := by decide +kernel
theorem dX11_colour_27 : decode cX11_colour 27 = .ok (.iload 5, 2) := by decide +kernel
theorem dX11_colour_29 : decode cX11_colour 29 = .ok (.iconst 3, 1) := by decide +kernel
theorem dX11_colour_30 : decode cX11_colour 30 = .ok (.if_icmp .lt 5, 3) := by decide +kernel
theorem dX11_colour_33 : decode cX11_colour 33 = .ok (.lconst 0, 1) := by decide +kernel
theorem dX11_colour_34 : decode cX11_colour 34 = .ok (.lreturn, 1) := by decide +kernel
theorem dX11_colour_35 : decode cX11_colour 35 = .ok (.aload_n 0, 1) := by decide +kernel
theorem dX11_colour_36 : decode cX11_colour 36 = .ok (.getfield 71, 3) := by decide +kernel
theorem dX11_colour_39 : decode cX11_colour 39 = .ok (.iload_n 3, 1) := by decide +kernel
theorem dX11_colour_40 : decode cX11_colour 40 = .ok (.iload 4, 2) := by decide +kernel
theorem dX11_colour_42 : decode cX11_colour 42 = .ok (.invokevirtual 225, 3) := by decide +kernel
theorem dX11_colour_45 : decode cX11_colour 45 = .ok (.aload_n 0, 1) := by decide +kernel
theorem dX11_colour_46 : decode cX11_colour 46 = .ok (.getfield 71, 3) := by decide +kernel
theorem dX11_colour_49 : decode cX11_colour 49 = .ok (.aload 6, 2) := by decide +kernel
theorem dX11_colour_51 : decode cX11_colour 51 = .ok (.invokevirtual 229, 3) := by decide +kernel
theorem dX11_colour_54 : decode cX11_colour 54 = .ok (.iload 5, 2) := by decide +kernel
theorem dX11_colour_56 : decode cX11_colour 56 = .ok (.daload, 1) := by decide +kernel
theorem dX11_colour_57 : decode cX11_colour 57 = .ok (.invokestatic 233, 3) := by decide +kernel
theorem dX11_colour_60 : decode cX11_colour 60 = .ok (.lreturn, 1) := by decide +kernel
set_option maxRecDepth 20000 in
theorem ggX11_distance_X11_isThere : GoodIn wsX11_distance wsX11_isThere := goodIn_r _ [6, 7, 74, 75, 76, 77, 78, 79, 80, 81, 82, 83, 84, 85, 86, 87, 88, 89, 90, 91, 92, 93] (by decide +kernel) (by decide +kernel)
set_option maxRecDepth 20000 in
theorem gX11_distance_X11_isThere : GoodIn wsX11_distance (wsV RX11 142 RX11 yX11_isThere wsX11_isThere) := goodIn_app (goodIn_of _ (by decide +kernel)) ggX11_distance_X11_isThere
set_option maxRecDepth 20000 in
theorem ggX11_distance_X9_isOne : GoodIn wsX11_distance wsX9_isOne := goodIn_r _ [11] (by decide +kernel) (by decide +kernel)
set_option maxRecDepth 20000 in
theorem gX11_distance_X9_isOne : GoodIn wsX11_distance (va_wsS RX11 222 yX9_isOne wsX9_isOne) := goodIn_app (goodIn_of _ (by decide +kernel)) ggX11_distance_X9_isOne
set_option maxRecDepth 20000 in
theorem ggX11_distance_X11_chipGap : GoodIn wsX11_distance wsX11_chipGap := goodIn_r _ [15, 16, 17, 18, 19, 20, 21, 10, 22, 23, 24, 25, 26, 27, 28, 29, 30, 31, 32, 33, 34, 35, 36, 37, 38, 39, 40, 41, 42, 43, 44, 45, 46, 47, 48, 49, 50, 51, 52, 53, 54, 55, 56, 57, 58, 59, 60, 61, 62, 63, 64, 65, 66, 67, 74, 75, 76, 77, 78, 79, 80, 81, 82, 83, 84, 85, 86, 87, 88, 89, 90, 91, 92, 93, 94, 95, 96, 97, 98, 99, 100, 101, 102, 103, 104] (by decide +kernel) (by decide +kernel)
set_option maxRecDepth 20000 in
theorem gX11_distance_X11_chipGap : GoodIn wsX11_distance (wsV RX11 239 RX11 yX11_chipGap wsX11_chipGap) := goodIn_app (goodIn_of _ (by decide +kernel)) ggX11_distance_X11_chipGap
set_option maxRecDepth 20000 in
theorem ggX11_distance_X7_doubleBits : GoodIn wsX11_distance wsX7_doubleBits := goodIn_r _ [70, 71, 57, 72, 73, 54, 53] (by decide +kernel) (by decide +kernel)
set_option maxRecDepth 20000 in
theorem gX11_distance_X7_doubleBits : GoodIn wsX11_distance (va_wsS RX11 233 yX7_doubleBits wsX7_doubleBits) := goodIn_app (goodIn_of _ (by decide +kernel)) ggX11_distance_X7_doubleBits
theorem dX11_distance_0 : decode cX11_distance 0 = .ok (.aload_n 0, 1) := by decide +kernel
theorem dX11_distance_1 : decode cX11_distance 1 = .ok (.iconst 0, 1) := by decide +kernel
theorem dX11_distance_2 : decode cX11_distance 2 = .ok (.iload_n 1, 1) := by decide +kernel
theorem dX11_distance_3 : decode cX11_distance 3 = .ok (.invokevirtual 142, 3) := by decide +kernel
theorem dX11_distance_6 : decode cX11_distance 6 = .ok (.ifCond .eq 21, 3) := by decide +kernel
theorem dX11_distance_9 : decode cX11_distance 9 = .ok (.aload_n 0, 1) := by decide +kernel
theorem dX11_distance_10 : decode cX11_distance 10 = .ok (.iconst 0, 1) := by decide +kernel
theorem dX11_distance_11 : decode cX11_distance 11 = .ok (.iload_n 2, 1) := by decide +kernel
theorem dX11_distance_12 : decode cX11_distance 12 = .ok (.invokevirtual 142, 3) := by decide +kernel
theorem dX11_distance_15 : decode cX11_distance 15 = .ok (.ifCond .eq 12, 3) := by decide +kernel
theorem dX11_distance_18 : decode cX11_distance 18 = .ok (.iload_n 3, 1) := by decide +kernel
theorem dX11_distance_19 : decode cX11_distance 19 = .ok (.iload 4, 2) := by decide +kernel
theorem dX11_distance_21 : decode cX11_distance 21 = .ok (.invokestatic 222, 3) := by decide +kernel
theorem dX11_distance_24 : decode cX11_distance 24 = .ok (.ifCond .ne 7, 3) := by decide +kernel
theorem dX11_distance_27 : decode cX11_distance 27 = .ok (.ldc2_w 237, 3) := by decide +kernel
theorem dX11_distance_30 : decode cX11_distance 30 = .ok (.lreturn, 1) := by decide +kernel
theorem dX11_distance_31 : decode cX11_distance 31 = .ok (.aload_n 0, 1) := by decide +kernel
theorem dX11_distance_32 : decode cX11_distance 32 = .ok (.iload_n 1, 1) := by decide +kernel
theorem dX11_distance_33 : decode cX11_distance 33 = .ok (.iload_n 2, 1) := by decide +kernel
theorem dX11_distance_34 : decode cX11_distance 34 = .ok (.iload_n 3, 1) := by decide +kernel
theorem dX11_distance_35 : decode cX11_distance 35 = .ok (.iload 4, 2) := by decide +kernel
theorem dX11_distance_37 : decode cX11_distance 37 = .ok (.invokevirtual 239, 3) := by decide +kernel
theorem dX11_distance_40 : decode cX11_distance 40 = .ok (.invokestatic 233, 3) := by decide +kernel
theorem dX11_distance_43 : decode cX11_distance 43 = .ok (.lreturn, 1) := by decide +kernel
set_option maxRecDepth 20000 in
theorem ggX11_nearest_X9_isOne : GoodIn wsX11_nearest wsX9_isOne := goodIn_r _ [11] (by decide +kernel) (by decide +kernel)
set_option maxRecDepth 20000 in
theorem gX11_nearest_X9_isOne : GoodIn wsX11_nearest (va_wsS RX11 222 yX9_isOne wsX9_isOne) := goodIn_app (goodIn_of _ (by decide +kernel)) ggX11_nearest_X9_isOne
set_option maxRecDepth 20000 in
theorem ggX11_nearest_X9_aim : GoodIn wsX11_nearest wsX9_aim := goodIn_r _ [15, 16, 17, 18, 19, 88, 89, 90, 91, 92, 93, 94, 95, 96] (by decide +kernel) (by decide +kernel)
set_option maxRecDepth 20000 in
theorem gX11_nearest_X9_aim : GoodIn wsX11_nearest (wsV RX11 225 RX9 yX9_aim wsX9_aim) := goodIn_app (goodIn_of _ (by decide +kernel)) ggX11_nearest_X9_aim
set_option maxRecDepth 20000 in
theorem ggX11_nearest_X9_setGoal : GoodIn wsX11_nearest wsX9_setGoal := goodIn_r _ [23, 24, 25, 26, 27, 28, 29, 30, 31, 10, 32, 33, 34, 35, 36, 37, 38, 39, 19, 18, 40, 41, 42, 43, 44, 45, 46, 47, 48, 49, 50, 51, 52, 53, 88, 89, 90, 91, 92, 93, 94, 95, 96] (by decide +kernel) (by decide +kernel)
set_option maxRecDepth 20000 in
theorem gX11_nearest_X9_setGoal : GoodIn wsX11_nearest (wsV RX11 243 RX9 yX9_setGoal wsX9_setGoal) := goodIn_app (goodIn_of _ (by decide +kernel)) ggX11_nearest_X9_setGoal
set_option maxRecDepth 20000 in
theorem ggX11_nearest_X9_gapTo : GoodIn wsX11_nearest wsX9_gapTo := goodIn_r _ [57, 24, 33, 58, 59, 60, 29, 30, 31, 10, 32, 34, 35, 36, 37, 38, 39, 19, 18, 40, 41, 42, 43, 44, 45, 46, 47, 48, 49, 50, 51, 52, 53, 88, 89, 90, 91, 92, 93, 94, 95, 96] (by decide +kernel) (by decide +kernel)
set_option maxRecDepth 20000 in
theorem gX11_nearest_X9_gapTo : GoodIn wsX11_nearest (wsV RX11 246 RX9 yX9_gapTo wsX9_gapTo) := goodIn_app (goodIn_of _ (by decide +kernel)) ggX11_nearest_X9_gapTo
set_option maxRecDepth 20000 in
theorem ggX11_nearest_X11_nearerThan : GoodIn wsX11_nearest wsX11_nearerThan := goodIn_r _ [65, 4, 5, 66, 67, 68, 69, 70, 71, 72, 73, 74, 75, 76, 77, 78, 79, 80, 81, 82, 83, 84, 85] (by decide +kernel) (by decide +kernel)
set_option maxRecDepth 20000 in
theorem gX11_nearest_X11_nearerThan : GoodIn wsX11_nearest (wsV RX11 250 RX11 yX11_nearerThan wsX11_nearerThan) := goodIn_app (goodIn_of _ (by decide +kernel)) ggX11_nearest_X11_nearerThan
theorem dX11_nearest_0 : decode cX11_nearest 0 = .ok (.aload_n 0, 1) := by decide +kernel
theorem dX11_nearest_1 : decode cX11_nearest 1 = .ok (.getfield 16, 3) := by decide +kernel
theorem dX11_nearest_4 : decode cX11_nearest 4 = .ok (.ifCond .eq 11, 3) := by decide +kernel
theorem dX11_nearest_7 : decode cX11_nearest 7 = .ok (.iload_n 1, 1) := by decide +kernel
theorem dX11_nearest_8 : decode cX11_nearest 8 = .ok (.iload_n 2, 1) := by decide +kernel
theorem dX11_nearest_9 : decode cX11_nearest 9 = .ok (.invokestatic 222, 3) := by decide +kernel
theorem dX11_nearest_12 : decode cX11_nearest 12 = .ok (.ifCond .ne 5, 3) := by decide +kernel
theorem dX11_nearest_15 : decode cX11_nearest 15 = .ok (.iconst (-1), 1) := by decide +kernel
theorem dX11_nearest_16 : decode cX11_nearest 16 = .ok (.ireturn, 1) := by decide +kernel
theorem dX11_nearest_17 : decode cX11_nearest 17 = .ok (.aload_n 0, 1) := by decide +kernel
theorem dX11_nearest_18 : decode cX11_nearest 18 = .ok (.getfield 71, 3) := by decide +kernel
theorem dX11_nearest_21 : decode cX11_nearest 21 = .ok (.iload_n 1, 1) := by decide +kernel
theorem dX11_nearest_22 : decode cX11_nearest 22 = .ok (.iload_n 2, 1) := by decide +kernel
theorem dX11_nearest_23 : decode cX11_nearest 23 = .ok (.invokevirtual 225, 3) := by decide +kernel
theorem dX11_nearest_26 : decode cX11_nearest 26 = .ok (.aload_n 0, 1) := by decide +kernel
theorem dX11_nearest_27 : decode cX11_nearest 27 = .ok (.getfield 71, 3) := by decide +kernel
theorem dX11_nearest_30 : decode cX11_nearest 30 = .ok (.aload_n 0, 1) := by decide +kernel
theorem dX11_nearest_31 : decode cX11_nearest 31 = .ok (.getfield 13, 3) := by decide +kernel
theorem dX11_nearest_34 : decode cX11_nearest 34 = .ok (.invokevirtual 243, 3) := by decide +kernel
theorem dX11_nearest_37 : decode cX11_nearest 37 = .ok (.iconst 0, 1) := by decide +kernel
theorem dX11_nearest_38 : decode cX11_nearest 38 = .ok (.istore 4, 2) := by decide +kernel
theorem dX11_nearest_40 : decode cX11_nearest 40 = .ok (.iload 4, 2) := by decide +kernel
theorem dX11_nearest_42 : decode cX11_nearest 42 = .ok (.aload_n 0, 1) := by decide +kernel
theorem dX11_nearest_43 : decode cX11_nearest 43 = .ok (.getfield 20, 3) := by decide +kernel
theorem dX11_nearest_46 : decode cX11_nearest 46 = .ok (.iconst 0, 1) := by decide +kernel
theorem dX11_nearest_47 : decode cX11_nearest 47 = .ok (.iaload, 1) := by decide +kernel
theorem dX11_nearest_48 : decode cX11_nearest 48 = .ok (.if_icmp .ge 33, 3) := by decide +kernel
theorem dX11_nearest_51 : decode cX11_nearest 51 = .ok (.aload_n 0, 1) := by decide +kernel
theorem dX11_nearest_52 : decode cX11_nearest 52 = .ok (.getfield 75, 3) := by decide +kernel
theorem dX11_nearest_55 : decode cX11_nearest 55 = .ok (.iload 4, 2) := by decide +kernel
theorem dX11_nearest_57 : decode cX11_nearest 57 = .ok (.aload_n 0, 1) := by decide +kernel
theorem dX11_nearest_58 : decode cX11_nearest 58 = .ok (.getfield 71, 3) := by decide +kernel
theorem dX11_nearest_61 : decode cX11_nearest 61 = .ok (.aload_n 0, 1) := by decide +kernel
theorem dX11_nearest_62 : decode cX11_nearest 62 = .ok (.getfield 26, 3) := by decide +kernel
theorem dX11_nearest_65 : decode cX11_nearest 65 = .ok (.iload 4, 2) := by decide +kernel
theorem dX11_nearest_67 : decode cX11_nearest 67 = .ok (.aaload, 1) := by decide +kernel
theorem dX11_nearest_68 : decode cX11_nearest 68 = .ok (.getfield 132, 3) := by decide +kernel
theorem dX11_nearest_71 : decode cX11_nearest 71 = .ok (.invokevirtual 246, 3) := by decide +kernel
theorem dX11_nearest_74 : decode cX11_nearest 74 = .ok (.dastore, 1) := by decide +kernel
theorem dX11_nearest_75 : decode cX11_nearest 75 = .ok (.iinc 4 1, 3) := by decide +kernel
theorem dX11_nearest_78 : decode cX11_nearest 78 = .ok (.goto (-38), 3) := by decide +kernel
theorem dX11_nearest_81 : decode cX11_nearest 81 = .ok (.iconst 0, 1) := by decide +kernel
theorem dX11_nearest_82 : decode cX11_nearest 82 = .ok (.istore 4, 2) := by decide +kernel
theorem dX11_nearest_84 : decode cX11_nearest 84 = .ok (.iload 4, 2) := by decide +kernel
theorem dX11_nearest_86 : decode cX11_nearest 86 = .ok (.aload_n 0, 1) := by decide +kernel
theorem dX11_nearest_87 : decode cX11_nearest 87 = .ok (.getfield 20, 3) := by decide +kernel
theorem dX11_nearest_90 : decode cX11_nearest 90 = .ok (.iconst 0, 1) := by decide +kernel
theorem dX11_nearest_91 : decode cX11_nearest 91 = .ok (.iaload, 1) := by decide +kernel
theorem dX11_nearest_92 : decode cX11_nearest 92 = .ok (.if_icmp .ge 22, 3) := by decide +kernel
theorem dX11_nearest_95 : decode cX11_nearest 95 = .ok (.aload_n 0, 1) := by decide +kernel
theorem dX11_nearest_96 : decode cX11_nearest 96 = .ok (.iload 4, 2) := by decide +kernel
theorem dX11_nearest_98 : decode cX11_nearest 98 = .ok (.invokevirtual 250, 3) := by decide +kernel
theorem dX11_nearest_101 : decode cX11_nearest 101 = .ok (.iload_n 3, 1) := by decide +kernel
theorem dX11_nearest_102 : decode cX11_nearest 102 = .ok (.if_icmp .ne 6, 3) := by decide +kernel
theorem dX11_nearest_105 : decode cX11_nearest 105 = .ok (.iload 4, 2) := by decide +kernel
theorem dX11_nearest_107 : decode cX11_nearest 107 = .ok (.ireturn, 1) := by decide +kernel
theorem dX11_nearest_108 : decode cX11_nearest 108 = .ok (.iinc 4 1, 3) := by decide +kernel
theorem dX11_nearest_111 : decode cX11_nearest 111 = .ok (.goto (-27), 3) := by decide +kernel
theorem dX11_nearest_114 : decode cX11_nearest 114 = .ok (.iconst (-1), 1) := by decide +kernel
theorem dX11_nearest_115 : decode cX11_nearest 115 = .ok (.ireturn, 1) := by decide +kernel
set_option maxRecDepth 20000 in
theorem ggX11_parting_X11_isThere : GoodIn wsX11_parting wsX11_isThere := goodIn_r _ [5, 6, 64, 65, 66, 67, 68, 69, 70, 71, 72, 73, 74, 75, 76, 77, 78, 79, 80, 81, 82, 83] (by decide +kernel) (by decide +kernel)
set_option maxRecDepth 20000 in
theorem gX11_parting_X11_isThere : GoodIn wsX11_parting (wsV RX11 142 RX11 yX11_isThere wsX11_isThere) := goodIn_app (goodIn_of _ (by decide +kernel)) ggX11_parting_X11_isThere
set_option maxRecDepth 20000 in
theorem ggX11_parting_X11_chipGap : GoodIn wsX11_parting wsX11_chipGap := goodIn_r _ [10, 11, 12, 13, 14, 15, 16, 17, 18, 19, 20, 21, 22, 23, 24, 25, 26, 27, 28, 29, 30, 31, 32, 33, 34, 35, 36, 37, 38, 39, 40, 41, 42, 43, 44, 45, 46, 47, 48, 49, 50, 51, 52, 53, 54, 55, 56, 57, 58, 59, 60, 61, 62, 63, 64, 65, 66, 67, 68, 69, 70, 71, 72, 73, 74, 75, 76, 77, 78, 79, 80, 81, 82, 83, 84, 85, 86, 87, 88, 89, 90, 91, 92, 93, 94] (by decide +kernel) (by decide +kernel)
set_option maxRecDepth 20000 in
theorem gX11_parting_X11_chipGap : GoodIn wsX11_parting (wsV RX11 239 RX11 yX11_chipGap wsX11_chipGap) := goodIn_app (goodIn_of _ (by decide +kernel)) ggX11_parting_X11_chipGap
theorem dX11_parting_0 : decode cX11_parting 0 = .ok (.aload_n 0, 1) := by decide +kernel
theorem dX11_parting_1 : decode cX11_parting 1 = .ok (.iconst 0, 1) := by decide +kernel
theorem dX11_parting_2 : decode cX11_parting 2 = .ok (.iload_n 1, 1) := by decide +kernel
theorem dX11_parting_3 : decode cX11_parting 3 = .ok (.invokevirtual 142, 3) := by decide +kernel
theorem dX11_parting_6 : decode cX11_parting 6 = .ok (.ifCond .eq 21, 3) := by decide +kernel
theorem dX11_parting_9 : decode cX11_parting 9 = .ok (.aload_n 0, 1) := by decide +kernel
theorem dX11_parting_10 : decode cX11_parting 10 = .ok (.iconst 0, 1) := by decide +kernel
theorem dX11_parting_11 : decode cX11_parting 11 = .ok (.iload_n 2, 1) := by decide +kernel
theorem dX11_parting_12 : decode cX11_parting 12 = .ok (.invokevirtual 142, 3) := by decide +kernel
theorem dX11_parting_15 : decode cX11_parting 15 = .ok (.ifCond .eq 12, 3) := by decide +kernel
theorem dX11_parting_18 : decode cX11_parting 18 = .ok (.iload_n 3, 1) := by decide +kernel
theorem dX11_parting_19 : decode cX11_parting 19 = .ok (.ifCond .lt 8, 3) := by decide +kernel
theorem dX11_parting_22 : decode cX11_parting 22 = .ok (.iload_n 3, 1) := by decide +kernel
theorem dX11_parting_23 : decode cX11_parting 23 = .ok (.iconst 2, 1) := by decide +kernel
theorem dX11_parting_24 : decode cX11_parting 24 = .ok (.if_icmp .lt 5, 3) := by decide +kernel
theorem dX11_parting_27 : decode cX11_parting 27 = .ok (.iconst (-1), 1) := by decide +kernel
theorem dX11_parting_28 : decode cX11_parting 28 = .ok (.ireturn, 1) := by decide +kernel
theorem dX11_parting_29 : decode cX11_parting 29 = .ok (.iconst 0, 1) := by decide +kernel
theorem dX11_parting_30 : decode cX11_parting 30 = .ok (.istore 4, 2) := by decide +kernel
theorem dX11_parting_32 : decode cX11_parting 32 = .ok (.aload_n 0, 1) := by decide +kernel
theorem dX11_parting_33 : decode cX11_parting 33 = .ok (.iload_n 1, 1) := by decide +kernel
theorem dX11_parting_34 : decode cX11_parting 34 = .ok (.iload_n 2, 1) := by decide +kernel
theorem dX11_parting_35 : decode cX11_parting 35 = .ok (.iconst 0, 1) := by decide +kernel
theorem dX11_parting_36 : decode cX11_parting 36 = .ok (.iload_n 3, 1) := by decide +kernel
theorem dX11_parting_37 : decode cX11_parting 37 = .ok (.invokevirtual 239, 3) := by decide +kernel
theorem dX11_parting_40 : decode cX11_parting 40 = .ok (.dstore 5, 2) := by decide +kernel
theorem dX11_parting_42 : decode cX11_parting 42 = .ok (.iconst 1, 1) := by decide +kernel
theorem dX11_parting_43 : decode cX11_parting 43 = .ok (.istore 7, 2) := by decide +kernel
theorem dX11_parting_45 : decode cX11_parting 45 = .ok (.iload 7, 2) := by decide +kernel
theorem dX11_parting_47 : decode cX11_parting 47 = .ok (.bipush 6, 2) := by decide +kernel
theorem dX11_parting_49 : decode cX11_parting 49 = .ok (.if_icmp .ge 36, 3) := by decide +kernel
theorem dX11_parting_52 : decode cX11_parting 52 = .ok (.aload_n 0, 1) := by decide +kernel
theorem dX11_parting_53 : decode cX11_parting 53 = .ok (.iload_n 1, 1) := by decide +kernel
theorem dX11_parting_54 : decode cX11_parting 54 = .ok (.iload_n 2, 1) := by decide +kernel
theorem dX11_parting_55 : decode cX11_parting 55 = .ok (.iload 7, 2) := by decide +kernel
theorem dX11_parting_57 : decode cX11_parting 57 = .ok (.iload_n 3, 1) := by decide +kernel
theorem dX11_parting_58 : decode cX11_parting 58 = .ok (.invokevirtual 239, 3) := by decide +kernel
theorem dX11_parting_61 : decode cX11_parting 61 = .ok (.dstore 8, 2) := by decide +kernel
theorem dX11_parting_63 : decode cX11_parting 63 = .ok (.dload 8, 2) := by decide +kernel
theorem dX11_parting_65 : decode cX11_parting 65 = .ok (.dload 5, 2) := by decide +kernel
theorem dX11_parting_67 : decode cX11_parting 67 = .ok (.dcmp .l, 1) := by decide +kernel
theorem dX11_parting_68 : decode cX11_parting 68 = .ok (.ifCond .le 11, 3) := by decide +kernel
theorem dX11_parting_71 : decode cX11_parting 71 = .ok (.iload 7, 2) := by decide +kernel
theorem dX11_parting_73 : decode cX11_parting 73 = .ok (.istore 4, 2) := by decide +kernel
theorem dX11_parting_75 : decode cX11_parting 75 = .ok (.dload 8, 2) := by decide +kernel
theorem dX11_parting_77 : decode cX11_parting 77 = .ok (.dstore 5, 2) := by decide +kernel
theorem dX11_parting_79 : decode cX11_parting 79 = .ok (.iinc 7 1, 3) := by decide +kernel
theorem dX11_parting_82 : decode cX11_parting 82 = .ok (.goto (-37), 3) := by decide +kernel
theorem dX11_parting_85 : decode cX11_parting 85 = .ok (.iload 4, 2) := by decide +kernel
theorem dX11_parting_87 : decode cX11_parting 87 = .ok (.ireturn, 1) := by decide +kernel
set_option maxRecDepth 20000 in
theorem ggX11_solid_X11_isThere : GoodIn wsX11_solid wsX11_isThere := goodIn_r _ [10, 1, 97, 98, 99, 100, 101, 102, 103, 104, 105, 106, 107, 108, 109, 110, 111, 112, 113, 114, 115, 116] (by decide +kernel) (by decide +kernel)
set_option maxRecDepth 20000 in
theorem gX11_solid_X11_isThere : GoodIn wsX11_solid (wsV RX11 142 RX11 yX11_isThere wsX11_isThere) := goodIn_app (goodIn_of _ (by decide +kernel)) ggX11_solid_X11_isThere
set_option maxRecDepth 20000 in
theorem ggX11_solid_X11_refused : GoodIn wsX11_solid wsX11_refused := goodIn_r _ [14, 15, 97, 98, 99, 100, 101, 102, 103, 104, 105, 106, 107, 108, 109, 110, 111, 112, 113, 114, 115, 116] (by decide +kernel) (by decide +kernel)
set_option maxRecDepth 20000 in
theorem gX11_solid_X11_refused : GoodIn wsX11_solid (wsV RX11 128 RX11 yX11_refused wsX11_refused) := goodIn_app (goodIn_of _ (by decide +kernel)) ggX11_solid_X11_refused
set_option maxRecDepth 20000 in
theorem ggX11_solid_X11_isWithin : GoodIn wsX11_solid wsX11_isWithin := goodIn_r _ [18] (by decide +kernel) (by decide +kernel)
set_option maxRecDepth 20000 in
theorem gX11_solid_X11_isWithin : GoodIn wsX11_solid (va_wsS RX11 151 yX11_isWithin wsX11_isWithin) := goodIn_app (goodIn_of _ (by decide +kernel)) ggX11_solid_X11_isWithin
set_option maxRecDepth 20000 in
theorem ggX11_solid_X9_isOne : GoodIn wsX11_solid wsX9_isOne := goodIn_r _ [22] (by decide +kernel) (by decide +kernel)
set_option maxRecDepth 20000 in
theorem gX11_solid_X9_isOne : GoodIn wsX11_solid (va_wsS RX11 222 yX9_isOne wsX9_isOne) := goodIn_app (goodIn_of _ (by decide +kernel)) ggX11_solid_X9_isOne
set_option maxRecDepth 20000 in
theorem ggX11_solid_X9_aim : GoodIn wsX11_solid wsX9_aim := goodIn_r _ [26, 27, 28, 29, 30, 119, 120, 121, 122, 123, 124, 125, 126, 127] (by decide +kernel) (by decide +kernel)
set_option maxRecDepth 20000 in
theorem gX11_solid_X9_aim : GoodIn wsX11_solid (wsV RX11 225 RX9 yX9_aim wsX9_aim) := goodIn_app (goodIn_of _ (by decide +kernel)) ggX11_solid_X9_aim
set_option maxRecDepth 20000 in
theorem ggX11_solid_X9_coloursOf : GoodIn wsX11_solid wsX9_coloursOf := goodIn_r _ [34, 35, 36, 37, 38, 39, 40, 21, 41, 30, 29, 42, 43, 44, 45, 46, 47, 48, 49, 50, 51, 52, 53, 54, 55, 119, 120, 121, 122, 123, 124, 125, 126, 127] (by decide +kernel) (by decide +kernel)
set_option maxRecDepth 20000 in
theorem gX11_solid_X9_coloursOf : GoodIn wsX11_solid (wsV RX11 229 RX9 yX9_coloursOf wsX9_coloursOf) := goodIn_app (goodIn_of _ (by decide +kernel)) ggX11_solid_X9_coloursOf
set_option maxRecDepth 20000 in
theorem ggX11_solid_X10_begin : GoodIn wsX11_solid wsX10_begin := goodIn_r _ [60, 61, 62, 63, 64, 65, 66, 67, 68, 128, 129, 130, 131, 132] (by decide +kernel) (by decide +kernel)
set_option maxRecDepth 20000 in
theorem gX11_solid_X10_begin : GoodIn wsX11_solid (wsV RX11 253 RX10 yX10_begin wsX10_begin) := goodIn_app (goodIn_of _ (by decide +kernel)) ggX11_solid_X10_begin
set_option maxRecDepth 20000 in
theorem ggX11_solid_X10_setSizes : GoodIn wsX11_solid wsX10_setSizes := goodIn_r _ [72, 73, 74, 128, 129, 130, 131, 132] (by decide +kernel) (by decide +kernel)
set_option maxRecDepth 20000 in
theorem gX11_solid_X10_setSizes : GoodIn wsX11_solid (wsV RX11 256 RX10 yX10_setSizes wsX10_setSizes) := goodIn_app (goodIn_of _ (by decide +kernel)) ggX11_solid_X10_setSizes
set_option maxRecDepth 20000 in
theorem ggX11_solid_X11_newOne : GoodIn wsX11_solid wsX11_newOne := goodIn_r _ [78, 79, 1, 80, 81, 82, 83, 84, 85, 86, 87, 88, 89, 90, 91, 92, 93, 94, 95, 9, 96, 15, 97, 98, 99, 100, 101, 102, 103, 104, 105, 106, 107, 108, 109, 110, 111, 112, 113, 114, 115, 116, 133, 134, 135, 136] (by decide +kernel) (by decide +kernel)
set_option maxRecDepth 20000 in
theorem gX11_solid_X11_newOne : GoodIn wsX11_solid (wsV RX11 139 RX11 yX11_newOne wsX11_newOne) := goodIn_app (goodIn_of _ (by decide +kernel)) ggX11_solid_X11_newOne
theorem dX11_solid_0 : decode cX11_solid 0 = .ok (.aload_n 0, 1) := by decide +kernel
theorem dX11_solid_1 : decode cX11_solid 1 = .ok (.iconst 0, 1) := by decide +kernel
theorem dX11_solid_2 : decode cX11_solid 2 = .ok (.iload_n 2, 1) := by decide +kernel
theorem dX11_solid_3 : decode cX11_solid 3 = .ok (.invokevirtual 142, 3) := by decide +kernel
theorem dX11_solid_6 : decode cX11_solid 6 = .ok (.ifCond .ne 9, 3) := by decide +kernel
theorem dX11_solid_9 : decode cX11_solid 9 = .ok (.aload_n 0, 1) := by decide +kernel
theorem dX11_solid_10 : decode cX11_solid 10 = .ok (.iconst 2, 1) := by decide +kernel
theorem dX11_solid_11 : decode cX11_solid 11 = .ok (.invokevirtual 128, 3) := by decide +kernel
theorem dX11_solid_14 : decode cX11_solid 14 = .ok (.ireturn, 1) := by decide +kernel
theorem dX11_solid_15 : decode cX11_solid 15 = .ok (.iload_n 1, 1) := by decide +kernel
theorem dX11_solid_16 : decode cX11_solid 16 = .ok (.iconst 0, 1) := by decide +kernel
theorem dX11_solid_17 : decode cX11_solid 17 = .ok (.iconst 1, 1) := by decide +kernel
theorem dX11_solid_18 : decode cX11_solid 18 = .ok (.invokestatic 151, 3) := by decide +kernel
theorem dX11_solid_21 : decode cX11_solid 21 = .ok (.ifCond .eq 48, 3) := by decide +kernel
theorem dX11_solid_24 : decode cX11_solid 24 = .ok (.iload_n 3, 1) := by decide +kernel
theorem dX11_solid_25 : decode cX11_solid 25 = .ok (.iload 4, 2) := by decide +kernel
theorem dX11_solid_27 : decode cX11_solid 27 = .ok (.invokestatic 222, 3) := by decide +kernel
theorem dX11_solid_30 : decode cX11_solid 30 = .ok (.ifCond .eq 39, 3) := by decide +kernel
theorem dX11_solid_33 : decode cX11_solid 33 = .ok (.iload 5, 2) := by decide +kernel
theorem dX11_solid_35 : decode cX11_solid 35 = .ok (.iconst 1, 1) := by decide +kernel
theorem dX11_solid_36 : decode cX11_solid 36 = .ok (.sipush 1000, 3) := by decide +kernel
theorem dX11_solid_39 : decode cX11_solid 39 = .ok (.invokestatic 151, 3) := by decide +kernel
theorem dX11_solid_42 : decode cX11_solid 42 = .ok (.ifCond .eq 27, 3) := by decide +kernel
theorem dX11_solid_45 : decode cX11_solid 45 = .ok (.iload 6, 2) := by decide +kernel
theorem dX11_solid_47 : decode cX11_solid 47 = .ok (.iconst 1, 1) := by decide +kernel
theorem dX11_solid_48 : decode cX11_solid 48 = .ok (.sipush 1000, 3) := by decide +kernel
theorem dX11_solid_51 : decode cX11_solid 51 = .ok (.invokestatic 151, 3) := by decide +kernel
theorem dX11_solid_54 : decode cX11_solid 54 = .ok (.ifCond .eq 15, 3) := by decide +kernel
theorem dX11_solid_57 : decode cX11_solid 57 = .ok (.iload 7, 2) := by decide +kernel
theorem dX11_solid_59 : decode cX11_solid 59 = .ok (.iconst 1, 1) := by decide +kernel
theorem dX11_solid_60 : decode cX11_solid 60 = .ok (.sipush 1000, 3) := by decide +kernel
theorem dX11_solid_63 : decode cX11_solid 63 = .ok (.invokestatic 151, 3) := by decide +kernel
theorem dX11_solid_66 : decode cX11_solid 66 = .ok (.ifCond .ne 9, 3) := by decide +kernel
theorem dX11_solid_69 : decode cX11_solid 69 = .ok (.aload_n 0, 1) := by decide +kernel
theorem dX11_solid_70 : decode cX11_solid 70 = .ok (.iconst 3, 1) := by decide +kernel
theorem dX11_solid_71 : decode cX11_solid 71 = .ok (.invokevirtual 128, 3) := by decide +kernel
theorem dX11_solid_74 : decode cX11_solid 74 = .ok (.ireturn, 1) := by decide +kernel
theorem dX11_solid_75 : decode cX11_solid 75 = .ok (.aload_n 0, 1) := by decide +kernel
theorem dX11_solid_76 : decode cX11_solid 76 = .ok (.getfield 20, 3) := by decide +kernel
theorem dX11_solid_79 : decode cX11_solid 79 = .ok (.iconst 3, 1) := by decide +kernel
theorem dX11_solid_80 : decode cX11_solid 80 = .ok (.iaload, 1) := by decide +kernel
theorem dX11_solid_81 : decode cX11_solid 81 = .ok (.bipush 12, 2) := by decide +kernel
theorem dX11_solid_83 : decode cX11_solid 83 = .ok (.if_icmp .lt 9, 3) := by decide +kernel
theorem dX11_solid_86 : decode cX11_solid 86 = .ok (.aload_n 0, 1) := by decide +kernel
theorem dX11_solid_87 : decode cX11_solid 87 = .ok (.iconst 1, 1) := by decide +kernel
theorem dX11_solid_88 : decode cX11_solid 88 = .ok (.invokevirtual 128, 3) := by decide +kernel
theorem dX11_solid_91 : decode cX11_solid 91 = .ok (.ireturn, 1) := by decide +kernel
theorem dX11_solid_92 : decode cX11_solid 92 = .ok (.aload_n 0, 1) := by decide +kernel
theorem dX11_solid_93 : decode cX11_solid 93 = .ok (.getfield 43, 3) := by decide +kernel
theorem dX11_solid_96 : decode cX11_solid 96 = .ok (.aload_n 0, 1) := by decide +kernel
theorem dX11_solid_97 : decode cX11_solid 97 = .ok (.getfield 20, 3) := by decide +kernel
theorem dX11_solid_100 : decode cX11_solid 100 = .ok (.iconst 3, 1) := by decide +kernel
theorem dX11_solid_101 : decode cX11_solid 101 = .ok (.iaload, 1) := by decide +kernel
theorem dX11_solid_102 : decode cX11_solid 102 = .ok (.aaload, 1) := by decide +kernel
theorem dX11_solid_103 : decode cX11_solid 103 = .ok (.astore 8, 2) := by decide +kernel
theorem dX11_solid_105 : decode cX11_solid 105 = .ok (.aload_n 0, 1) := by decide +kernel
theorem dX11_solid_106 : decode cX11_solid 106 = .ok (.getfield 71, 3) := by decide +kernel
theorem dX11_solid_109 : decode cX11_solid 109 = .ok (.iload_n 3, 1) := by decide +kernel
theorem dX11_solid_110 : decode cX11_solid 110 = .ok (.iload 4, 2) := by decide +kernel
theorem dX11_solid_112 : decode cX11_solid 112 = .ok (.invokevirtual 225, 3) := by decide +kernel
theorem dX11_solid_115 : decode cX11_solid 115 = .ok (.aload 8, 2) := by decide +kernel
theorem dX11_solid_117 : decode cX11_solid 117 = .ok (.iload_n 1, 1) := by decide +kernel
theorem dX11_solid_118 : decode cX11_solid 118 = .ok (.iload_n 3, 1) := by decide +kernel
theorem dX11_solid_119 : decode cX11_solid 119 = .ok (.iload 4, 2) := by decide +kernel
theorem dX11_solid_121 : decode cX11_solid 121 = .ok (.aload_n 0, 1) := by decide +kernel
theorem dX11_solid_122 : decode cX11_solid 122 = .ok (.getfield 71, 3) := by decide +kernel
theorem dX11_solid_125 : decode cX11_solid 125 = .ok (.aload_n 0, 1) := by decide +kernel
theorem dX11_solid_126 : decode cX11_solid 126 = .ok (.getfield 26, 3) := by decide +kernel
theorem dX11_solid_129 : decode cX11_solid 129 = .ok (.iload_n 2, 1) := by decide +kernel
theorem dX11_solid_130 : decode cX11_solid 130 = .ok (.aaload, 1) := by decide +kernel
theorem dX11_solid_131 : decode cX11_solid 131 = .ok (.getfield 132, 3) := by decide +kernel
theorem dX11_solid_134 : decode cX11_solid 134 = .ok (.invokevirtual 229, 3) := by decide +kernel
theorem dX11_solid_137 : decode cX11_solid 137 = .ok (.invokevirtual 253, 3) := by decide +kernel
theorem dX11_solid_140 : decode cX11_solid 140 = .ok (.aload 8, 2) := by decide +kernel
theorem dX11_solid_142 : decode cX11_solid 142 = .ok (.iload 5, 2) := by decide +kernel
theorem dX11_solid_144 : decode cX11_solid 144 = .ok (.iload 6, 2) := by decide +kernel
theorem dX11_solid_146 : decode cX11_solid 146 = .ok (.iload 7, 2) := by decide +kernel
theorem dX11_solid_148 : decode cX11_solid 148 = .ok (.invokevirtual 256, 3) := by decide +kernel
theorem dX11_solid_151 : decode cX11_solid 151 = .ok (.aload_n 0, 1) := by decide +kernel
theorem dX11_solid_152 : decode cX11_solid 152 = .ok (.iconst 3, 1) := by decide +kernel
theorem dX11_solid_153 : decode cX11_solid 153 = .ok (.invokevirtual 139, 3) := by decide +kernel
theorem dX11_solid_156 : decode cX11_solid 156 = .ok (.ireturn, 1) := by decide +kernel
set_option maxRecDepth 20000 in
theorem ggX11_inside_X11_isThere : GoodIn wsX11_inside wsX11_isThere := goodIn_r _ [8, 9, 67, 68, 69, 70, 71, 72, 73, 74, 75, 76, 77, 78, 79, 80, 81, 82, 83, 84, 85, 86] (by decide +kernel) (by decide +kernel)
set_option maxRecDepth 20000 in
theorem gX11_inside_X11_isThere : GoodIn wsX11_inside (wsV RX11 142 RX11 yX11_isThere wsX11_isThere) := goodIn_app (goodIn_of _ (by decide +kernel)) ggX11_inside_X11_isThere
set_option maxRecDepth 20000 in
theorem ggX11_inside_X11_sideOf : GoodIn wsX11_inside wsX11_sideOf := goodIn_r _ [13, 14, 15, 16, 17, 18, 19, 20, 21, 22, 23, 24, 25, 26, 27, 28, 29, 30, 31, 32, 33, 34, 35, 36, 37, 38, 39, 40, 41, 42, 43, 44, 45, 46, 47, 48, 49, 50, 51, 52, 53, 54, 55, 56, 57, 58, 59, 60, 61, 62, 63, 64, 65, 66, 67, 68, 69, 70, 71, 72, 73, 74, 75, 76, 77, 78, 79, 80, 81, 82, 83, 84, 85, 86, 89, 90, 91, 92, 93, 94, 95, 96, 97, 98, 99, 100, 101, 102] (by decide +kernel) (by decide +kernel)
set_option maxRecDepth 20000 in
theorem gX11_inside_X11_sideOf : GoodIn wsX11_inside (wsV RX11 259 RX11 yX11_sideOf wsX11_sideOf) := goodIn_app (goodIn_of _ (by decide +kernel)) ggX11_inside_X11_sideOf
theorem dX11_inside_0 : decode cX11_inside 0 = .ok (.aload_n 0, 1) := by decide +kernel
theorem dX11_inside_1 : decode cX11_inside 1 = .ok (.iconst 3, 1) := by decide +kernel
theorem dX11_inside_2 : decode cX11_inside 2 = .ok (.iload_n 1, 1) := by decide +kernel
theorem dX11_inside_3 : decode cX11_inside 3 = .ok (.invokevirtual 142, 3) := by decide +kernel
theorem dX11_inside_6 : decode cX11_inside 6 = .ok (.ifCond .eq 12, 3) := by decide +kernel
theorem dX11_inside_9 : decode cX11_inside 9 = .ok (.aload_n 0, 1) := by decide +kernel
theorem dX11_inside_10 : decode cX11_inside 10 = .ok (.iconst 0, 1) := by decide +kernel
theorem dX11_inside_11 : decode cX11_inside 11 = .ok (.iload_n 2, 1) := by decide +kernel
theorem dX11_inside_12 : decode cX11_inside 12 = .ok (.invokevirtual 142, 3) := by decide +kernel
theorem dX11_inside_15 : decode cX11_inside 15 = .ok (.ifCond .ne 5, 3) := by decide +kernel
theorem dX11_inside_18 : decode cX11_inside 18 = .ok (.iconst (-1), 1) := by decide +kernel
theorem dX11_inside_19 : decode cX11_inside 19 = .ok (.ireturn, 1) := by decide +kernel
theorem dX11_inside_20 : decode cX11_inside 20 = .ok (.aload_n 0, 1) := by decide +kernel
theorem dX11_inside_21 : decode cX11_inside 21 = .ok (.aload_n 0, 1) := by decide +kernel
theorem dX11_inside_22 : decode cX11_inside 22 = .ok (.getfield 43, 3) := by decide +kernel
theorem dX11_inside_25 : decode cX11_inside 25 = .ok (.iload_n 1, 1) := by decide +kernel
theorem dX11_inside_26 : decode cX11_inside 26 = .ok (.aaload, 1) := by decide +kernel
theorem dX11_inside_27 : decode cX11_inside 27 = .ok (.aload_n 0, 1) := by decide +kernel
theorem dX11_inside_28 : decode cX11_inside 28 = .ok (.getfield 26, 3) := by decide +kernel
theorem dX11_inside_31 : decode cX11_inside 31 = .ok (.iload_n 2, 1) := by decide +kernel
theorem dX11_inside_32 : decode cX11_inside 32 = .ok (.aaload, 1) := by decide +kernel
theorem dX11_inside_33 : decode cX11_inside 33 = .ok (.getfield 132, 3) := by decide +kernel
theorem dX11_inside_36 : decode cX11_inside 36 = .ok (.invokevirtual 259, 3) := by decide +kernel
theorem dX11_inside_39 : decode cX11_inside 39 = .ok (.ireturn, 1) := by decide +kernel
set_option maxRecDepth 20000 in
theorem ggX11_recipe_X11_isThere : GoodIn wsX11_recipe wsX11_isThere := goodIn_r _ [12, 1, 208, 209, 210, 211, 212, 213, 214, 215, 216, 217, 218, 219, 220, 221, 222, 223, 224, 225, 226, 227] (by decide +kernel) (by decide +kernel)
set_option maxRecDepth 20000 in
theorem gX11_recipe_X11_isThere : GoodIn wsX11_recipe (wsV RX11 142 RX11 yX11_isThere wsX11_isThere) := goodIn_app (goodIn_of _ (by decide +kernel)) ggX11_recipe_X11_isThere
set_option maxRecDepth 20000 in
theorem ggX11_recipe_X11_refused : GoodIn wsX11_recipe wsX11_refused := goodIn_r _ [16, 17, 208, 209, 210, 211, 212, 213, 214, 215, 216, 217, 218, 219, 220, 221, 222, 223, 224, 225, 226, 227] (by decide +kernel) (by decide +kernel)
set_option maxRecDepth 20000 in
theorem gX11_recipe_X11_refused : GoodIn wsX11_recipe (wsV RX11 128 RX11 yX11_refused wsX11_refused) := goodIn_app (goodIn_of _ (by decide +kernel)) ggX11_recipe_X11_refused
set_option maxRecDepth 20000 in
theorem ggX11_recipe_X9_isOne : GoodIn wsX11_recipe wsX9_isOne := goodIn_r _ [21] (by decide +kernel) (by decide +kernel)
set_option maxRecDepth 20000 in
theorem gX11_recipe_X9_isOne : GoodIn wsX11_recipe (va_wsS RX11 222 yX9_isOne wsX9_isOne) := goodIn_app (goodIn_of _ (by decide +kernel)) ggX11_recipe_X9_isOne
set_option maxRecDepth 20000 in
theorem ggX11_recipe_X11_isWithin : GoodIn wsX11_recipe wsX11_isWithin := goodIn_r _ [24] (by decide +kernel) (by decide +kernel)
set_option maxRecDepth 20000 in
theorem gX11_recipe_X11_isWithin : GoodIn wsX11_recipe (va_wsS RX11 151 yX11_isWithin wsX11_isWithin) := goodIn_app (goodIn_of _ (by decide +kernel)) ggX11_recipe_X11_isWithin
set_option maxRecDepth 20000 in
theorem ggX11_recipe_X11_isGrid : GoodIn wsX11_recipe wsX11_isGrid := goodIn_r _ [27, 22, 23, 11, 24] (by decide +kernel) (by decide +kernel)
set_option maxRecDepth 20000 in
theorem gX11_recipe_X11_isGrid : GoodIn wsX11_recipe (va_wsS RX11 263 yX11_isGrid wsX11_isGrid) := goodIn_app (goodIn_of _ (by decide +kernel)) ggX11_recipe_X11_isGrid
set_option maxRecDepth 20000 in
theorem ggX11_recipe_X8_begin : GoodIn wsX11_recipe wsX8_begin := goodIn_r _ [32, 33, 34, 35, 36, 37, 38, 39, 230, 231, 232, 233, 234, 235, 236, 237, 238, 239, 240, 241, 242, 243, 244, 245, 246, 247, 248] (by decide +kernel) (by decide +kernel)
set_option maxRecDepth 20000 in
theorem gX11_recipe_X8_begin : GoodIn wsX11_recipe (wsV RX11 266 RX8 yX8_begin wsX8_begin) := goodIn_app (goodIn_of _ (by decide +kernel)) ggX11_recipe_X8_begin
set_option maxRecDepth 20000 in
theorem ggX11_recipe_X8_offer : GoodIn wsX11_recipe wsX8_offer := goodIn_r _ [43, 33, 44, 45, 46, 230, 231, 232, 233, 234, 235, 236, 237, 238, 239, 240, 241, 242, 243, 244, 245, 246, 247, 248] (by decide +kernel) (by decide +kernel)
set_option maxRecDepth 20000 in
theorem gX11_recipe_X8_offer : GoodIn wsX11_recipe (wsV RX11 268 RX8 yX8_offer wsX8_offer) := goodIn_app (goodIn_of _ (by decide +kernel)) ggX11_recipe_X8_offer
set_option maxRecDepth 20000 in
theorem ggX11_recipe_X9_aim : GoodIn wsX11_recipe wsX9_aim := goodIn_r _ [50, 51, 52, 53, 54, 249, 250, 251, 252, 253, 254, 255, 256, 257] (by decide +kernel) (by decide +kernel)
set_option maxRecDepth 20000 in
theorem gX11_recipe_X9_aim : GoodIn wsX11_recipe (wsV RX11 225 RX9 yX9_aim wsX9_aim) := goodIn_app (goodIn_of _ (by decide +kernel)) ggX11_recipe_X9_aim
set_option maxRecDepth 20000 in
theorem ggX11_recipe_X9_setGoal : GoodIn wsX11_recipe wsX9_setGoal := goodIn_r _ [58, 59, 60, 61, 62, 63, 64, 65, 66, 20, 67, 68, 69, 70, 71, 72, 73, 74, 54, 53, 75, 76, 77, 78, 79, 80, 81, 82, 83, 84, 85, 86, 87, 88, 249, 250, 251, 252, 253, 254, 255, 256, 257] (by decide +kernel) (by decide +kernel)
set_option maxRecDepth 20000 in
theorem gX11_recipe_X9_setGoal : GoodIn wsX11_recipe (wsV RX11 243 RX9 yX9_setGoal wsX9_setGoal) := goodIn_app (goodIn_of _ (by decide +kernel)) ggX11_recipe_X9_setGoal
set_option maxRecDepth 20000 in
theorem ggX11_recipe_X11_tryRecipe : GoodIn wsX11_recipe wsX11_tryRecipe := goodIn_r _ [92, 93, 2, 94, 95, 96, 3, 97, 98, 99, 100, 101, 102, 103, 104, 105, 106, 107, 108, 109, 110, 31, 111, 44, 112, 113, 114, 115, 116, 117, 35, 118, 119, 120, 11, 121, 122, 123, 8, 9, 10, 12, 1, 124, 125, 126, 127, 128, 129, 130, 131, 132, 133, 134, 135, 136, 137, 138, 139, 140, 141, 142, 143, 144, 145, 146, 147, 148, 149, 150, 151, 152, 153, 154, 155, 156, 157, 158, 76, 77, 78, 79, 80, 81, 82, 83, 84, 85, 86, 87, 88, 159, 160, 161, 20, 162, 59, 68, 163, 164, 165, 64, 65, 66, 67, 69, 70, 71, 72, 73, 74, 54, 53, 75, 166, 167, 168, 169, 38, 39, 170, 171, 172, 173, 174, 175, 37, 176, 177, 178, 179, 180, 208, 209, 210, 211, 212, 213, 214, 215, 216, 217, 218, 219, 220, 221, 222, 223, 224, 225, 226, 227, 230, 231, 232, 233, 234, 235, 236, 237, 238, 239, 240, 241, 242, 243, 244, 245, 246, 247, 248, 258, 259, 260, 261, 262, 263, 264, 265, 266, 267, 268, 269, 249, 250, 251, 252, 253, 254, 255, 256, 257] (by decide +kernel) (by decide +kernel)
set_option maxRecDepth 20000 in
theorem gX11_recipe_X11_tryRecipe : GoodIn wsX11_recipe (wsV RX11 271 RX11 yX11_tryRecipe wsX11_tryRecipe) := goodIn_app (goodIn_of _ (by decide +kernel)) ggX11_recipe_X11_tryRecipe
set_option maxRecDepth 20000 in
theorem ggX11_recipe_X8_advance : GoodIn wsX11_recipe wsX8_advance := goodIn_r _ [184, 37, 117, 45, 112, 185, 186, 187, 31, 188, 33, 34, 189, 190, 191, 192, 193, 194, 195, 196, 46, 36, 230, 231, 232, 233, 234, 235, 236, 237, 238, 239, 240, 241, 242, 243, 244, 245, 246, 247, 248] (by decide +kernel) (by decide +kernel)
set_option maxRecDepth 20000 in
theorem gX11_recipe_X8_advance : GoodIn wsX11_recipe (wsV RX11 274 RX8 yX8_advance wsX8_advance) := goodIn_app (goodIn_of _ (by decide +kernel)) ggX11_recipe_X8_advance
set_option maxRecDepth 20000 in
theorem ggX11_recipe_X8_end : GoodIn wsX11_recipe wsX8_end := goodIn_r _ [200, 38, 201, 202, 203, 182, 183, 31, 184, 37, 117, 45, 112, 185, 186, 187, 188, 33, 34, 189, 190, 191, 192, 193, 194, 195, 196, 46, 36, 230, 231, 232, 233, 234, 235, 236, 237, 238, 239, 240, 241, 242, 243, 244, 245, 246, 247, 248] (by decide +kernel) (by decide +kernel)
set_option maxRecDepth 20000 in
theorem gX11_recipe_X8_end : GoodIn wsX11_recipe (wsV RX11 277 RX8 yX8_end wsX8_end) := goodIn_app (goodIn_of _ (by decide +kernel)) ggX11_recipe_X8_end
set_option maxRecDepth 20000 in
theorem ggX11_recipe_X11_accept : GoodIn wsX11_recipe wsX11_accept := goodIn_r _ [207, 17, 208, 209, 210, 211, 212, 213, 214, 215, 216, 217, 218, 219, 220, 221, 222, 223, 224, 225, 226, 227] (by decide +kernel) (by decide +kernel)
set_option maxRecDepth 20000 in
theorem gX11_recipe_X11_accept : GoodIn wsX11_recipe (wsV RX11 173 RX11 yX11_accept wsX11_accept) := goodIn_app (goodIn_of _ (by decide +kernel)) ggX11_recipe_X11_accept
theorem dX11_recipe_0 : decode cX11_recipe 0 = .ok (.aload_n 0, 1) := by decide +kernel
theorem dX11_recipe_1 : decode cX11_recipe 1 = .ok (.iconst 0, 1) := by decide +kernel
theorem dX11_recipe_2 : decode cX11_recipe 2 = .ok (.iload_n 1, 1) := by decide +kernel
theorem dX11_recipe_3 : decode cX11_recipe 3 = .ok (.invokevirtual 142, 3) := by decide +kernel
theorem dX11_recipe_6 : decode cX11_recipe 6 = .ok (.ifCond .eq 12, 3) := by decide +kernel
theorem dX11_recipe_9 : decode cX11_recipe 9 = .ok (.aload_n 0, 1) := by decide +kernel
theorem dX11_recipe_10 : decode cX11_recipe 10 = .ok (.iconst 1, 1) := by decide +kernel
theorem dX11_recipe_11 : decode cX11_recipe 11 = .ok (.iload_n 2, 1) := by decide +kernel
theorem dX11_recipe_12 : decode cX11_recipe 12 = .ok (.invokevirtual 142, 3) := by decide +kernel
theorem dX11_recipe_15 : decode cX11_recipe 15 = .ok (.ifCond .ne 9, 3) := by decide +kernel
theorem dX11_recipe_18 : decode cX11_recipe 18 = .ok (.aload_n 0, 1) := by decide +kernel
theorem dX11_recipe_19 : decode cX11_recipe 19 = .ok (.iconst 2, 1) := by decide +kernel
theorem dX11_recipe_20 : decode cX11_recipe 20 = .ok (.invokevirtual 128, 3) := by decide +kernel
theorem dX11_recipe_23 : decode cX11_recipe 23 = .ok (.ireturn, 1) := by decide +kernel
theorem dX11_recipe_24 : decode cX11_recipe 24 = .ok (.iload_n 3, 1) := by decide +kernel
theorem dX11_recipe_25 : decode cX11_recipe 25 = .ok (.iload 4, 2) := by decide +kernel
theorem dX11_recipe_27 : decode cX11_recipe 27 = .ok (.invokestatic 222, 3) := by decide +kernel
theorem dX11_recipe_30 : decode cX11_recipe 30 = .ok (.ifCond .eq 35, 3) := by decide +kernel
theorem dX11_recipe_33 : decode cX11_recipe 33 = .ok (.iload 6, 2) := by decide +kernel
theorem dX11_recipe_35 : decode cX11_recipe 35 = .ok (.iconst 1, 1) := by decide +kernel
theorem dX11_recipe_36 : decode cX11_recipe 36 = .ok (.iconst 3, 1) := by decide +kernel
theorem dX11_recipe_37 : decode cX11_recipe 37 = .ok (.invokestatic 151, 3) := by decide +kernel
theorem dX11_recipe_40 : decode cX11_recipe 40 = .ok (.ifCond .eq 25, 3) := by decide +kernel
theorem dX11_recipe_43 : decode cX11_recipe 43 = .ok (.iload 7, 2) := by decide +kernel
theorem dX11_recipe_45 : decode cX11_recipe 45 = .ok (.iload 8, 2) := by decide +kernel
theorem dX11_recipe_47 : decode cX11_recipe 47 = .ok (.invokestatic 263, 3) := by decide +kernel
theorem dX11_recipe_50 : decode cX11_recipe 50 = .ok (.ifCond .eq 15, 3) := by decide +kernel
theorem dX11_recipe_53 : decode cX11_recipe 53 = .ok (.iload 5, 2) := by decide +kernel
theorem dX11_recipe_55 : decode cX11_recipe 55 = .ok (.aload_n 0, 1) := by decide +kernel
theorem dX11_recipe_56 : decode cX11_recipe 56 = .ok (.getfield 20, 3) := by decide +kernel
theorem dX11_recipe_59 : decode cX11_recipe 59 = .ok (.iconst 2, 1) := by decide +kernel
theorem dX11_recipe_60 : decode cX11_recipe 60 = .ok (.iaload, 1) := by decide +kernel
theorem dX11_recipe_61 : decode cX11_recipe 61 = .ok (.iushr, 1) := by decide +kernel
theorem dX11_recipe_62 : decode cX11_recipe 62 = .ok (.ifCond .eq 9, 3) := by decide +kernel
theorem dX11_recipe_65 : decode cX11_recipe 65 = .ok (.aload_n 0, 1) := by decide +kernel
theorem dX11_recipe_66 : decode cX11_recipe 66 = .ok (.iconst 3, 1) := by decide +kernel
theorem dX11_recipe_67 : decode cX11_recipe 67 = .ok (.invokevirtual 128, 3) := by decide +kernel
theorem dX11_recipe_70 : decode cX11_recipe 70 = .ok (.ireturn, 1) := by decide +kernel
theorem dX11_recipe_71 : decode cX11_recipe 71 = .ok (.aload_n 0, 1) := by decide +kernel
theorem dX11_recipe_72 : decode cX11_recipe 72 = .ok (.getfield 89, 3) := by decide +kernel
theorem dX11_recipe_75 : decode cX11_recipe 75 = .ok (.iload 6, 2) := by decide +kernel
theorem dX11_recipe_77 : decode cX11_recipe 77 = .ok (.iload 7, 2) := by decide +kernel
theorem dX11_recipe_79 : decode cX11_recipe 79 = .ok (.iconst 0, 1) := by decide +kernel
theorem dX11_recipe_80 : decode cX11_recipe 80 = .ok (.invokevirtual 266, 3) := by decide +kernel
theorem dX11_recipe_83 : decode cX11_recipe 83 = .ok (.iconst 0, 1) := by decide +kernel
theorem dX11_recipe_84 : decode cX11_recipe 84 = .ok (.istore 9, 2) := by decide +kernel
theorem dX11_recipe_86 : decode cX11_recipe 86 = .ok (.iload 9, 2) := by decide +kernel
theorem dX11_recipe_88 : decode cX11_recipe 88 = .ok (.aload_n 0, 1) := by decide +kernel
theorem dX11_recipe_89 : decode cX11_recipe 89 = .ok (.getfield 20, 3) := by decide +kernel
theorem dX11_recipe_92 : decode cX11_recipe 92 = .ok (.iconst 2, 1) := by decide +kernel
theorem dX11_recipe_93 : decode cX11_recipe 93 = .ok (.iaload, 1) := by decide +kernel
theorem dX11_recipe_94 : decode cX11_recipe 94 = .ok (.if_icmp .ge 31, 3) := by decide +kernel
theorem dX11_recipe_97 : decode cX11_recipe 97 = .ok (.iload 5, 2) := by decide +kernel
theorem dX11_recipe_99 : decode cX11_recipe 99 = .ok (.iload 9, 2) := by decide +kernel
theorem dX11_recipe_101 : decode cX11_recipe 101 = .ok (.iushr, 1) := by decide +kernel
theorem dX11_recipe_102 : decode cX11_recipe 102 = .ok (.iconst 1, 1) := by decide +kernel
theorem dX11_recipe_103 : decode cX11_recipe 103 = .ok (.iand, 1) := by decide +kernel
theorem dX11_recipe_104 : decode cX11_recipe 104 = .ok (.ifCond .eq 15, 3) := by decide +kernel
theorem dX11_recipe_107 : decode cX11_recipe 107 = .ok (.aload_n 0, 1) := by decide +kernel
theorem dX11_recipe_108 : decode cX11_recipe 108 = .ok (.getfield 89, 3) := by decide +kernel
theorem dX11_recipe_111 : decode cX11_recipe 111 = .ok (.iload 9, 2) := by decide +kernel
theorem dX11_recipe_113 : decode cX11_recipe 113 = .ok (.iload 8, 2) := by decide +kernel
theorem dX11_recipe_115 : decode cX11_recipe 115 = .ok (.iconst 0, 1) := by decide +kernel
theorem dX11_recipe_116 : decode cX11_recipe 116 = .ok (.invokevirtual 268, 3) := by decide +kernel
theorem dX11_recipe_119 : decode cX11_recipe 119 = .ok (.iinc 9 1, 3) := by decide +kernel
theorem dX11_recipe_122 : decode cX11_recipe 122 = .ok (.goto (-36), 3) := by decide +kernel
theorem dX11_recipe_125 : decode cX11_recipe 125 = .ok (.aload_n 0, 1) := by decide +kernel
theorem dX11_recipe_126 : decode cX11_recipe 126 = .ok (.getfield 71, 3) := by decide +kernel
theorem dX11_recipe_129 : decode cX11_recipe 129 = .ok (.iload_n 3, 1) := by decide +kernel
theorem dX11_recipe_130 : decode cX11_recipe 130 = .ok (.iload 4, 2) := by decide +kernel
theorem dX11_recipe_132 : decode cX11_recipe 132 = .ok (.invokevirtual 225, 3) := by decide +kernel
theorem dX11_recipe_135 : decode cX11_recipe 135 = .ok (.aload_n 0, 1) := by decide +kernel
theorem dX11_recipe_136 : decode cX11_recipe 136 = .ok (.getfield 71, 3) := by decide +kernel
theorem dX11_recipe_139 : decode cX11_recipe 139 = .ok (.aload_n 0, 1) := by decide +kernel
theorem dX11_recipe_140 : decode cX11_recipe 140 = .ok (.getfield 26, 3) := by decide +kernel
theorem dX11_recipe_143 : decode cX11_recipe 143 = .ok (.iload_n 1, 1) := by decide +kernel
theorem dX11_recipe_144 : decode cX11_recipe 144 = .ok (.aaload, 1) := by decide +kernel
theorem dX11_recipe_145 : decode cX11_recipe 145 = .ok (.getfield 132, 3) := by decide +kernel
theorem dX11_recipe_148 : decode cX11_recipe 148 = .ok (.invokevirtual 243, 3) := by decide +kernel
theorem dX11_recipe_151 : decode cX11_recipe 151 = .ok (.aload_n 0, 1) := by decide +kernel
theorem dX11_recipe_152 : decode cX11_recipe 152 = .ok (.aload_n 0, 1) := by decide +kernel
theorem dX11_recipe_153 : decode cX11_recipe 153 = .ok (.getfield 32, 3) := by decide +kernel
theorem dX11_recipe_156 : decode cX11_recipe 156 = .ok (.iload_n 2, 1) := by decide +kernel
theorem dX11_recipe_157 : decode cX11_recipe 157 = .ok (.aaload, 1) := by decide +kernel
theorem dX11_recipe_158 : decode cX11_recipe 158 = .ok (.invokevirtual 271, 3) := by decide +kernel
theorem dX11_recipe_161 : decode cX11_recipe 161 = .ok (.iconst 1, 1) := by decide +kernel
theorem dX11_recipe_162 : decode cX11_recipe 162 = .ok (.istore 9, 2) := by decide +kernel
theorem dX11_recipe_164 : decode cX11_recipe 164 = .ok (.iload 9, 2) := by decide +kernel
theorem dX11_recipe_166 : decode cX11_recipe 166 = .ok (.sipush 1000, 3) := by decide +kernel
theorem dX11_recipe_169 : decode cX11_recipe 169 = .ok (.if_icmp .ge 29, 3) := by decide +kernel
theorem dX11_recipe_172 : decode cX11_recipe 172 = .ok (.aload_n 0, 1) := by decide +kernel
theorem dX11_recipe_173 : decode cX11_recipe 173 = .ok (.getfield 89, 3) := by decide +kernel
theorem dX11_recipe_176 : decode cX11_recipe 176 = .ok (.invokevirtual 274, 3) := by decide +kernel
theorem dX11_recipe_179 : decode cX11_recipe 179 = .ok (.ifCond .eq 19, 3) := by decide +kernel
theorem dX11_recipe_182 : decode cX11_recipe 182 = .ok (.aload_n 0, 1) := by decide +kernel
theorem dX11_recipe_183 : decode cX11_recipe 183 = .ok (.aload_n 0, 1) := by decide +kernel
theorem dX11_recipe_184 : decode cX11_recipe 184 = .ok (.getfield 32, 3) := by decide +kernel
theorem dX11_recipe_187 : decode cX11_recipe 187 = .ok (.iload_n 2, 1) := by decide +kernel
theorem dX11_recipe_188 : decode cX11_recipe 188 = .ok (.aaload, 1) := by decide +kernel
theorem dX11_recipe_189 : decode cX11_recipe 189 = .ok (.invokevirtual 271, 3) := by decide +kernel
theorem dX11_recipe_192 : decode cX11_recipe 192 = .ok (.iinc 9 1, 3) := by decide +kernel
theorem dX11_recipe_195 : decode cX11_recipe 195 = .ok (.goto (-31), 3) := by decide +kernel
theorem dX11_recipe_198 : decode cX11_recipe 198 = .ok (.aload_n 0, 1) := by decide +kernel
theorem dX11_recipe_199 : decode cX11_recipe 199 = .ok (.getfield 89, 3) := by decide +kernel
theorem dX11_recipe_202 : decode cX11_recipe 202 = .ok (.invokevirtual 277, 3) := by decide +kernel
theorem dX11_recipe_205 : decode cX11_recipe 205 = .ok (.aload_n 0, 1) := by decide +kernel
theorem dX11_recipe_206 : decode cX11_recipe 206 = .ok (.invokevirtual 173, 3) := by decide +kernel
theorem dX11_recipe_209 : decode cX11_recipe 209 = .ok (.pop, 1) := by decide +kernel
theorem dX11_recipe_210 : decode cX11_recipe 210 = .ok (.aload_n 0, 1) := by decide +kernel
theorem dX11_recipe_211 : decode cX11_recipe 211 = .ok (.getfield 89, 3) := by decide +kernel
theorem dX11_recipe_214 : decode cX11_recipe 214 = .ok (.getfield 280, 3) := by decide +kernel
theorem dX11_recipe_217 : decode cX11_recipe 217 = .ok (.ireturn, 1) := by decide +kernel
set_option maxRecDepth 20000 in
theorem ggX11_recipeOf_X8_resultOf : GoodIn wsX11_recipeOf wsX8_resultOf := goodIn_r _ [6, 7, 8, 9, 10, 11, 12, 33, 34, 35, 36, 37, 38, 39, 40, 41, 42, 43, 44, 45, 46, 47, 48, 49, 50, 51] (by decide +kernel) (by decide +kernel)
set_option maxRecDepth 20000 in
theorem gX11_recipeOf_X8_resultOf : GoodIn wsX11_recipeOf (wsV RX11 283 RX8 yX8_resultOf wsX8_resultOf) := goodIn_app (goodIn_of _ (by decide +kernel)) ggX11_recipeOf_X8_resultOf
theorem dX11_recipeOf_0 : decode cX11_recipeOf 0 = .ok (.aload_n 0, 1) := by decide +kernel
theorem dX11_recipeOf_1 : decode cX11_recipeOf 1 = .ok (.getfield 89, 3) := by decide +kernel
theorem dX11_recipeOf_4 : decode cX11_recipeOf 4 = .ok (.iload_n 1, 1) := by decide +kernel
theorem dX11_recipeOf_5 : decode cX11_recipeOf 5 = .ok (.invokevirtual 283, 3) := by decide +kernel
theorem dX11_recipeOf_8 : decode cX11_recipeOf 8 = .ok (.ireturn, 1) := by decide +kernel
set_option maxRecDepth 20000 in
theorem ggX11_recipeBy_X7_doubleBits : GoodIn wsX11_recipeBy wsX7_doubleBits := goodIn_r _ [8, 9, 10, 11, 12, 13, 14] (by decide +kernel) (by decide +kernel)
set_option maxRecDepth 20000 in
theorem gX11_recipeBy_X7_doubleBits : GoodIn wsX11_recipeBy (va_wsS RX11 233 yX7_doubleBits wsX7_doubleBits) := goodIn_app (goodIn_of _ (by decide +kernel)) ggX11_recipeBy_X7_doubleBits
theorem dX11_recipeBy_0 : decode cX11_recipeBy 0 = .ok (.aload_n 0, 1) := by decide +kernel
theorem dX11_recipeBy_1 : decode cX11_recipeBy 1 = .ok (.getfield 89, 3) := by decide +kernel
theorem dX11_recipeBy_4 : decode cX11_recipeBy 4 = .ok (.getfield 286, 3) := by decide +kernel
theorem dX11_recipeBy_7 : decode cX11_recipeBy 7 = .ok (.ifCond .ne 5, 3) := by decide +kernel
theorem dX11_recipeBy_10 : decode cX11_recipeBy 10 = .ok (.lconst 0, 1) := by decide +kernel
theorem dX11_recipeBy_11 : decode cX11_recipeBy 11 = .ok (.lreturn, 1) := by decide +kernel
theorem dX11_recipeBy_12 : decode cX11_recipeBy 12 = .ok (.iload_n 1, 1) := by decide +kernel
theorem dX11_recipeBy_13 : decode cX11_recipeBy 13 = .ok (.ifCond .ne 14, 3) := by decide +kernel
theorem dX11_recipeBy_16 : decode cX11_recipeBy 16 = .ok (.aload_n 0, 1) := by decide +kernel
theorem dX11_recipeBy_17 : decode cX11_recipeBy 17 = .ok (.getfield 89, 3) := by decide +kernel
theorem dX11_recipeBy_20 : decode cX11_recipeBy 20 = .ok (.getfield 289, 3) := by decide +kernel
theorem dX11_recipeBy_23 : decode cX11_recipeBy 23 = .ok (.invokestatic 233, 3) := by decide +kernel
theorem dX11_recipeBy_26 : decode cX11_recipeBy 26 = .ok (.lreturn, 1) := by decide +kernel
theorem dX11_recipeBy_27 : decode cX11_recipeBy 27 = .ok (.iload_n 1, 1) := by decide +kernel
theorem dX11_recipeBy_28 : decode cX11_recipeBy 28 = .ok (.iconst 1, 1) := by decide +kernel
theorem dX11_recipeBy_29 : decode cX11_recipeBy 29 = .ok (.if_icmp .ne 13, 3) := by decide +kernel
theorem dX11_recipeBy_32 : decode cX11_recipeBy 32 = .ok (.aload_n 0, 1) := by decide +kernel
theorem dX11_recipeBy_33 : decode cX11_recipeBy 33 = .ok (.getfield 89, 3) := by decide +kernel
theorem dX11_recipeBy_36 : decode cX11_recipeBy 36 = .ok (.getfield 293, 3) := by decide +kernel
theorem dX11_recipeBy_39 : decode cX11_recipeBy 39 = .ok (.goto 4, 3) := by decide +kernel
theorem dX11_recipeBy_42 : decode cX11_recipeBy 42 = .ok (.lconst 0, 1) := by decide +kernel
theorem dX11_recipeBy_43 : decode cX11_recipeBy 43 = .ok (.lreturn, 1) := by decide +kernel
set_option maxRecDepth 20000 in
theorem ggX11_lot_X11_isThere : GoodIn wsX11_lot wsX11_isThere := goodIn_r _ [8, 2, 49, 50, 51, 52, 53, 54, 55, 56, 57, 58, 59, 60, 61, 62, 63, 64, 65, 66, 67, 68] (by decide +kernel) (by decide +kernel)
set_option maxRecDepth 20000 in
theorem gX11_lot_X11_isThere : GoodIn wsX11_lot (wsV RX11 142 RX11 yX11_isThere wsX11_isThere) := goodIn_app (goodIn_of _ (by decide +kernel)) ggX11_lot_X11_isThere
set_option maxRecDepth 20000 in
theorem ggX11_lot_X11_refused : GoodIn wsX11_lot wsX11_refused := goodIn_r _ [12, 13, 49, 50, 51, 52, 53, 54, 55, 56, 57, 58, 59, 60, 61, 62, 63, 64, 65, 66, 67, 68] (by decide +kernel) (by decide +kernel)
set_option maxRecDepth 20000 in
theorem gX11_lot_X11_refused : GoodIn wsX11_lot (wsV RX11 128 RX11 yX11_refused wsX11_refused) := goodIn_app (goodIn_of _ (by decide +kernel)) ggX11_lot_X11_refused
set_option maxRecDepth 20000 in
theorem ggX11_lot_X11_isWithin : GoodIn wsX11_lot wsX11_isWithin := goodIn_r _ [16] (by decide +kernel) (by decide +kernel)
set_option maxRecDepth 20000 in
theorem gX11_lot_X11_isWithin : GoodIn wsX11_lot (va_wsS RX11 151 yX11_isWithin wsX11_isWithin) := goodIn_app (goodIn_of _ (by decide +kernel)) ggX11_lot_X11_isWithin
set_option maxRecDepth 20000 in
theorem ggX11_lot_X4_begin : GoodIn wsX11_lot wsX4_begin := goodIn_r _ [21, 22, 23, 24, 25, 26, 69, 70, 71, 72, 73] (by decide +kernel) (by decide +kernel)
set_option maxRecDepth 20000 in
theorem gX11_lot_X4_begin : GoodIn wsX11_lot (wsV RX11 298 RX4 yX4_begin wsX4_begin) := goodIn_app (goodIn_of _ (by decide +kernel)) ggX11_lot_X4_begin
set_option maxRecDepth 20000 in
theorem ggX11_lot_X11_newOne : GoodIn wsX11_lot wsX11_newOne := goodIn_r _ [30, 31, 2, 32, 33, 34, 35, 36, 37, 38, 39, 40, 41, 42, 43, 44, 45, 46, 47, 7, 48, 13, 49, 50, 51, 52, 53, 54, 55, 56, 57, 58, 59, 60, 61, 62, 63, 64, 65, 66, 67, 68, 74, 75, 76, 77] (by decide +kernel) (by decide +kernel)
set_option maxRecDepth 20000 in
theorem gX11_lot_X11_newOne : GoodIn wsX11_lot (wsV RX11 139 RX11 yX11_newOne wsX11_newOne) := goodIn_app (goodIn_of _ (by decide +kernel)) ggX11_lot_X11_newOne
theorem dX11_lot_0 : decode cX11_lot 0 = .ok (.aload_n 0, 1) := by decide +kernel
theorem dX11_lot_1 : decode cX11_lot 1 = .ok (.iconst 2, 1) := by decide +kernel
theorem dX11_lot_2 : decode cX11_lot 2 = .ok (.iload_n 1, 1) := by decide +kernel
theorem dX11_lot_3 : decode cX11_lot 3 = .ok (.invokevirtual 142, 3) := by decide +kernel
theorem dX11_lot_6 : decode cX11_lot 6 = .ok (.ifCond .ne 9, 3) := by decide +kernel
theorem dX11_lot_9 : decode cX11_lot 9 = .ok (.aload_n 0, 1) := by decide +kernel
theorem dX11_lot_10 : decode cX11_lot 10 = .ok (.iconst 2, 1) := by decide +kernel
theorem dX11_lot_11 : decode cX11_lot 11 = .ok (.invokevirtual 128, 3) := by decide +kernel
theorem dX11_lot_14 : decode cX11_lot 14 = .ok (.ireturn, 1) := by decide +kernel
theorem dX11_lot_15 : decode cX11_lot 15 = .ok (.iload_n 2, 1) := by decide +kernel
theorem dX11_lot_16 : decode cX11_lot 16 = .ok (.iconst 1, 1) := by decide +kernel
theorem dX11_lot_17 : decode cX11_lot 17 = .ok (.sipush 1000, 3) := by decide +kernel
theorem dX11_lot_20 : decode cX11_lot 20 = .ok (.invokestatic 151, 3) := by decide +kernel
theorem dX11_lot_23 : decode cX11_lot 23 = .ok (.ifCond .eq 26, 3) := by decide +kernel
theorem dX11_lot_26 : decode cX11_lot 26 = .ok (.iload_n 3, 1) := by decide +kernel
theorem dX11_lot_27 : decode cX11_lot 27 = .ok (.iconst 1, 1) := by decide +kernel
theorem dX11_lot_28 : decode cX11_lot 28 = .ok (.sipush 1000, 3) := by decide +kernel
theorem dX11_lot_31 : decode cX11_lot 31 = .ok (.invokestatic 151, 3) := by decide +kernel
theorem dX11_lot_34 : decode cX11_lot 34 = .ok (.ifCond .eq 15, 3) := by decide +kernel
theorem dX11_lot_37 : decode cX11_lot 37 = .ok (.iload 4, 2) := by decide +kernel
theorem dX11_lot_39 : decode cX11_lot 39 = .ok (.iconst 1, 1) := by decide +kernel
theorem dX11_lot_40 : decode cX11_lot 40 = .ok (.ldc_w 297, 3) := by decide +kernel
theorem dX11_lot_43 : decode cX11_lot 43 = .ok (.invokestatic 151, 3) := by decide +kernel
theorem dX11_lot_46 : decode cX11_lot 46 = .ok (.ifCond .ne 9, 3) := by decide +kernel
theorem dX11_lot_49 : decode cX11_lot 49 = .ok (.aload_n 0, 1) := by decide +kernel
theorem dX11_lot_50 : decode cX11_lot 50 = .ok (.iconst 3, 1) := by decide +kernel
theorem dX11_lot_51 : decode cX11_lot 51 = .ok (.invokevirtual 128, 3) := by decide +kernel
theorem dX11_lot_54 : decode cX11_lot 54 = .ok (.ireturn, 1) := by decide +kernel
theorem dX11_lot_55 : decode cX11_lot 55 = .ok (.aload_n 0, 1) := by decide +kernel
theorem dX11_lot_56 : decode cX11_lot 56 = .ok (.getfield 20, 3) := by decide +kernel
theorem dX11_lot_59 : decode cX11_lot 59 = .ok (.iconst 4, 1) := by decide +kernel
theorem dX11_lot_60 : decode cX11_lot 60 = .ok (.iaload, 1) := by decide +kernel
theorem dX11_lot_61 : decode cX11_lot 61 = .ok (.bipush 20, 2) := by decide +kernel
theorem dX11_lot_63 : decode cX11_lot 63 = .ok (.if_icmp .lt 9, 3) := by decide +kernel
theorem dX11_lot_66 : decode cX11_lot 66 = .ok (.aload_n 0, 1) := by decide +kernel
theorem dX11_lot_67 : decode cX11_lot 67 = .ok (.iconst 1, 1) := by decide +kernel
theorem dX11_lot_68 : decode cX11_lot 68 = .ok (.invokevirtual 128, 3) := by decide +kernel
theorem dX11_lot_71 : decode cX11_lot 71 = .ok (.ireturn, 1) := by decide +kernel
theorem dX11_lot_72 : decode cX11_lot 72 = .ok (.aload_n 0, 1) := by decide +kernel
theorem dX11_lot_73 : decode cX11_lot 73 = .ok (.getfield 49, 3) := by decide +kernel
theorem dX11_lot_76 : decode cX11_lot 76 = .ok (.aload_n 0, 1) := by decide +kernel
theorem dX11_lot_77 : decode cX11_lot 77 = .ok (.getfield 20, 3) := by decide +kernel
theorem dX11_lot_80 : decode cX11_lot 80 = .ok (.iconst 4, 1) := by decide +kernel
theorem dX11_lot_81 : decode cX11_lot 81 = .ok (.iaload, 1) := by decide +kernel
theorem dX11_lot_82 : decode cX11_lot 82 = .ok (.aaload, 1) := by decide +kernel
theorem dX11_lot_83 : decode cX11_lot 83 = .ok (.iload_n 1, 1) := by decide +kernel
theorem dX11_lot_84 : decode cX11_lot 84 = .ok (.iload_n 2, 1) := by decide +kernel
theorem dX11_lot_85 : decode cX11_lot 85 = .ok (.iload_n 3, 1) := by decide +kernel
theorem dX11_lot_86 : decode cX11_lot 86 = .ok (.iload 4, 2) := by decide +kernel
theorem dX11_lot_88 : decode cX11_lot 88 = .ok (.invokevirtual 298, 3) := by decide +kernel
theorem dX11_lot_91 : decode cX11_lot 91 = .ok (.aload_n 0, 1) := by decide +kernel
theorem dX11_lot_92 : decode cX11_lot 92 = .ok (.iconst 4, 1) := by decide +kernel
theorem dX11_lot_93 : decode cX11_lot 93 = .ok (.invokevirtual 139, 3) := by decide +kernel
theorem dX11_lot_96 : decode cX11_lot 96 = .ok (.ireturn, 1) := by decide +kernel
set_option maxRecDepth 20000 in
theorem ggX11_batch_X11_isThere : GoodIn wsX11_batch wsX11_isThere := goodIn_r _ [7, 1, 47, 48, 49, 50, 51, 52, 53, 54, 55, 56, 57, 58, 59, 60, 61, 62, 63, 64, 65, 66] (by decide +kernel) (by decide +kernel)
set_option maxRecDepth 20000 in
theorem gX11_batch_X11_isThere : GoodIn wsX11_batch (wsV RX11 142 RX11 yX11_isThere wsX11_isThere) := goodIn_app (goodIn_of _ (by decide +kernel)) ggX11_batch_X11_isThere
set_option maxRecDepth 20000 in
theorem ggX11_batch_X11_refused : GoodIn wsX11_batch wsX11_refused := goodIn_r _ [11, 12, 47, 48, 49, 50, 51, 52, 53, 54, 55, 56, 57, 58, 59, 60, 61, 62, 63, 64, 65, 66] (by decide +kernel) (by decide +kernel)
set_option maxRecDepth 20000 in
theorem gX11_batch_X11_refused : GoodIn wsX11_batch (wsV RX11 128 RX11 yX11_refused wsX11_refused) := goodIn_app (goodIn_of _ (by decide +kernel)) ggX11_batch_X11_refused
set_option maxRecDepth 20000 in
theorem ggX11_batch_X11_isWithin : GoodIn wsX11_batch wsX11_isWithin := goodIn_r _ [15] (by decide +kernel) (by decide +kernel)
set_option maxRecDepth 20000 in
theorem gX11_batch_X11_isWithin : GoodIn wsX11_batch (va_wsS RX11 151 yX11_isWithin wsX11_isWithin) := goodIn_app (goodIn_of _ (by decide +kernel)) ggX11_batch_X11_isWithin
set_option maxRecDepth 20000 in
theorem ggX11_batch_X1_begin : GoodIn wsX11_batch wsX1_begin := goodIn_r _ [20, 21, 22, 23, 24, 67, 68, 69, 70, 71, 72, 73] (by decide +kernel) (by decide +kernel)
set_option maxRecDepth 20000 in
theorem gX11_batch_X1_begin : GoodIn wsX11_batch (wsV RX11 301 RX1 yX1_begin wsX1_begin) := goodIn_app (goodIn_of _ (by decide +kernel)) ggX11_batch_X1_begin
set_option maxRecDepth 20000 in
theorem ggX11_batch_X11_newOne : GoodIn wsX11_batch wsX11_newOne := goodIn_r _ [28, 29, 1, 30, 31, 32, 33, 34, 35, 36, 37, 38, 39, 40, 41, 42, 43, 44, 45, 6, 46, 12, 47, 48, 49, 50, 51, 52, 53, 54, 55, 56, 57, 58, 59, 60, 61, 62, 63, 64, 65, 66, 74, 75, 76, 77] (by decide +kernel) (by decide +kernel)
set_option maxRecDepth 20000 in
theorem gX11_batch_X11_newOne : GoodIn wsX11_batch (wsV RX11 139 RX11 yX11_newOne wsX11_newOne) := goodIn_app (goodIn_of _ (by decide +kernel)) ggX11_batch_X11_newOne
theorem dX11_batch_0 : decode cX11_batch 0 = .ok (.aload_n 0, 1) := by decide +kernel
theorem dX11_batch_1 : decode cX11_batch 1 = .ok (.iconst 1, 1) := by decide +kernel
theorem dX11_batch_2 : decode cX11_batch 2 = .ok (.iload_n 1, 1) := by decide +kernel
theorem dX11_batch_3 : decode cX11_batch 3 = .ok (.invokevirtual 142, 3) := by decide +kernel
theorem dX11_batch_6 : decode cX11_batch 6 = .ok (.ifCond .ne 9, 3) := by decide +kernel
theorem dX11_batch_9 : decode cX11_batch 9 = .ok (.aload_n 0, 1) := by decide +kernel
theorem dX11_batch_10 : decode cX11_batch 10 = .ok (.iconst 2, 1) := by decide +kernel
theorem dX11_batch_11 : decode cX11_batch 11 = .ok (.invokevirtual 128, 3) := by decide +kernel
theorem dX11_batch_14 : decode cX11_batch 14 = .ok (.ireturn, 1) := by decide +kernel
theorem dX11_batch_15 : decode cX11_batch 15 = .ok (.iload_n 2, 1) := by decide +kernel
theorem dX11_batch_16 : decode cX11_batch 16 = .ok (.iconst 1, 1) := by decide +kernel
theorem dX11_batch_17 : decode cX11_batch 17 = .ok (.sipush 1000, 3) := by decide +kernel
theorem dX11_batch_20 : decode cX11_batch 20 = .ok (.invokestatic 151, 3) := by decide +kernel
theorem dX11_batch_23 : decode cX11_batch 23 = .ok (.ifCond .ne 9, 3) := by decide +kernel
theorem dX11_batch_26 : decode cX11_batch 26 = .ok (.aload_n 0, 1) := by decide +kernel
theorem dX11_batch_27 : decode cX11_batch 27 = .ok (.iconst 3, 1) := by decide +kernel
theorem dX11_batch_28 : decode cX11_batch 28 = .ok (.invokevirtual 128, 3) := by decide +kernel
theorem dX11_batch_31 : decode cX11_batch 31 = .ok (.ireturn, 1) := by decide +kernel
theorem dX11_batch_32 : decode cX11_batch 32 = .ok (.aload_n 0, 1) := by decide +kernel
theorem dX11_batch_33 : decode cX11_batch 33 = .ok (.getfield 20, 3) := by decide +kernel
theorem dX11_batch_36 : decode cX11_batch 36 = .ok (.iconst 5, 1) := by decide +kernel
theorem dX11_batch_37 : decode cX11_batch 37 = .ok (.iaload, 1) := by decide +kernel
theorem dX11_batch_38 : decode cX11_batch 38 = .ok (.bipush 12, 2) := by decide +kernel
theorem dX11_batch_40 : decode cX11_batch 40 = .ok (.if_icmp .lt 9, 3) := by decide +kernel
theorem dX11_batch_43 : decode cX11_batch 43 = .ok (.aload_n 0, 1) := by decide +kernel
theorem dX11_batch_44 : decode cX11_batch 44 = .ok (.iconst 1, 1) := by decide +kernel
theorem dX11_batch_45 : decode cX11_batch 45 = .ok (.invokevirtual 128, 3) := by decide +kernel
theorem dX11_batch_48 : decode cX11_batch 48 = .ok (.ireturn, 1) := by decide +kernel
theorem dX11_batch_49 : decode cX11_batch 49 = .ok (.aload_n 0, 1) := by decide +kernel
theorem dX11_batch_50 : decode cX11_batch 50 = .ok (.getfield 55, 3) := by decide +kernel
theorem dX11_batch_53 : decode cX11_batch 53 = .ok (.aload_n 0, 1) := by decide +kernel
theorem dX11_batch_54 : decode cX11_batch 54 = .ok (.getfield 20, 3) := by decide +kernel
theorem dX11_batch_57 : decode cX11_batch 57 = .ok (.iconst 5, 1) := by decide +kernel
theorem dX11_batch_58 : decode cX11_batch 58 = .ok (.iaload, 1) := by decide +kernel
theorem dX11_batch_59 : decode cX11_batch 59 = .ok (.aaload, 1) := by decide +kernel
theorem dX11_batch_60 : decode cX11_batch 60 = .ok (.iload_n 1, 1) := by decide +kernel
theorem dX11_batch_61 : decode cX11_batch 61 = .ok (.iload_n 2, 1) := by decide +kernel
theorem dX11_batch_62 : decode cX11_batch 62 = .ok (.invokevirtual 301, 3) := by decide +kernel
theorem dX11_batch_65 : decode cX11_batch 65 = .ok (.aload_n 0, 1) := by decide +kernel
theorem dX11_batch_66 : decode cX11_batch 66 = .ok (.iconst 5, 1) := by decide +kernel
theorem dX11_batch_67 : decode cX11_batch 67 = .ok (.invokevirtual 139, 3) := by decide +kernel
theorem dX11_batch_70 : decode cX11_batch 70 = .ok (.ireturn, 1) := by decide +kernel
set_option maxRecDepth 20000 in
theorem ggX11_weigh_X11_isThere : GoodIn wsX11_weigh wsX11_isThere := goodIn_r _ [10, 11, 53, 54, 55, 56, 57, 58, 59, 60, 61, 62, 63, 64, 65, 66, 67, 68, 69, 70, 71, 72] (by decide +kernel) (by decide +kernel)
set_option maxRecDepth 20000 in
theorem gX11_weigh_X11_isThere : GoodIn wsX11_weigh (wsV RX11 142 RX11 yX11_isThere wsX11_isThere) := goodIn_app (goodIn_of _ (by decide +kernel)) ggX11_weigh_X11_isThere
set_option maxRecDepth 20000 in
theorem ggX11_weigh_X11_refused : GoodIn wsX11_weigh wsX11_refused := goodIn_r _ [15, 16, 53, 54, 55, 56, 57, 58, 59, 60, 61, 62, 63, 64, 65, 66, 67, 68, 69, 70, 71, 72] (by decide +kernel) (by decide +kernel)
set_option maxRecDepth 20000 in
theorem gX11_weigh_X11_refused : GoodIn wsX11_weigh (wsV RX11 128 RX11 yX11_refused wsX11_refused) := goodIn_app (goodIn_of _ (by decide +kernel)) ggX11_weigh_X11_refused
set_option maxRecDepth 20000 in
theorem ggX11_weigh_X11_isWithin : GoodIn wsX11_weigh wsX11_isWithin := goodIn_r _ [19] (by decide +kernel) (by decide +kernel)
set_option maxRecDepth 20000 in
theorem gX11_weigh_X11_isWithin : GoodIn wsX11_weigh (va_wsS RX11 151 yX11_isWithin wsX11_isWithin) := goodIn_app (goodIn_of _ (by decide +kernel)) ggX11_weigh_X11_isWithin
set_option maxRecDepth 20000 in
theorem ggX11_weigh_X1_hasRoomFor : GoodIn wsX11_weigh wsX1_hasRoomFor := goodIn_r _ [24, 25, 26, 27, 28, 23, 29, 30, 78, 79, 80, 81, 82, 83, 84] (by decide +kernel) (by decide +kernel)
set_option maxRecDepth 20000 in
theorem gX11_weigh_X1_hasRoomFor : GoodIn wsX11_weigh (wsV RX11 306 RX1 yX1_hasRoomFor wsX1_hasRoomFor) := goodIn_app (goodIn_of _ (by decide +kernel)) ggX11_weigh_X1_hasRoomFor
set_option maxRecDepth 20000 in
theorem ggX11_weigh_X0_note : GoodIn wsX11_weigh wsX0_note := goodIn_r _ [35, 36, 37, 38, 39, 40, 41, 42, 43, 85, 86, 87, 88] (by decide +kernel) (by decide +kernel)
set_option maxRecDepth 20000 in
theorem gX11_weigh_X0_note : GoodIn wsX11_weigh (wsV RX11 169 RX0 yX0_note wsX0_note) := goodIn_app (goodIn_of _ (by decide +kernel)) ggX11_weigh_X0_note
set_option maxRecDepth 20000 in
theorem ggX11_weigh_X11_accept : GoodIn wsX11_weigh wsX11_accept := goodIn_r _ [47, 16, 53, 54, 55, 56, 57, 58, 59, 60, 61, 62, 63, 64, 65, 66, 67, 68, 69, 70, 71, 72] (by decide +kernel) (by decide +kernel)
set_option maxRecDepth 20000 in
theorem gX11_weigh_X11_accept : GoodIn wsX11_weigh (wsV RX11 173 RX11 yX11_accept wsX11_accept) := goodIn_app (goodIn_of _ (by decide +kernel)) ggX11_weigh_X11_accept
set_option maxRecDepth 20000 in
theorem ggX11_weigh_X1_addGrams : GoodIn wsX11_weigh wsX1_addGrams := goodIn_r _ [51, 25, 30, 52, 26, 27, 28, 23, 29, 78, 79, 80, 81, 82, 83, 84] (by decide +kernel) (by decide +kernel)
set_option maxRecDepth 20000 in
theorem gX11_weigh_X1_addGrams : GoodIn wsX11_weigh (wsV RX11 309 RX1 yX1_addGrams wsX1_addGrams) := goodIn_app (goodIn_of _ (by decide +kernel)) ggX11_weigh_X1_addGrams
theorem dX11_weigh_0 : decode cX11_weigh 0 = .ok (.aload_n 0, 1) := by decide +kernel
theorem dX11_weigh_1 : decode cX11_weigh 1 = .ok (.iconst 5, 1) := by decide +kernel
theorem dX11_weigh_2 : decode cX11_weigh 2 = .ok (.iload_n 1, 1) := by decide +kernel
theorem dX11_weigh_3 : decode cX11_weigh 3 = .ok (.invokevirtual 142, 3) := by decide +kernel
theorem dX11_weigh_6 : decode cX11_weigh 6 = .ok (.ifCond .eq 12, 3) := by decide +kernel
theorem dX11_weigh_9 : decode cX11_weigh 9 = .ok (.aload_n 0, 1) := by decide +kernel
theorem dX11_weigh_10 : decode cX11_weigh 10 = .ok (.iconst 4, 1) := by decide +kernel
theorem dX11_weigh_11 : decode cX11_weigh 11 = .ok (.iload_n 2, 1) := by decide +kernel
theorem dX11_weigh_12 : decode cX11_weigh 12 = .ok (.invokevirtual 142, 3) := by decide +kernel
theorem dX11_weigh_15 : decode cX11_weigh 15 = .ok (.ifCond .ne 9, 3) := by decide +kernel
theorem dX11_weigh_18 : decode cX11_weigh 18 = .ok (.aload_n 0, 1) := by decide +kernel
theorem dX11_weigh_19 : decode cX11_weigh 19 = .ok (.iconst 2, 1) := by decide +kernel
theorem dX11_weigh_20 : decode cX11_weigh 20 = .ok (.invokevirtual 128, 3) := by decide +kernel
theorem dX11_weigh_23 : decode cX11_weigh 23 = .ok (.ireturn, 1) := by decide +kernel
theorem dX11_weigh_24 : decode cX11_weigh 24 = .ok (.iload_n 3, 1) := by decide +kernel
theorem dX11_weigh_25 : decode cX11_weigh 25 = .ok (.iconst 1, 1) := by decide +kernel
theorem dX11_weigh_26 : decode cX11_weigh 26 = .ok (.ldc 150, 2) := by decide +kernel
theorem dX11_weigh_28 : decode cX11_weigh 28 = .ok (.invokestatic 151, 3) := by decide +kernel
theorem dX11_weigh_31 : decode cX11_weigh 31 = .ok (.ifCond .ne 9, 3) := by decide +kernel
theorem dX11_weigh_34 : decode cX11_weigh 34 = .ok (.aload_n 0, 1) := by decide +kernel
theorem dX11_weigh_35 : decode cX11_weigh 35 = .ok (.iconst 3, 1) := by decide +kernel
theorem dX11_weigh_36 : decode cX11_weigh 36 = .ok (.invokevirtual 128, 3) := by decide +kernel
theorem dX11_weigh_39 : decode cX11_weigh 39 = .ok (.ireturn, 1) := by decide +kernel
theorem dX11_weigh_40 : decode cX11_weigh 40 = .ok (.aload_n 0, 1) := by decide +kernel
theorem dX11_weigh_41 : decode cX11_weigh 41 = .ok (.getfield 49, 3) := by decide +kernel
theorem dX11_weigh_44 : decode cX11_weigh 44 = .ok (.iload_n 2, 1) := by decide +kernel
theorem dX11_weigh_45 : decode cX11_weigh 45 = .ok (.aaload, 1) := by decide +kernel
theorem dX11_weigh_46 : decode cX11_weigh 46 = .ok (.getfield 303, 3) := by decide +kernel
theorem dX11_weigh_49 : decode cX11_weigh 49 = .ok (.iload_n 3, 1) := by decide +kernel
theorem dX11_weigh_50 : decode cX11_weigh 50 = .ok (.sipush 1000, 3) := by decide +kernel
theorem dX11_weigh_53 : decode cX11_weigh 53 = .ok (.imul, 1) := by decide +kernel
theorem dX11_weigh_54 : decode cX11_weigh 54 = .ok (.if_icmp .ge 9, 3) := by decide +kernel
theorem dX11_weigh_57 : decode cX11_weigh 57 = .ok (.aload_n 0, 1) := by decide +kernel
theorem dX11_weigh_58 : decode cX11_weigh 58 = .ok (.iconst 4, 1) := by decide +kernel
theorem dX11_weigh_59 : decode cX11_weigh 59 = .ok (.invokevirtual 128, 3) := by decide +kernel
theorem dX11_weigh_62 : decode cX11_weigh 62 = .ok (.ireturn, 1) := by decide +kernel
theorem dX11_weigh_63 : decode cX11_weigh 63 = .ok (.aload_n 0, 1) := by decide +kernel
theorem dX11_weigh_64 : decode cX11_weigh 64 = .ok (.getfield 55, 3) := by decide +kernel
theorem dX11_weigh_67 : decode cX11_weigh 67 = .ok (.iload_n 1, 1) := by decide +kernel
theorem dX11_weigh_68 : decode cX11_weigh 68 = .ok (.aaload, 1) := by decide +kernel
theorem dX11_weigh_69 : decode cX11_weigh 69 = .ok (.iload_n 2, 1) := by decide +kernel
theorem dX11_weigh_70 : decode cX11_weigh 70 = .ok (.invokevirtual 306, 3) := by decide +kernel
theorem dX11_weigh_73 : decode cX11_weigh 73 = .ok (.ifCond .ne 9, 3) := by decide +kernel
theorem dX11_weigh_76 : decode cX11_weigh 76 = .ok (.aload_n 0, 1) := by decide +kernel
theorem dX11_weigh_77 : decode cX11_weigh 77 = .ok (.iconst 1, 1) := by decide +kernel
theorem dX11_weigh_78 : decode cX11_weigh 78 = .ok (.invokevirtual 128, 3) := by decide +kernel
theorem dX11_weigh_81 : decode cX11_weigh 81 = .ok (.ireturn, 1) := by decide +kernel
theorem dX11_weigh_82 : decode cX11_weigh 82 = .ok (.aload_n 0, 1) := by decide +kernel
theorem dX11_weigh_83 : decode cX11_weigh 83 = .ok (.getfield 49, 3) := by decide +kernel
theorem dX11_weigh_86 : decode cX11_weigh 86 = .ok (.iload_n 2, 1) := by decide +kernel
theorem dX11_weigh_87 : decode cX11_weigh 87 = .ok (.aaload, 1) := by decide +kernel
theorem dX11_weigh_88 : decode cX11_weigh 88 = .ok (.dup, 1) := by decide +kernel
theorem dX11_weigh_89 : decode cX11_weigh 89 = .ok (.getfield 303, 3) := by decide +kernel
theorem dX11_weigh_92 : decode cX11_weigh 92 = .ok (.iload_n 3, 1) := by decide +kernel
theorem dX11_weigh_93 : decode cX11_weigh 93 = .ok (.sipush 1000, 3) := by decide +kernel
theorem dX11_weigh_96 : decode cX11_weigh 96 = .ok (.imul, 1) := by decide +kernel
theorem dX11_weigh_97 : decode cX11_weigh 97 = .ok (.isub, 1) := by decide +kernel
theorem dX11_weigh_98 : decode cX11_weigh 98 = .ok (.putfield 303, 3) := by decide +kernel
theorem dX11_weigh_101 : decode cX11_weigh 101 = .ok (.aload_n 0, 1) := by decide +kernel
theorem dX11_weigh_102 : decode cX11_weigh 102 = .ok (.getfield 106, 3) := by decide +kernel
theorem dX11_weigh_105 : decode cX11_weigh 105 = .ok (.bipush 8, 2) := by decide +kernel
theorem dX11_weigh_107 : decode cX11_weigh 107 = .ok (.iload_n 1, 1) := by decide +kernel
theorem dX11_weigh_108 : decode cX11_weigh 108 = .ok (.iload_n 2, 1) := by decide +kernel
theorem dX11_weigh_109 : decode cX11_weigh 109 = .ok (.iload_n 3, 1) := by decide +kernel
theorem dX11_weigh_110 : decode cX11_weigh 110 = .ok (.invokevirtual 169, 3) := by decide +kernel
theorem dX11_weigh_113 : decode cX11_weigh 113 = .ok (.pop, 1) := by decide +kernel
theorem dX11_weigh_114 : decode cX11_weigh 114 = .ok (.aload_n 0, 1) := by decide +kernel
theorem dX11_weigh_115 : decode cX11_weigh 115 = .ok (.invokevirtual 173, 3) := by decide +kernel
theorem dX11_weigh_118 : decode cX11_weigh 118 = .ok (.pop, 1) := by decide +kernel
theorem dX11_weigh_119 : decode cX11_weigh 119 = .ok (.aload_n 0, 1) := by decide +kernel
theorem dX11_weigh_120 : decode cX11_weigh 120 = .ok (.getfield 55, 3) := by decide +kernel
theorem dX11_weigh_123 : decode cX11_weigh 123 = .ok (.iload_n 1, 1) := by decide +kernel
theorem dX11_weigh_124 : decode cX11_weigh 124 = .ok (.aaload, 1) := by decide +kernel
theorem dX11_weigh_125 : decode cX11_weigh 125 = .ok (.iload_n 2, 1) := by decide +kernel
theorem dX11_weigh_126 : decode cX11_weigh 126 = .ok (.iload_n 3, 1) := by decide +kernel
theorem dX11_weigh_127 : decode cX11_weigh 127 = .ok (.invokevirtual 309, 3) := by decide +kernel
theorem dX11_weigh_130 : decode cX11_weigh 130 = .ok (.ireturn, 1) := by decide +kernel
set_option maxRecDepth 20000 in
theorem ggX11_correct_X11_isThere : GoodIn wsX11_correct wsX11_isThere := goodIn_r _ [20, 4, 239, 240, 241, 242, 243, 244, 245, 246, 247, 248, 249, 250, 251, 252, 253, 254, 255, 256, 257, 258] (by decide +kernel) (by decide +kernel)
set_option maxRecDepth 20000 in
theorem gX11_correct_X11_isThere : GoodIn wsX11_correct (wsV RX11 142 RX11 yX11_isThere wsX11_isThere) := goodIn_app (goodIn_of _ (by decide +kernel)) ggX11_correct_X11_isThere
set_option maxRecDepth 20000 in
theorem ggX11_correct_X11_refused : GoodIn wsX11_correct wsX11_refused := goodIn_r _ [24, 25, 239, 240, 241, 242, 243, 244, 245, 246, 247, 248, 249, 250, 251, 252, 253, 254, 255, 256, 257, 258] (by decide +kernel) (by decide +kernel)
set_option maxRecDepth 20000 in
theorem gX11_correct_X11_refused : GoodIn wsX11_correct (wsV RX11 128 RX11 yX11_refused wsX11_refused) := goodIn_app (goodIn_of _ (by decide +kernel)) ggX11_correct_X11_refused
set_option maxRecDepth 20000 in
theorem ggX11_correct_X9_isOne : GoodIn wsX11_correct wsX9_isOne := goodIn_r _ [29] (by decide +kernel) (by decide +kernel)
set_option maxRecDepth 20000 in
theorem gX11_correct_X9_isOne : GoodIn wsX11_correct (va_wsS RX11 222 yX9_isOne wsX9_isOne) := goodIn_app (goodIn_of _ (by decide +kernel)) ggX11_correct_X9_isOne
set_option maxRecDepth 20000 in
theorem ggX11_correct_X11_isGrid : GoodIn wsX11_correct wsX11_isGrid := goodIn_r _ [32, 33, 34, 19, 35] (by decide +kernel) (by decide +kernel)
set_option maxRecDepth 20000 in
theorem gX11_correct_X11_isGrid : GoodIn wsX11_correct (va_wsS RX11 263 yX11_isGrid wsX11_isGrid) := goodIn_app (goodIn_of _ (by decide +kernel)) ggX11_correct_X11_isGrid
set_option maxRecDepth 20000 in
theorem ggX11_correct_X8_begin : GoodIn wsX11_correct wsX8_begin := goodIn_r _ [40, 41, 42, 43, 44, 45, 46, 47, 273, 274, 275, 276, 277, 278, 279, 280, 281, 282, 283, 284, 285, 286, 287, 288, 289, 290, 291] (by decide +kernel) (by decide +kernel)
set_option maxRecDepth 20000 in
theorem gX11_correct_X8_begin : GoodIn wsX11_correct (wsV RX11 266 RX8 yX8_begin wsX8_begin) := goodIn_app (goodIn_of _ (by decide +kernel)) ggX11_correct_X8_begin
set_option maxRecDepth 20000 in
theorem ggX11_correct_X1_placeOf : GoodIn wsX11_correct wsX1_placeOf := goodIn_r _ [52, 53, 54, 259, 260, 261, 262, 263, 264, 265] (by decide +kernel) (by decide +kernel)
set_option maxRecDepth 20000 in
theorem gX11_correct_X1_placeOf : GoodIn wsX11_correct (wsV RX11 321 RX1 yX1_placeOf wsX1_placeOf) := goodIn_app (goodIn_of _ (by decide +kernel)) ggX11_correct_X1_placeOf
set_option maxRecDepth 20000 in
theorem ggX11_correct_X8_offer : GoodIn wsX11_correct wsX8_offer := goodIn_r _ [58, 41, 59, 60, 61, 273, 274, 275, 276, 277, 278, 279, 280, 281, 282, 283, 284, 285, 286, 287, 288, 289, 290, 291] (by decide +kernel) (by decide +kernel)
set_option maxRecDepth 20000 in
theorem gX11_correct_X8_offer : GoodIn wsX11_correct (wsV RX11 268 RX8 yX8_offer wsX8_offer) := goodIn_app (goodIn_of _ (by decide +kernel)) ggX11_correct_X8_offer
set_option maxRecDepth 20000 in
theorem ggX11_correct_X9_aim : GoodIn wsX11_correct wsX9_aim := goodIn_r _ [65, 66, 67, 68, 69, 292, 293, 294, 295, 296, 297, 298, 299, 300] (by decide +kernel) (by decide +kernel)
set_option maxRecDepth 20000 in
theorem gX11_correct_X9_aim : GoodIn wsX11_correct (wsV RX11 225 RX9 yX9_aim wsX9_aim) := goodIn_app (goodIn_of _ (by decide +kernel)) ggX11_correct_X9_aim
set_option maxRecDepth 20000 in
theorem ggX11_correct_X9_setGoal : GoodIn wsX11_correct wsX9_setGoal := goodIn_r _ [73, 74, 75, 76, 77, 78, 79, 80, 81, 28, 82, 83, 84, 85, 86, 87, 88, 89, 69, 68, 90, 91, 92, 93, 94, 95, 96, 97, 98, 99, 100, 101, 102, 103, 292, 293, 294, 295, 296, 297, 298, 299, 300] (by decide +kernel) (by decide +kernel)
set_option maxRecDepth 20000 in
theorem gX11_correct_X9_setGoal : GoodIn wsX11_correct (wsV RX11 243 RX9 yX9_setGoal wsX9_setGoal) := goodIn_app (goodIn_of _ (by decide +kernel)) ggX11_correct_X9_setGoal
set_option maxRecDepth 20000 in
theorem ggX11_correct_X11_bathGap : GoodIn wsX11_correct wsX11_bathGap := goodIn_r _ [107, 108, 109, 110, 3, 111, 112, 2, 113, 12, 114, 115, 116, 117, 118, 119, 120, 121, 122, 123, 124, 125, 126, 127, 39, 128, 45, 129, 130, 131, 132, 59, 133, 134, 135, 136, 137, 138, 43, 139, 140, 141, 51, 142, 143, 144, 145, 146, 147, 19, 148, 149, 6, 150, 16, 17, 18, 20, 4, 151, 152, 153, 154, 155, 156, 157, 158, 159, 160, 161, 162, 163, 164, 165, 166, 167, 168, 169, 170, 171, 172, 173, 174, 175, 176, 177, 178, 179, 180, 48, 49, 50, 52, 53, 54, 181, 182, 183, 184, 185, 186, 187, 91, 92, 93, 94, 95, 96, 97, 98, 99, 100, 101, 102, 103, 188, 189, 190, 28, 191, 74, 83, 192, 193, 194, 79, 80, 81, 82, 84, 85, 86, 87, 88, 89, 69, 68, 90, 239, 240, 241, 242, 243, 244, 245, 246, 247, 248, 249, 250, 251, 252, 253, 254, 255, 256, 257, 258, 259, 260, 261, 262, 263, 264, 265, 273, 274, 275, 276, 277, 278, 279, 280, 281, 282, 283, 284, 285, 286, 287, 288, 289, 290, 291, 301, 302, 266, 267, 268, 269, 270, 303, 304, 305, 306, 307, 292, 293, 294, 295, 296, 297, 298, 299, 300] (by decide +kernel) (by decide +kernel)
set_option maxRecDepth 20000 in
theorem gX11_correct_X11_bathGap : GoodIn wsX11_correct (wsV RX11 324 RX11 yX11_bathGap wsX11_bathGap) := goodIn_app (goodIn_of _ (by decide +kernel)) ggX11_correct_X11_bathGap
set_option maxRecDepth 20000 in
theorem ggX11_correct_X8_setBound : GoodIn wsX11_correct wsX8_setBound := goodIn_r _ [198, 199, 200, 201, 39, 202, 47, 203, 204, 45, 205, 206, 207, 129, 130, 131, 132, 59, 133, 134, 135, 136, 137, 138, 43, 273, 274, 275, 276, 277, 278, 279, 280, 281, 282, 283, 284, 285, 286, 287, 288, 289, 290, 291] (by decide +kernel) (by decide +kernel)
set_option maxRecDepth 20000 in
theorem gX11_correct_X8_setBound : GoodIn wsX11_correct (wsV RX11 328 RX8 yX8_setBound wsX8_setBound) := goodIn_app (goodIn_of _ (by decide +kernel)) ggX11_correct_X8_setBound
set_option maxRecDepth 20000 in
theorem ggX11_correct_X8_advance : GoodIn wsX11_correct wsX8_advance := goodIn_r _ [211, 45, 138, 60, 133, 212, 213, 214, 39, 215, 41, 42, 216, 217, 218, 219, 220, 221, 222, 223, 61, 44, 273, 274, 275, 276, 277, 278, 279, 280, 281, 282, 283, 284, 285, 286, 287, 288, 289, 290, 291] (by decide +kernel) (by decide +kernel)
set_option maxRecDepth 20000 in
theorem gX11_correct_X8_advance : GoodIn wsX11_correct (wsV RX11 274 RX8 yX8_advance wsX8_advance) := goodIn_app (goodIn_of _ (by decide +kernel)) ggX11_correct_X8_advance
set_option maxRecDepth 20000 in
theorem ggX11_correct_X8_judge : GoodIn wsX11_correct wsX8_judge := goodIn_r _ [227, 46, 47, 203, 204, 199, 200, 201, 39, 202, 45, 205, 206, 207, 129, 130, 131, 132, 59, 133, 134, 135, 136, 137, 138, 43, 273, 274, 275, 276, 277, 278, 279, 280, 281, 282, 283, 284, 285, 286, 287, 288, 289, 290, 291] (by decide +kernel) (by decide +kernel)
set_option maxRecDepth 20000 in
theorem gX11_correct_X8_judge : GoodIn wsX11_correct (wsV RX11 332 RX8 yX8_judge wsX8_judge) := goodIn_app (goodIn_of _ (by decide +kernel)) ggX11_correct_X8_judge
set_option maxRecDepth 20000 in
theorem ggX11_correct_X8_end : GoodIn wsX11_correct wsX8_end := goodIn_r _ [231, 46, 232, 233, 234, 209, 210, 39, 211, 45, 138, 60, 133, 212, 213, 214, 215, 41, 42, 216, 217, 218, 219, 220, 221, 222, 223, 61, 44, 273, 274, 275, 276, 277, 278, 279, 280, 281, 282, 283, 284, 285, 286, 287, 288, 289, 290, 291] (by decide +kernel) (by decide +kernel)
set_option maxRecDepth 20000 in
theorem gX11_correct_X8_end : GoodIn wsX11_correct (wsV RX11 277 RX8 yX8_end wsX8_end) := goodIn_app (goodIn_of _ (by decide +kernel)) ggX11_correct_X8_end
set_option maxRecDepth 20000 in
theorem ggX11_correct_X11_accept : GoodIn wsX11_correct wsX11_accept := goodIn_r _ [238, 25, 239, 240, 241, 242, 243, 244, 245, 246, 247, 248, 249, 250, 251, 252, 253, 254, 255, 256, 257, 258] (by decide +kernel) (by decide +kernel)
set_option maxRecDepth 20000 in
theorem gX11_correct_X11_accept : GoodIn wsX11_correct (wsV RX11 173 RX11 yX11_accept wsX11_accept) := goodIn_app (goodIn_of _ (by decide +kernel)) ggX11_correct_X11_accept
theorem dX11_correct_0 : decode cX11_correct 0 = .ok (.aload_n 0, 1) := by decide +kernel
theorem dX11_correct_1 : decode cX11_correct 1 = .ok (.iconst 5, 1) := by decide +kernel
theorem dX11_correct_2 : decode cX11_correct 2 = .ok (.iload_n 1, 1) := by decide +kernel
theorem dX11_correct_3 : decode cX11_correct 3 = .ok (.invokevirtual 142, 3) := by decide +kernel
theorem dX11_correct_6 : decode cX11_correct 6 = .ok (.ifCond .eq 12, 3) := by decide +kernel
theorem dX11_correct_9 : decode cX11_correct 9 = .ok (.aload_n 0, 1) := by decide +kernel
theorem dX11_correct_10 : decode cX11_correct 10 = .ok (.iconst 0, 1) := by decide +kernel
theorem dX11_correct_11 : decode cX11_correct 11 = .ok (.iload_n 2, 1) := by decide +kernel
theorem dX11_correct_12 : decode cX11_correct 12 = .ok (.invokevirtual 142, 3) := by decide +kernel
theorem dX11_correct_15 : decode cX11_correct 15 = .ok (.ifCond .ne 9, 3) := by decide +kernel
theorem dX11_correct_18 : decode cX11_correct 18 = .ok (.aload_n 0, 1) := by decide +kernel
theorem dX11_correct_19 : decode cX11_correct 19 = .ok (.iconst 2, 1) := by decide +kernel
theorem dX11_correct_20 : decode cX11_correct 20 = .ok (.invokevirtual 128, 3) := by decide +kernel
theorem dX11_correct_23 : decode cX11_correct 23 = .ok (.ireturn, 1) := by decide +kernel
theorem dX11_correct_24 : decode cX11_correct 24 = .ok (.iload_n 3, 1) := by decide +kernel
theorem dX11_correct_25 : decode cX11_correct 25 = .ok (.iload 4, 2) := by decide +kernel
theorem dX11_correct_27 : decode cX11_correct 27 = .ok (.invokestatic 222, 3) := by decide +kernel
theorem dX11_correct_30 : decode cX11_correct 30 = .ok (.ifCond .eq 13, 3) := by decide +kernel
theorem dX11_correct_33 : decode cX11_correct 33 = .ok (.iload 5, 2) := by decide +kernel
theorem dX11_correct_35 : decode cX11_correct 35 = .ok (.iload 6, 2) := by decide +kernel
theorem dX11_correct_37 : decode cX11_correct 37 = .ok (.invokestatic 263, 3) := by decide +kernel
theorem dX11_correct_40 : decode cX11_correct 40 = .ok (.ifCond .ne 9, 3) := by decide +kernel
theorem dX11_correct_43 : decode cX11_correct 43 = .ok (.aload_n 0, 1) := by decide +kernel
theorem dX11_correct_44 : decode cX11_correct 44 = .ok (.iconst 3, 1) := by decide +kernel
theorem dX11_correct_45 : decode cX11_correct 45 = .ok (.invokevirtual 128, 3) := by decide +kernel
theorem dX11_correct_48 : decode cX11_correct 48 = .ok (.ireturn, 1) := by decide +kernel
theorem dX11_correct_49 : decode cX11_correct 49 = .ok (.aload_n 0, 1) := by decide +kernel
theorem dX11_correct_50 : decode cX11_correct 50 = .ok (.getfield 55, 3) := by decide +kernel
theorem dX11_correct_53 : decode cX11_correct 53 = .ok (.iload_n 1, 1) := by decide +kernel
theorem dX11_correct_54 : decode cX11_correct 54 = .ok (.aaload, 1) := by decide +kernel
theorem dX11_correct_55 : decode cX11_correct 55 = .ok (.astore 7, 2) := by decide +kernel
theorem dX11_correct_57 : decode cX11_correct 57 = .ok (.aload_n 0, 1) := by decide +kernel
theorem dX11_correct_58 : decode cX11_correct 58 = .ok (.getfield 93, 3) := by decide +kernel
theorem dX11_correct_61 : decode cX11_correct 61 = .ok (.iconst 2, 1) := by decide +kernel
theorem dX11_correct_62 : decode cX11_correct 62 = .ok (.iload 5, 2) := by decide +kernel
theorem dX11_correct_64 : decode cX11_correct 64 = .ok (.bipush 8, 2) := by decide +kernel
theorem dX11_correct_66 : decode cX11_correct 66 = .ok (.aload 7, 2) := by decide +kernel
theorem dX11_correct_68 : decode cX11_correct 68 = .ok (.getfield 313, 3) := by decide +kernel
theorem dX11_correct_71 : decode cX11_correct 71 = .ok (.isub, 1) := by decide +kernel
theorem dX11_correct_72 : decode cX11_correct 72 = .ok (.invokevirtual 266, 3) := by decide +kernel
theorem dX11_correct_75 : decode cX11_correct 75 = .ok (.iconst 0, 1) := by decide +kernel
theorem dX11_correct_76 : decode cX11_correct 76 = .ok (.istore 8, 2) := by decide +kernel
theorem dX11_correct_78 : decode cX11_correct 78 = .ok (.iload 8, 2) := by decide +kernel
theorem dX11_correct_80 : decode cX11_correct 80 = .ok (.aload_n 0, 1) := by decide +kernel
theorem dX11_correct_81 : decode cX11_correct 81 = .ok (.getfield 20, 3) := by decide +kernel
theorem dX11_correct_84 : decode cX11_correct 84 = .ok (.iconst 4, 1) := by decide +kernel
theorem dX11_correct_85 : decode cX11_correct 85 = .ok (.iaload, 1) := by decide +kernel
theorem dX11_correct_86 : decode cX11_correct 86 = .ok (.if_icmp .ge 65, 3) := by decide +kernel
theorem dX11_correct_89 : decode cX11_correct 89 = .ok (.iload 6, 2) := by decide +kernel
theorem dX11_correct_91 : decode cX11_correct 91 = .ok (.ldc 150, 2) := by decide +kernel
theorem dX11_correct_93 : decode cX11_correct 93 = .ok (.aload_n 0, 1) := by decide +kernel
theorem dX11_correct_94 : decode cX11_correct 94 = .ok (.getfield 49, 3) := by decide +kernel
theorem dX11_correct_97 : decode cX11_correct 97 = .ok (.iload 8, 2) := by decide +kernel
theorem dX11_correct_99 : decode cX11_correct 99 = .ok (.aaload, 1) := by decide +kernel
theorem dX11_correct_100 : decode cX11_correct 100 = .ok (.getfield 303, 3) := by decide +kernel
theorem dX11_correct_103 : decode cX11_correct 103 = .ok (.sipush 1000, 3) := by decide +kernel
theorem dX11_correct_106 : decode cX11_correct 106 = .ok (.idiv, 1) := by decide +kernel
theorem dX11_correct_107 : decode cX11_correct 107 = .ok (.invokestatic 316, 3) := by decide +kernel
theorem dX11_correct_110 : decode cX11_correct 110 = .ok (.iload 5, 2) := by decide +kernel
theorem dX11_correct_112 : decode cX11_correct 112 = .ok (.idiv, 1) := by decide +kernel
theorem dX11_correct_113 : decode cX11_correct 113 = .ok (.invokestatic 316, 3) := by decide +kernel
theorem dX11_correct_116 : decode cX11_correct 116 = .ok (.istore 9, 2) := by decide +kernel
theorem dX11_correct_118 : decode cX11_correct 118 = .ok (.aload_n 0, 1) := by decide +kernel
theorem dX11_correct_119 : decode cX11_correct 119 = .ok (.getfield 93, 3) := by decide +kernel
theorem dX11_correct_122 : decode cX11_correct 122 = .ok (.iload 8, 2) := by decide +kernel
theorem dX11_correct_124 : decode cX11_correct 124 = .ok (.iload 9, 2) := by decide +kernel
theorem dX11_correct_126 : decode cX11_correct 126 = .ok (.aload 7, 2) := by decide +kernel
theorem dX11_correct_128 : decode cX11_correct 128 = .ok (.iload 8, 2) := by decide +kernel
theorem dX11_correct_130 : decode cX11_correct 130 = .ok (.invokevirtual 321, 3) := by decide +kernel
theorem dX11_correct_133 : decode cX11_correct 133 = .ok (.iconst (-1), 1) := by decide +kernel
theorem dX11_correct_134 : decode cX11_correct 134 = .ok (.if_icmp .ne 7, 3) := by decide +kernel
theorem dX11_correct_137 : decode cX11_correct 137 = .ok (.iconst 1, 1) := by decide +kernel
theorem dX11_correct_138 : decode cX11_correct 138 = .ok (.goto 4, 3) := by decide +kernel
theorem dX11_correct_141 : decode cX11_correct 141 = .ok (.iconst 0, 1) := by decide +kernel
theorem dX11_correct_142 : decode cX11_correct 142 = .ok (.invokevirtual 268, 3) := by decide +kernel
theorem dX11_correct_145 : decode cX11_correct 145 = .ok (.iinc 8 1, 3) := by decide +kernel
theorem dX11_correct_148 : decode cX11_correct 148 = .ok (.goto (-70), 3) := by decide +kernel
theorem dX11_correct_151 : decode cX11_correct 151 = .ok (.aload_n 0, 1) := by decide +kernel
theorem dX11_correct_152 : decode cX11_correct 152 = .ok (.getfield 71, 3) := by decide +kernel
theorem dX11_correct_155 : decode cX11_correct 155 = .ok (.iload_n 3, 1) := by decide +kernel
theorem dX11_correct_156 : decode cX11_correct 156 = .ok (.iload 4, 2) := by decide +kernel
theorem dX11_correct_158 : decode cX11_correct 158 = .ok (.invokevirtual 225, 3) := by decide +kernel
theorem dX11_correct_161 : decode cX11_correct 161 = .ok (.aload_n 0, 1) := by decide +kernel
theorem dX11_correct_162 : decode cX11_correct 162 = .ok (.getfield 71, 3) := by decide +kernel
theorem dX11_correct_165 : decode cX11_correct 165 = .ok (.aload_n 0, 1) := by decide +kernel
theorem dX11_correct_166 : decode cX11_correct 166 = .ok (.getfield 26, 3) := by decide +kernel
theorem dX11_correct_169 : decode cX11_correct 169 = .ok (.iload_n 2, 1) := by decide +kernel
theorem dX11_correct_170 : decode cX11_correct 170 = .ok (.aaload, 1) := by decide +kernel
theorem dX11_correct_171 : decode cX11_correct 171 = .ok (.getfield 132, 3) := by decide +kernel
theorem dX11_correct_174 : decode cX11_correct 174 = .ok (.invokevirtual 243, 3) := by decide +kernel
theorem dX11_correct_177 : decode cX11_correct 177 = .ok (.aload_n 0, 1) := by decide +kernel
theorem dX11_correct_178 : decode cX11_correct 178 = .ok (.getfield 93, 3) := by decide +kernel
theorem dX11_correct_181 : decode cX11_correct 181 = .ok (.aload_n 0, 1) := by decide +kernel
theorem dX11_correct_182 : decode cX11_correct 182 = .ok (.aload 7, 2) := by decide +kernel
theorem dX11_correct_184 : decode cX11_correct 184 = .ok (.invokevirtual 324, 3) := by decide +kernel
theorem dX11_correct_187 : decode cX11_correct 187 = .ok (.invokevirtual 328, 3) := by decide +kernel
theorem dX11_correct_190 : decode cX11_correct 190 = .ok (.iconst 0, 1) := by decide +kernel
theorem dX11_correct_191 : decode cX11_correct 191 = .ok (.istore 8, 2) := by decide +kernel
theorem dX11_correct_193 : decode cX11_correct 193 = .ok (.iload 8, 2) := by decide +kernel
theorem dX11_correct_195 : decode cX11_correct 195 = .ok (.sipush 1000, 3) := by decide +kernel
theorem dX11_correct_198 : decode cX11_correct 198 = .ok (.if_icmp .ge 33, 3) := by decide +kernel
theorem dX11_correct_201 : decode cX11_correct 201 = .ok (.aload_n 0, 1) := by decide +kernel
theorem dX11_correct_202 : decode cX11_correct 202 = .ok (.getfield 93, 3) := by decide +kernel
theorem dX11_correct_205 : decode cX11_correct 205 = .ok (.invokevirtual 274, 3) := by decide +kernel
theorem dX11_correct_208 : decode cX11_correct 208 = .ok (.ifCond .eq 23, 3) := by decide +kernel
theorem dX11_correct_211 : decode cX11_correct 211 = .ok (.aload_n 0, 1) := by decide +kernel
theorem dX11_correct_212 : decode cX11_correct 212 = .ok (.getfield 93, 3) := by decide +kernel
theorem dX11_correct_215 : decode cX11_correct 215 = .ok (.aload_n 0, 1) := by decide +kernel
theorem dX11_correct_216 : decode cX11_correct 216 = .ok (.aload 7, 2) := by decide +kernel
theorem dX11_correct_218 : decode cX11_correct 218 = .ok (.invokevirtual 324, 3) := by decide +kernel
theorem dX11_correct_221 : decode cX11_correct 221 = .ok (.lconst 0, 1) := by decide +kernel
theorem dX11_correct_222 : decode cX11_correct 222 = .ok (.invokevirtual 332, 3) := by decide +kernel
theorem dX11_correct_225 : decode cX11_correct 225 = .ok (.iinc 8 1, 3) := by decide +kernel
theorem dX11_correct_228 : decode cX11_correct 228 = .ok (.goto (-35), 3) := by decide +kernel
theorem dX11_correct_231 : decode cX11_correct 231 = .ok (.aload_n 0, 1) := by decide +kernel
theorem dX11_correct_232 : decode cX11_correct 232 = .ok (.getfield 93, 3) := by decide +kernel
theorem dX11_correct_235 : decode cX11_correct 235 = .ok (.invokevirtual 277, 3) := by decide +kernel
theorem dX11_correct_238 : decode cX11_correct 238 = .ok (.aload_n 0, 1) := by decide +kernel
theorem dX11_correct_239 : decode cX11_correct 239 = .ok (.invokevirtual 173, 3) := by decide +kernel
theorem dX11_correct_242 : decode cX11_correct 242 = .ok (.pop, 1) := by decide +kernel
theorem dX11_correct_243 : decode cX11_correct 243 = .ok (.aload_n 0, 1) := by decide +kernel
theorem dX11_correct_244 : decode cX11_correct 244 = .ok (.getfield 93, 3) := by decide +kernel
theorem dX11_correct_247 : decode cX11_correct 247 = .ok (.getfield 280, 3) := by decide +kernel
theorem dX11_correct_250 : decode cX11_correct 250 = .ok (.ireturn, 1) := by decide +kernel
set_option maxRecDepth 20000 in
theorem ggX11_addition_X8_resultOf : GoodIn wsX11_addition wsX8_resultOf := goodIn_r _ [6, 7, 8, 9, 10, 11, 12, 33, 34, 35, 36, 37, 38, 39, 40, 41, 42, 43, 44, 45, 46, 47, 48, 49, 50, 51] (by decide +kernel) (by decide +kernel)
set_option maxRecDepth 20000 in
theorem gX11_addition_X8_resultOf : GoodIn wsX11_addition (wsV RX11 283 RX8 yX8_resultOf wsX8_resultOf) := goodIn_app (goodIn_of _ (by decide +kernel)) ggX11_addition_X8_resultOf
theorem dX11_addition_0 : decode cX11_addition 0 = .ok (.aload_n 0, 1) := by decide +kernel
theorem dX11_addition_1 : decode cX11_addition 1 = .ok (.getfield 93, 3) := by decide +kernel
theorem dX11_addition_4 : decode cX11_addition 4 = .ok (.iload_n 1, 1) := by decide +kernel
theorem dX11_addition_5 : decode cX11_addition 5 = .ok (.invokevirtual 283, 3) := by decide +kernel
theorem dX11_addition_8 : decode cX11_addition 8 = .ok (.ireturn, 1) := by decide +kernel
set_option maxRecDepth 20000 in
theorem ggX11_measured_X11_isThere : GoodIn wsX11_measured wsX11_isThere := goodIn_r _ [10, 11, 41, 42, 43, 44, 45, 46, 47, 48, 49, 50, 51, 52, 53, 54, 55, 56, 57, 58, 59, 60] (by decide +kernel) (by decide +kernel)
set_option maxRecDepth 20000 in
theorem gX11_measured_X11_isThere : GoodIn wsX11_measured (wsV RX11 142 RX11 yX11_isThere wsX11_isThere) := goodIn_app (goodIn_of _ (by decide +kernel)) ggX11_measured_X11_isThere
set_option maxRecDepth 20000 in
theorem ggX11_measured_X11_denied : GoodIn wsX11_measured wsX11_denied := goodIn_r _ [15, 16, 41, 42, 43, 44, 45, 46, 47, 48, 49, 50, 51, 52, 53, 54, 55, 56, 57, 58, 59, 60] (by decide +kernel) (by decide +kernel)
set_option maxRecDepth 20000 in
theorem gX11_measured_X11_denied : GoodIn wsX11_measured (wsV RX11 177 RX11 yX11_denied wsX11_denied) := goodIn_app (goodIn_of _ (by decide +kernel)) ggX11_measured_X11_denied
set_option maxRecDepth 20000 in
theorem ggX11_measured_X0_note : GoodIn wsX11_measured wsX0_note := goodIn_r _ [21, 22, 23, 24, 25, 26, 27, 28, 29, 68, 69, 70, 71] (by decide +kernel) (by decide +kernel)
set_option maxRecDepth 20000 in
theorem gX11_measured_X0_note : GoodIn wsX11_measured (wsV RX11 169 RX0 yX0_note wsX0_note) := goodIn_app (goodIn_of _ (by decide +kernel)) ggX11_measured_X0_note
set_option maxRecDepth 20000 in
theorem ggX11_measured_X11_copyRow : GoodIn wsX11_measured wsX11_copyRow := goodIn_r _ [32, 33, 34, 35, 36] (by decide +kernel) (by decide +kernel)
set_option maxRecDepth 20000 in
theorem gX11_measured_X11_copyRow : GoodIn wsX11_measured (va_wsS RX11 135 yX11_copyRow wsX11_copyRow) := goodIn_app (goodIn_of _ (by decide +kernel)) ggX11_measured_X11_copyRow
set_option maxRecDepth 20000 in
theorem ggX11_measured_X11_accept : GoodIn wsX11_measured wsX11_accept := goodIn_r _ [40, 16, 41, 42, 43, 44, 45, 46, 47, 48, 49, 50, 51, 52, 53, 54, 55, 56, 57, 58, 59, 60] (by decide +kernel) (by decide +kernel)
set_option maxRecDepth 20000 in
theorem gX11_measured_X11_accept : GoodIn wsX11_measured (wsV RX11 173 RX11 yX11_accept wsX11_accept) := goodIn_app (goodIn_of _ (by decide +kernel)) ggX11_measured_X11_accept
theorem dX11_measured_0 : decode cX11_measured 0 = .ok (.aload_n 0, 1) := by decide +kernel
theorem dX11_measured_1 : decode cX11_measured 1 = .ok (.iconst 5, 1) := by decide +kernel
theorem dX11_measured_2 : decode cX11_measured 2 = .ok (.iload_n 1, 1) := by decide +kernel
theorem dX11_measured_3 : decode cX11_measured 3 = .ok (.invokevirtual 142, 3) := by decide +kernel
theorem dX11_measured_6 : decode cX11_measured 6 = .ok (.ifCond .ne 9, 3) := by decide +kernel
theorem dX11_measured_9 : decode cX11_measured 9 = .ok (.aload_n 0, 1) := by decide +kernel
theorem dX11_measured_10 : decode cX11_measured 10 = .ok (.iconst 2, 1) := by decide +kernel
theorem dX11_measured_11 : decode cX11_measured 11 = .ok (.invokevirtual 177, 3) := by decide +kernel
theorem dX11_measured_14 : decode cX11_measured 14 = .ok (.ireturn, 1) := by decide +kernel
theorem dX11_measured_15 : decode cX11_measured 15 = .ok (.aload_n 0, 1) := by decide +kernel
theorem dX11_measured_16 : decode cX11_measured 16 = .ok (.getfield 55, 3) := by decide +kernel
theorem dX11_measured_19 : decode cX11_measured 19 = .ok (.iload_n 1, 1) := by decide +kernel
theorem dX11_measured_20 : decode cX11_measured 20 = .ok (.aaload, 1) := by decide +kernel
theorem dX11_measured_21 : decode cX11_measured 21 = .ok (.astore_n 2, 1) := by decide +kernel
theorem dX11_measured_22 : decode cX11_measured 22 = .ok (.aload_n 0, 1) := by decide +kernel
theorem dX11_measured_23 : decode cX11_measured 23 = .ok (.getfield 106, 3) := by decide +kernel
theorem dX11_measured_26 : decode cX11_measured 26 = .ok (.bipush 9, 2) := by decide +kernel
theorem dX11_measured_28 : decode cX11_measured 28 = .ok (.iload_n 1, 1) := by decide +kernel
theorem dX11_measured_29 : decode cX11_measured 29 = .ok (.aload_n 2, 1) := by decide +kernel
theorem dX11_measured_30 : decode cX11_measured 30 = .ok (.getfield 336, 3) := by decide +kernel
theorem dX11_measured_33 : decode cX11_measured 33 = .ok (.ifCond .eq 7, 3) := by decide +kernel
theorem dX11_measured_36 : decode cX11_measured 36 = .ok (.iconst 1, 1) := by decide +kernel
theorem dX11_measured_37 : decode cX11_measured 37 = .ok (.goto 4, 3) := by decide +kernel
theorem dX11_measured_40 : decode cX11_measured 40 = .ok (.iconst 0, 1) := by decide +kernel
theorem dX11_measured_41 : decode cX11_measured 41 = .ok (.iconst 0, 1) := by decide +kernel
theorem dX11_measured_42 : decode cX11_measured 42 = .ok (.invokevirtual 169, 3) := by decide +kernel
theorem dX11_measured_45 : decode cX11_measured 45 = .ok (.astore_n 3, 1) := by decide +kernel
theorem dX11_measured_46 : decode cX11_measured 46 = .ok (.aload_n 2, 1) := by decide +kernel
theorem dX11_measured_47 : decode cX11_measured 47 = .ok (.getfield 339, 3) := by decide +kernel
theorem dX11_measured_50 : decode cX11_measured 50 = .ok (.aload_n 3, 1) := by decide +kernel
theorem dX11_measured_51 : decode cX11_measured 51 = .ok (.invokestatic 135, 3) := by decide +kernel
theorem dX11_measured_54 : decode cX11_measured 54 = .ok (.aload_n 0, 1) := by decide +kernel
theorem dX11_measured_55 : decode cX11_measured 55 = .ok (.getfield 9, 3) := by decide +kernel
theorem dX11_measured_58 : decode cX11_measured 58 = .ok (.aload_n 2, 1) := by decide +kernel
theorem dX11_measured_59 : decode cX11_measured 59 = .ok (.getfield 339, 3) := by decide +kernel
theorem dX11_measured_62 : decode cX11_measured 62 = .ok (.invokestatic 135, 3) := by decide +kernel
theorem dX11_measured_65 : decode cX11_measured 65 = .ok (.aload_n 2, 1) := by decide +kernel
theorem dX11_measured_66 : decode cX11_measured 66 = .ok (.iconst 1, 1) := by decide +kernel
theorem dX11_measured_67 : decode cX11_measured 67 = .ok (.putfield 336, 3) := by decide +kernel
theorem dX11_measured_70 : decode cX11_measured 70 = .ok (.aload_n 0, 1) := by decide +kernel
theorem dX11_measured_71 : decode cX11_measured 71 = .ok (.invokevirtual 173, 3) := by decide +kernel
theorem dX11_measured_74 : decode cX11_measured 74 = .ok (.ireturn, 1) := by decide +kernel
set_option maxRecDepth 20000 in
theorem ggX11_passes_X11_isThere : GoodIn wsX11_passes wsX11_isThere := goodIn_r _ [9, 10, 68, 69, 70, 71, 72, 73, 74, 75, 76, 77, 78, 79, 80, 81, 82, 83, 84, 85, 86, 87] (by decide +kernel) (by decide +kernel)
set_option maxRecDepth 20000 in
theorem gX11_passes_X11_isThere : GoodIn wsX11_passes (wsV RX11 142 RX11 yX11_isThere wsX11_isThere) := goodIn_app (goodIn_of _ (by decide +kernel)) ggX11_passes_X11_isThere
set_option maxRecDepth 20000 in
theorem ggX11_passes_X11_sideOf : GoodIn wsX11_passes wsX11_sideOf := goodIn_r _ [14, 15, 16, 17, 18, 19, 20, 21, 22, 23, 24, 25, 26, 27, 28, 29, 30, 31, 32, 33, 34, 35, 36, 37, 38, 39, 40, 41, 42, 43, 44, 45, 46, 47, 48, 49, 50, 51, 52, 53, 54, 55, 56, 57, 58, 59, 60, 61, 62, 63, 64, 65, 66, 67, 68, 69, 70, 71, 72, 73, 74, 75, 76, 77, 78, 79, 80, 81, 82, 83, 84, 85, 86, 87, 95, 96, 97, 98, 99, 100, 101, 102, 103, 104, 105, 106, 107, 108] (by decide +kernel) (by decide +kernel)
set_option maxRecDepth 20000 in
theorem gX11_passes_X11_sideOf : GoodIn wsX11_passes (wsV RX11 259 RX11 yX11_sideOf wsX11_sideOf) := goodIn_app (goodIn_of _ (by decide +kernel)) ggX11_passes_X11_sideOf
theorem dX11_passes_0 : decode cX11_passes 0 = .ok (.aload_n 0, 1) := by decide +kernel
theorem dX11_passes_1 : decode cX11_passes 1 = .ok (.iconst 5, 1) := by decide +kernel
theorem dX11_passes_2 : decode cX11_passes 2 = .ok (.iload_n 1, 1) := by decide +kernel
theorem dX11_passes_3 : decode cX11_passes 3 = .ok (.invokevirtual 142, 3) := by decide +kernel
theorem dX11_passes_6 : decode cX11_passes 6 = .ok (.ifCond .eq 24, 3) := by decide +kernel
theorem dX11_passes_9 : decode cX11_passes 9 = .ok (.aload_n 0, 1) := by decide +kernel
theorem dX11_passes_10 : decode cX11_passes 10 = .ok (.iconst 3, 1) := by decide +kernel
theorem dX11_passes_11 : decode cX11_passes 11 = .ok (.iload_n 2, 1) := by decide +kernel
theorem dX11_passes_12 : decode cX11_passes 12 = .ok (.invokevirtual 142, 3) := by decide +kernel
theorem dX11_passes_15 : decode cX11_passes 15 = .ok (.ifCond .eq 15, 3) := by decide +kernel
theorem dX11_passes_18 : decode cX11_passes 18 = .ok (.aload_n 0, 1) := by decide +kernel
theorem dX11_passes_19 : decode cX11_passes 19 = .ok (.getfield 55, 3) := by decide +kernel
theorem dX11_passes_22 : decode cX11_passes 22 = .ok (.iload_n 1, 1) := by decide +kernel
theorem dX11_passes_23 : decode cX11_passes 23 = .ok (.aaload, 1) := by decide +kernel
theorem dX11_passes_24 : decode cX11_passes 24 = .ok (.getfield 336, 3) := by decide +kernel
theorem dX11_passes_27 : decode cX11_passes 27 = .ok (.ifCond .ne 5, 3) := by decide +kernel
theorem dX11_passes_30 : decode cX11_passes 30 = .ok (.iconst (-1), 1) := by decide +kernel
theorem dX11_passes_31 : decode cX11_passes 31 = .ok (.ireturn, 1) := by decide +kernel
theorem dX11_passes_32 : decode cX11_passes 32 = .ok (.aload_n 0, 1) := by decide +kernel
theorem dX11_passes_33 : decode cX11_passes 33 = .ok (.aload_n 0, 1) := by decide +kernel
theorem dX11_passes_34 : decode cX11_passes 34 = .ok (.getfield 43, 3) := by decide +kernel
theorem dX11_passes_37 : decode cX11_passes 37 = .ok (.iload_n 2, 1) := by decide +kernel
theorem dX11_passes_38 : decode cX11_passes 38 = .ok (.aaload, 1) := by decide +kernel
theorem dX11_passes_39 : decode cX11_passes 39 = .ok (.aload_n 0, 1) := by decide +kernel
theorem dX11_passes_40 : decode cX11_passes 40 = .ok (.getfield 55, 3) := by decide +kernel
theorem dX11_passes_43 : decode cX11_passes 43 = .ok (.iload_n 1, 1) := by decide +kernel
theorem dX11_passes_44 : decode cX11_passes 44 = .ok (.aaload, 1) := by decide +kernel
theorem dX11_passes_45 : decode cX11_passes 45 = .ok (.getfield 339, 3) := by decide +kernel
theorem dX11_passes_48 : decode cX11_passes 48 = .ok (.invokevirtual 259, 3) := by decide +kernel
theorem dX11_passes_51 : decode cX11_passes 51 = .ok (.ifCond .ne 7, 3) := by decide +kernel
theorem dX11_passes_54 : decode cX11_passes 54 = .ok (.iconst 0, 1) := by decide +kernel
theorem dX11_passes_55 : decode cX11_passes 55 = .ok (.goto 4, 3) := by decide +kernel
theorem dX11_passes_58 : decode cX11_passes 58 = .ok (.iconst 1, 1) := by decide +kernel
theorem dX11_passes_59 : decode cX11_passes 59 = .ok (.ireturn, 1) := by decide +kernel
set_option maxRecDepth 20000 in
theorem ggX11_told_X11_isThere : GoodIn wsX11_told wsX11_isThere := goodIn_r _ [8, 9, 40, 41, 42, 43, 44, 45, 46, 47, 48, 49, 50, 51, 52, 53, 54, 55, 56, 57, 58, 59] (by decide +kernel) (by decide +kernel)
set_option maxRecDepth 20000 in
theorem gX11_told_X11_isThere : GoodIn wsX11_told (wsV RX11 142 RX11 yX11_isThere wsX11_isThere) := goodIn_app (goodIn_of _ (by decide +kernel)) ggX11_told_X11_isThere
set_option maxRecDepth 20000 in
theorem ggX11_told_X4_tell : GoodIn wsX11_told wsX4_tell := goodIn_r _ [14, 15, 16, 17, 60, 61, 62, 63, 64] (by decide +kernel) (by decide +kernel)
set_option maxRecDepth 20000 in
theorem gX11_told_X4_tell : GoodIn wsX11_told (wsV RX11 342 RX4 yX4_tell wsX4_tell) := goodIn_app (goodIn_of _ (by decide +kernel)) ggX11_told_X4_tell
set_option maxRecDepth 20000 in
theorem ggX11_told_X1_tell : GoodIn wsX11_told wsX1_tell := goodIn_r _ [22, 23, 24, 25, 26, 27, 28, 29, 21, 30, 31, 65, 66, 67, 68, 69, 70, 71] (by decide +kernel) (by decide +kernel)
set_option maxRecDepth 20000 in
theorem gX11_told_X1_tell : GoodIn wsX11_told (wsV RX11 345 RX1 yX1_tell wsX1_tell) := goodIn_app (goodIn_of _ (by decide +kernel)) ggX11_told_X1_tell
set_option maxRecDepth 20000 in
theorem ggX11_told_X3_tell : GoodIn wsX11_told wsX3_tell := goodIn_r _ [36, 37, 38, 39, 72, 73, 74, 75, 76] (by decide +kernel) (by decide +kernel)
set_option maxRecDepth 20000 in
theorem gX11_told_X3_tell : GoodIn wsX11_told (wsV RX11 346 RX3 yX3_tell wsX3_tell) := goodIn_app (goodIn_of _ (by decide +kernel)) ggX11_told_X3_tell
theorem dX11_told_0 : decode cX11_told 0 = .ok (.iload_n 2, 1) := by decide +kernel
theorem dX11_told_1 : decode cX11_told 1 = .ok (.ifCond .lt 32, 3) := by decide +kernel
theorem dX11_told_4 : decode cX11_told 4 = .ok (.iload_n 2, 1) := by decide +kernel
theorem dX11_told_5 : decode cX11_told 5 = .ok (.iconst 3, 1) := by decide +kernel
theorem dX11_told_6 : decode cX11_told 6 = .ok (.if_icmp .gt 27, 3) := by decide +kernel
theorem dX11_told_9 : decode cX11_told 9 = .ok (.aload_n 0, 1) := by decide +kernel
theorem dX11_told_10 : decode cX11_told 10 = .ok (.iconst 4, 1) := by decide +kernel
theorem dX11_told_11 : decode cX11_told 11 = .ok (.iload_n 1, 1) := by decide +kernel
theorem dX11_told_12 : decode cX11_told 12 = .ok (.invokevirtual 142, 3) := by decide +kernel
theorem dX11_told_15 : decode cX11_told 15 = .ok (.ifCond .eq 16, 3) := by decide +kernel
theorem dX11_told_18 : decode cX11_told 18 = .ok (.aload_n 0, 1) := by decide +kernel
theorem dX11_told_19 : decode cX11_told 19 = .ok (.getfield 49, 3) := by decide +kernel
theorem dX11_told_22 : decode cX11_told 22 = .ok (.iload_n 1, 1) := by decide +kernel
theorem dX11_told_23 : decode cX11_told 23 = .ok (.aaload, 1) := by decide +kernel
theorem dX11_told_24 : decode cX11_told 24 = .ok (.iload_n 2, 1) := by decide +kernel
theorem dX11_told_25 : decode cX11_told 25 = .ok (.invokevirtual 342, 3) := by decide +kernel
theorem dX11_told_28 : decode cX11_told 28 = .ok (.goto 4, 3) := by decide +kernel
theorem dX11_told_31 : decode cX11_told 31 = .ok (.iconst (-1), 1) := by decide +kernel
theorem dX11_told_32 : decode cX11_told 32 = .ok (.ireturn, 1) := by decide +kernel
theorem dX11_told_33 : decode cX11_told 33 = .ok (.iload_n 2, 1) := by decide +kernel
theorem dX11_told_34 : decode cX11_told 34 = .ok (.iconst 4, 1) := by decide +kernel
theorem dX11_told_35 : decode cX11_told 35 = .ok (.if_icmp .lt 35, 3) := by decide +kernel
theorem dX11_told_38 : decode cX11_told 38 = .ok (.iload_n 2, 1) := by decide +kernel
theorem dX11_told_39 : decode cX11_told 39 = .ok (.bipush 8, 2) := by decide +kernel
theorem dX11_told_41 : decode cX11_told 41 = .ok (.if_icmp .gt 29, 3) := by decide +kernel
theorem dX11_told_44 : decode cX11_told 44 = .ok (.aload_n 0, 1) := by decide +kernel
theorem dX11_told_45 : decode cX11_told 45 = .ok (.iconst 5, 1) := by decide +kernel
theorem dX11_told_46 : decode cX11_told 46 = .ok (.iload_n 1, 1) := by decide +kernel
theorem dX11_told_47 : decode cX11_told 47 = .ok (.invokevirtual 142, 3) := by decide +kernel
theorem dX11_told_50 : decode cX11_told 50 = .ok (.ifCond .eq 18, 3) := by decide +kernel
theorem dX11_told_53 : decode cX11_told 53 = .ok (.aload_n 0, 1) := by decide +kernel
theorem dX11_told_54 : decode cX11_told 54 = .ok (.getfield 55, 3) := by decide +kernel
theorem dX11_told_57 : decode cX11_told 57 = .ok (.iload_n 1, 1) := by decide +kernel
theorem dX11_told_58 : decode cX11_told 58 = .ok (.aaload, 1) := by decide +kernel
theorem dX11_told_59 : decode cX11_told 59 = .ok (.iload_n 2, 1) := by decide +kernel
theorem dX11_told_60 : decode cX11_told 60 = .ok (.iconst 4, 1) := by decide +kernel
theorem dX11_told_61 : decode cX11_told 61 = .ok (.isub, 1) := by decide +kernel
theorem dX11_told_62 : decode cX11_told 62 = .ok (.invokevirtual 345, 3) := by decide +kernel
theorem dX11_told_65 : decode cX11_told 65 = .ok (.goto 4, 3) := by decide +kernel
theorem dX11_told_68 : decode cX11_told 68 = .ok (.iconst (-1), 1) := by decide +kernel
theorem dX11_told_69 : decode cX11_told 69 = .ok (.ireturn, 1) := by decide +kernel
theorem dX11_told_70 : decode cX11_told 70 = .ok (.iload_n 2, 1) := by decide +kernel
theorem dX11_told_71 : decode cX11_told 71 = .ok (.bipush 9, 2) := by decide +kernel
theorem dX11_told_73 : decode cX11_told 73 = .ok (.if_icmp .lt 36, 3) := by decide +kernel
theorem dX11_told_76 : decode cX11_told 76 = .ok (.iload_n 2, 1) := by decide +kernel
theorem dX11_told_77 : decode cX11_told 77 = .ok (.bipush 11, 2) := by decide +kernel
theorem dX11_told_79 : decode cX11_told 79 = .ok (.if_icmp .gt 30, 3) := by decide +kernel
theorem dX11_told_82 : decode cX11_told 82 = .ok (.aload_n 0, 1) := by decide +kernel
theorem dX11_told_83 : decode cX11_told 83 = .ok (.iconst 2, 1) := by decide +kernel
theorem dX11_told_84 : decode cX11_told 84 = .ok (.iload_n 1, 1) := by decide +kernel
theorem dX11_told_85 : decode cX11_told 85 = .ok (.invokevirtual 142, 3) := by decide +kernel
theorem dX11_told_88 : decode cX11_told 88 = .ok (.ifCond .eq 19, 3) := by decide +kernel
theorem dX11_told_91 : decode cX11_told 91 = .ok (.aload_n 0, 1) := by decide +kernel
theorem dX11_told_92 : decode cX11_told 92 = .ok (.getfield 37, 3) := by decide +kernel
theorem dX11_told_95 : decode cX11_told 95 = .ok (.iload_n 1, 1) := by decide +kernel
theorem dX11_told_96 : decode cX11_told 96 = .ok (.aaload, 1) := by decide +kernel
theorem dX11_told_97 : decode cX11_told 97 = .ok (.iload_n 2, 1) := by decide +kernel
theorem dX11_told_98 : decode cX11_told 98 = .ok (.bipush 9, 2) := by decide +kernel
theorem dX11_told_100 : decode cX11_told 100 = .ok (.isub, 1) := by decide +kernel
theorem dX11_told_101 : decode cX11_told 101 = .ok (.invokevirtual 346, 3) := by decide +kernel
theorem dX11_told_104 : decode cX11_told 104 = .ok (.goto 4, 3) := by decide +kernel
theorem dX11_told_107 : decode cX11_told 107 = .ok (.iconst (-1), 1) := by decide +kernel
theorem dX11_told_108 : decode cX11_told 108 = .ok (.ireturn, 1) := by decide +kernel
theorem dX11_told_109 : decode cX11_told 109 = .ok (.iconst (-1), 1) := by decide +kernel
theorem dX11_told_110 : decode cX11_told 110 = .ok (.ireturn, 1) := by decide +kernel
set_option maxRecDepth 20000 in
theorem ggX11_weighed_X11_isThere : GoodIn wsX11_weighed wsX11_isThere := goodIn_r _ [9, 10, 11, 12, 13, 14, 15, 16, 17, 18, 19, 20, 21, 22, 23, 24, 25, 26, 27, 28, 29, 30] (by decide +kernel) (by decide +kernel)
set_option maxRecDepth 20000 in
theorem gX11_weighed_X11_isThere : GoodIn wsX11_weighed (wsV RX11 142 RX11 yX11_isThere wsX11_isThere) := goodIn_app (goodIn_of _ (by decide +kernel)) ggX11_weighed_X11_isThere
theorem dX11_weighed_0 : decode cX11_weighed 0 = .ok (.aload_n 0, 1) := by decide +kernel
theorem dX11_weighed_1 : decode cX11_weighed 1 = .ok (.iconst 5, 1) := by decide +kernel
theorem dX11_weighed_2 : decode cX11_weighed 2 = .ok (.iload_n 1, 1) := by decide +kernel
theorem dX11_weighed_3 : decode cX11_weighed 3 = .ok (.invokevirtual 142, 3) := by decide +kernel
theorem dX11_weighed_6 : decode cX11_weighed 6 = .ok (.ifCond .eq 20, 3) := by decide +kernel
theorem dX11_weighed_9 : decode cX11_weighed 9 = .ok (.iload_n 2, 1) := by decide +kernel
theorem dX11_weighed_10 : decode cX11_weighed 10 = .ok (.ifCond .lt 16, 3) := by decide +kernel
theorem dX11_weighed_13 : decode cX11_weighed 13 = .ok (.iload_n 2, 1) := by decide +kernel
theorem dX11_weighed_14 : decode cX11_weighed 14 = .ok (.aload_n 0, 1) := by decide +kernel
theorem dX11_weighed_15 : decode cX11_weighed 15 = .ok (.getfield 55, 3) := by decide +kernel
theorem dX11_weighed_18 : decode cX11_weighed 18 = .ok (.iload_n 1, 1) := by decide +kernel
theorem dX11_weighed_19 : decode cX11_weighed 19 = .ok (.aaload, 1) := by decide +kernel
theorem dX11_weighed_20 : decode cX11_weighed 20 = .ok (.getfield 313, 3) := by decide +kernel
theorem dX11_weighed_23 : decode cX11_weighed 23 = .ok (.if_icmp .lt 5, 3) := by decide +kernel
theorem dX11_weighed_26 : decode cX11_weighed 26 = .ok (.iconst (-1), 1) := by decide +kernel
theorem dX11_weighed_27 : decode cX11_weighed 27 = .ok (.ireturn, 1) := by decide +kernel
theorem dX11_weighed_28 : decode cX11_weighed 28 = .ok (.iload_n 3, 1) := by decide +kernel
theorem dX11_weighed_29 : decode cX11_weighed 29 = .ok (.ifCond .eq 17, 3) := by decide +kernel
theorem dX11_weighed_32 : decode cX11_weighed 32 = .ok (.aload_n 0, 1) := by decide +kernel
theorem dX11_weighed_33 : decode cX11_weighed 33 = .ok (.getfield 55, 3) := by decide +kernel
theorem dX11_weighed_36 : decode cX11_weighed 36 = .ok (.iload_n 1, 1) := by decide +kernel
theorem dX11_weighed_37 : decode cX11_weighed 37 = .ok (.aaload, 1) := by decide +kernel
theorem dX11_weighed_38 : decode cX11_weighed 38 = .ok (.getfield 347, 3) := by decide +kernel
theorem dX11_weighed_41 : decode cX11_weighed 41 = .ok (.iload_n 2, 1) := by decide +kernel
theorem dX11_weighed_42 : decode cX11_weighed 42 = .ok (.iaload, 1) := by decide +kernel
theorem dX11_weighed_43 : decode cX11_weighed 43 = .ok (.goto 14, 3) := by decide +kernel
theorem dX11_weighed_46 : decode cX11_weighed 46 = .ok (.aload_n 0, 1) := by decide +kernel
theorem dX11_weighed_47 : decode cX11_weighed 47 = .ok (.getfield 55, 3) := by decide +kernel
theorem dX11_weighed_50 : decode cX11_weighed 50 = .ok (.iload_n 1, 1) := by decide +kernel
theorem dX11_weighed_51 : decode cX11_weighed 51 = .ok (.aaload, 1) := by decide +kernel
theorem dX11_weighed_52 : decode cX11_weighed 52 = .ok (.getfield 350, 3) := by decide +kernel
theorem dX11_weighed_55 : decode cX11_weighed 55 = .ok (.iload_n 2, 1) := by decide +kernel
theorem dX11_weighed_56 : decode cX11_weighed 56 = .ok (.iaload, 1) := by decide +kernel
theorem dX11_weighed_57 : decode cX11_weighed 57 = .ok (.ireturn, 1) := by decide +kernel
set_option maxRecDepth 20000 in
theorem ggX11_remeasure_X11_isThere : GoodIn wsX11_remeasure wsX11_isThere := goodIn_r _ [8, 9, 47, 48, 49, 50, 51, 52, 53, 54, 55, 56, 57, 58, 59, 60, 61, 62, 63, 64, 65, 66] (by decide +kernel) (by decide +kernel)
set_option maxRecDepth 20000 in
theorem gX11_remeasure_X11_isThere : GoodIn wsX11_remeasure (wsV RX11 142 RX11 yX11_isThere wsX11_isThere) := goodIn_app (goodIn_of _ (by decide +kernel)) ggX11_remeasure_X11_isThere
set_option maxRecDepth 20000 in
theorem ggX11_remeasure_X11_denied : GoodIn wsX11_remeasure wsX11_denied := goodIn_r _ [13, 14, 47, 48, 49, 50, 51, 52, 53, 54, 55, 56, 57, 58, 59, 60, 61, 62, 63, 64, 65, 66] (by decide +kernel) (by decide +kernel)
set_option maxRecDepth 20000 in
theorem gX11_remeasure_X11_denied : GoodIn wsX11_remeasure (wsV RX11 177 RX11 yX11_denied wsX11_denied) := goodIn_app (goodIn_of _ (by decide +kernel)) ggX11_remeasure_X11_denied
set_option maxRecDepth 20000 in
theorem ggX11_remeasure_X0_note : GoodIn wsX11_remeasure wsX0_note := goodIn_r _ [19, 20, 21, 22, 23, 24, 25, 26, 27, 67, 68, 69, 70] (by decide +kernel) (by decide +kernel)
set_option maxRecDepth 20000 in
theorem gX11_remeasure_X0_note : GoodIn wsX11_remeasure (wsV RX11 169 RX0 yX0_note wsX0_note) := goodIn_app (goodIn_of _ (by decide +kernel)) ggX11_remeasure_X0_note
set_option maxRecDepth 20000 in
theorem ggX11_remeasure_X2_keepIn : GoodIn wsX11_remeasure wsX2_keepIn := goodIn_r _ [32, 33, 34, 35, 36, 37, 38, 71, 72] (by decide +kernel) (by decide +kernel)
set_option maxRecDepth 20000 in
theorem gX11_remeasure_X2_keepIn : GoodIn wsX11_remeasure (wsV RX11 352 RX2 yX2_keepIn wsX2_keepIn) := goodIn_app (goodIn_of _ (by decide +kernel)) ggX11_remeasure_X2_keepIn
set_option maxRecDepth 20000 in
theorem ggX11_remeasure_X2_remeasureAs : GoodIn wsX11_remeasure wsX2_remeasureAs := goodIn_r _ [42, 38, 33, 71, 72] (by decide +kernel) (by decide +kernel)
set_option maxRecDepth 20000 in
theorem gX11_remeasure_X2_remeasureAs : GoodIn wsX11_remeasure (wsV RX11 355 RX2 yX2_remeasureAs wsX2_remeasureAs) := goodIn_app (goodIn_of _ (by decide +kernel)) ggX11_remeasure_X2_remeasureAs
set_option maxRecDepth 20000 in
theorem ggX11_remeasure_X11_accept : GoodIn wsX11_remeasure wsX11_accept := goodIn_r _ [46, 14, 47, 48, 49, 50, 51, 52, 53, 54, 55, 56, 57, 58, 59, 60, 61, 62, 63, 64, 65, 66] (by decide +kernel) (by decide +kernel)
set_option maxRecDepth 20000 in
theorem gX11_remeasure_X11_accept : GoodIn wsX11_remeasure (wsV RX11 173 RX11 yX11_accept wsX11_accept) := goodIn_app (goodIn_of _ (by decide +kernel)) ggX11_remeasure_X11_accept
theorem dX11_remeasure_0 : decode cX11_remeasure 0 = .ok (.aload_n 0, 1) := by decide +kernel
theorem dX11_remeasure_1 : decode cX11_remeasure 1 = .ok (.iconst 0, 1) := by decide +kernel
theorem dX11_remeasure_2 : decode cX11_remeasure 2 = .ok (.iload_n 1, 1) := by decide +kernel
theorem dX11_remeasure_3 : decode cX11_remeasure 3 = .ok (.invokevirtual 142, 3) := by decide +kernel
theorem dX11_remeasure_6 : decode cX11_remeasure 6 = .ok (.ifCond .ne 9, 3) := by decide +kernel
theorem dX11_remeasure_9 : decode cX11_remeasure 9 = .ok (.aload_n 0, 1) := by decide +kernel
theorem dX11_remeasure_10 : decode cX11_remeasure 10 = .ok (.iconst 2, 1) := by decide +kernel
theorem dX11_remeasure_11 : decode cX11_remeasure 11 = .ok (.invokevirtual 177, 3) := by decide +kernel
theorem dX11_remeasure_14 : decode cX11_remeasure 14 = .ok (.ireturn, 1) := by decide +kernel
theorem dX11_remeasure_15 : decode cX11_remeasure 15 = .ok (.aload_n 0, 1) := by decide +kernel
theorem dX11_remeasure_16 : decode cX11_remeasure 16 = .ok (.getfield 106, 3) := by decide +kernel
theorem dX11_remeasure_19 : decode cX11_remeasure 19 = .ok (.bipush 10, 2) := by decide +kernel
theorem dX11_remeasure_21 : decode cX11_remeasure 21 = .ok (.iload_n 1, 1) := by decide +kernel
theorem dX11_remeasure_22 : decode cX11_remeasure 22 = .ok (.iconst 0, 1) := by decide +kernel
theorem dX11_remeasure_23 : decode cX11_remeasure 23 = .ok (.iconst 0, 1) := by decide +kernel
theorem dX11_remeasure_24 : decode cX11_remeasure 24 = .ok (.invokevirtual 169, 3) := by decide +kernel
theorem dX11_remeasure_27 : decode cX11_remeasure 27 = .ok (.astore_n 2, 1) := by decide +kernel
theorem dX11_remeasure_28 : decode cX11_remeasure 28 = .ok (.aload_n 0, 1) := by decide +kernel
theorem dX11_remeasure_29 : decode cX11_remeasure 29 = .ok (.getfield 26, 3) := by decide +kernel
theorem dX11_remeasure_32 : decode cX11_remeasure 32 = .ok (.iload_n 1, 1) := by decide +kernel
theorem dX11_remeasure_33 : decode cX11_remeasure 33 = .ok (.aaload, 1) := by decide +kernel
theorem dX11_remeasure_34 : decode cX11_remeasure 34 = .ok (.aload_n 2, 1) := by decide +kernel
theorem dX11_remeasure_35 : decode cX11_remeasure 35 = .ok (.invokevirtual 352, 3) := by decide +kernel
theorem dX11_remeasure_38 : decode cX11_remeasure 38 = .ok (.aload_n 0, 1) := by decide +kernel
theorem dX11_remeasure_39 : decode cX11_remeasure 39 = .ok (.getfield 26, 3) := by decide +kernel
theorem dX11_remeasure_42 : decode cX11_remeasure 42 = .ok (.iload_n 1, 1) := by decide +kernel
theorem dX11_remeasure_43 : decode cX11_remeasure 43 = .ok (.aaload, 1) := by decide +kernel
theorem dX11_remeasure_44 : decode cX11_remeasure 44 = .ok (.aload_n 0, 1) := by decide +kernel
theorem dX11_remeasure_45 : decode cX11_remeasure 45 = .ok (.getfield 9, 3) := by decide +kernel
theorem dX11_remeasure_48 : decode cX11_remeasure 48 = .ok (.invokevirtual 355, 3) := by decide +kernel
theorem dX11_remeasure_51 : decode cX11_remeasure 51 = .ok (.aload_n 0, 1) := by decide +kernel
theorem dX11_remeasure_52 : decode cX11_remeasure 52 = .ok (.invokevirtual 173, 3) := by decide +kernel
theorem dX11_remeasure_55 : decode cX11_remeasure 55 = .ok (.ireturn, 1) := by decide +kernel
set_option maxRecDepth 20000 in
theorem ggX11_drift_X11_driftOf : GoodIn wsX11_drift wsX11_driftOf := goodIn_r _ [6, 7, 8, 9, 10, 11, 5, 12, 13, 23, 24, 25, 26, 27, 28, 29, 30, 31, 32, 33, 34, 35, 36, 37, 38, 39, 40, 41, 42, 43, 44] (by decide +kernel) (by decide +kernel)
set_option maxRecDepth 20000 in
theorem gX11_drift_X11_driftOf : GoodIn wsX11_drift (wsV RX11 183 RX11 yX11_driftOf wsX11_driftOf) := goodIn_app (goodIn_of _ (by decide +kernel)) ggX11_drift_X11_driftOf
set_option maxRecDepth 20000 in
theorem ggX11_drift_X7_floatBits : GoodIn wsX11_drift wsX7_floatBits := goodIn_r _ [17, 18, 19, 20, 21, 22] (by decide +kernel) (by decide +kernel)
set_option maxRecDepth 20000 in
theorem gX11_drift_X7_floatBits : GoodIn wsX11_drift (va_wsS RX11 191 yX7_floatBits wsX7_floatBits) := goodIn_app (goodIn_of _ (by decide +kernel)) ggX11_drift_X7_floatBits
theorem dX11_drift_0 : decode cX11_drift 0 = .ok (.aload_n 0, 1) := by decide +kernel
theorem dX11_drift_1 : decode cX11_drift 1 = .ok (.iload_n 1, 1) := by decide +kernel
theorem dX11_drift_2 : decode cX11_drift 2 = .ok (.invokevirtual 183, 3) := by decide +kernel
theorem dX11_drift_5 : decode cX11_drift 5 = .ok (.astore_n 2, 1) := by decide +kernel
theorem dX11_drift_6 : decode cX11_drift 6 = .ok (.aload_n 2, 1) := by decide +kernel
theorem dX11_drift_7 : decode cX11_drift 7 = .ok (.ifnonnull 5, 3) := by decide +kernel
theorem dX11_drift_10 : decode cX11_drift 10 = .ok (.iconst 0, 1) := by decide +kernel
theorem dX11_drift_11 : decode cX11_drift 11 = .ok (.ireturn, 1) := by decide +kernel
theorem dX11_drift_12 : decode cX11_drift 12 = .ok (.dconst 0, 1) := by decide +kernel
theorem dX11_drift_13 : decode cX11_drift 13 = .ok (.dstore_n 3, 1) := by decide +kernel
theorem dX11_drift_14 : decode cX11_drift 14 = .ok (.iconst 0, 1) := by decide +kernel
theorem dX11_drift_15 : decode cX11_drift 15 = .ok (.istore 5, 2) := by decide +kernel
theorem dX11_drift_17 : decode cX11_drift 17 = .ok (.iload 5, 2) := by decide +kernel
theorem dX11_drift_19 : decode cX11_drift 19 = .ok (.bipush 16, 2) := by decide +kernel
theorem dX11_drift_21 : decode cX11_drift 21 = .ok (.if_icmp .ge 17, 3) := by decide +kernel
theorem dX11_drift_24 : decode cX11_drift 24 = .ok (.dload_n 3, 1) := by decide +kernel
theorem dX11_drift_25 : decode cX11_drift 25 = .ok (.aload_n 2, 1) := by decide +kernel
theorem dX11_drift_26 : decode cX11_drift 26 = .ok (.iload 5, 2) := by decide +kernel
theorem dX11_drift_28 : decode cX11_drift 28 = .ok (.faload, 1) := by decide +kernel
theorem dX11_drift_29 : decode cX11_drift 29 = .ok (.f2d, 1) := by decide +kernel
theorem dX11_drift_30 : decode cX11_drift 30 = .ok (.dadd, 1) := by decide +kernel
theorem dX11_drift_31 : decode cX11_drift 31 = .ok (.dstore_n 3, 1) := by decide +kernel
theorem dX11_drift_32 : decode cX11_drift 32 = .ok (.iinc 5 1, 3) := by decide +kernel
theorem dX11_drift_35 : decode cX11_drift 35 = .ok (.goto (-18), 3) := by decide +kernel
theorem dX11_drift_38 : decode cX11_drift 38 = .ok (.dload_n 3, 1) := by decide +kernel
theorem dX11_drift_39 : decode cX11_drift 39 = .ok (.ldc2_w 358, 3) := by decide +kernel
theorem dX11_drift_42 : decode cX11_drift 42 = .ok (.ddiv, 1) := by decide +kernel
theorem dX11_drift_43 : decode cX11_drift 43 = .ok (.invokestatic 191, 3) := by decide +kernel
theorem dX11_drift_46 : decode cX11_drift 46 = .ok (.ireturn, 1) := by decide +kernel
set_option maxRecDepth 20000 in
theorem ggX11_pack_X11_spectrumOf : GoodIn wsX11_pack wsX11_spectrumOf := goodIn_r _ [6, 7, 8, 9, 10, 11, 12, 13, 14, 15, 16, 17, 18, 5, 19, 20, 44, 45, 46, 47, 48, 49, 50, 51, 52, 53, 54, 55, 56, 57, 58, 59, 60, 61, 62, 63, 64, 65, 66, 67, 68, 69, 70, 71, 72] (by decide +kernel) (by decide +kernel)
set_option maxRecDepth 20000 in
theorem gX11_pack_X11_spectrumOf : GoodIn wsX11_pack (wsV RX11 187 RX11 yX11_spectrumOf wsX11_spectrumOf) := goodIn_app (goodIn_of _ (by decide +kernel)) ggX11_pack_X11_spectrumOf
set_option maxRecDepth 20000 in
theorem ggX11_pack_X5_write : GoodIn wsX11_pack wsX5_write := goodIn_r _ [25, 26, 27, 28, 29, 30, 31, 32, 33, 34, 35, 36, 37, 38, 39, 24, 40, 41, 42, 43, 73, 74, 75] (by decide +kernel) (by decide +kernel)
set_option maxRecDepth 20000 in
theorem gX11_pack_X5_write : GoodIn wsX11_pack (wsV RX11 360 RX5 yX5_write wsX5_write) := goodIn_app (goodIn_of _ (by decide +kernel)) ggX11_pack_X5_write
theorem dX11_pack_0 : decode cX11_pack 0 = .ok (.aload_n 0, 1) := by decide +kernel
theorem dX11_pack_1 : decode cX11_pack 1 = .ok (.iload_n 1, 1) := by decide +kernel
theorem dX11_pack_2 : decode cX11_pack 2 = .ok (.iload_n 2, 1) := by decide +kernel
theorem dX11_pack_3 : decode cX11_pack 3 = .ok (.invokevirtual 187, 3) := by decide +kernel
theorem dX11_pack_6 : decode cX11_pack 6 = .ok (.astore_n 3, 1) := by decide +kernel
theorem dX11_pack_7 : decode cX11_pack 7 = .ok (.aload_n 3, 1) := by decide +kernel
theorem dX11_pack_8 : decode cX11_pack 8 = .ok (.ifnonnull 5, 3) := by decide +kernel
theorem dX11_pack_11 : decode cX11_pack 11 = .ok (.iconst (-1), 1) := by decide +kernel
theorem dX11_pack_12 : decode cX11_pack 12 = .ok (.ireturn, 1) := by decide +kernel
theorem dX11_pack_13 : decode cX11_pack 13 = .ok (.aload_n 0, 1) := by decide +kernel
theorem dX11_pack_14 : decode cX11_pack 14 = .ok (.getfield 99, 3) := by decide +kernel
theorem dX11_pack_17 : decode cX11_pack 17 = .ok (.aload_n 3, 1) := by decide +kernel
theorem dX11_pack_18 : decode cX11_pack 18 = .ok (.invokevirtual 360, 3) := by decide +kernel
theorem dX11_pack_21 : decode cX11_pack 21 = .ok (.ireturn, 1) := by decide +kernel
theorem dX11_out_0 : decode cX11_out 0 = .ok (.iload_n 1, 1) := by decide +kernel
theorem dX11_out_1 : decode cX11_out 1 = .ok (.ifCond .lt 14, 3) := by decide +kernel
theorem dX11_out_4 : decode cX11_out 4 = .ok (.iload_n 1, 1) := by decide +kernel
theorem dX11_out_5 : decode cX11_out 5 = .ok (.aload_n 0, 1) := by decide +kernel
theorem dX11_out_6 : decode cX11_out 6 = .ok (.getfield 99, 3) := by decide +kernel
theorem dX11_out_9 : decode cX11_out 9 = .ok (.getfield 364, 3) := by decide +kernel
theorem dX11_out_12 : decode cX11_out 12 = .ok (.if_icmp .lt 14, 3) := by decide +kernel
theorem dX11_out_15 : decode cX11_out 15 = .ok (.new 367, 3) := by decide +kernel
theorem dX11_out_18 : decode cX11_out 18 = .ok (.dup, 1) := by decide +kernel
theorem dX11_out_19 : decode cX11_out 19 = .ok (.ldc_w 369, 3) := by decide +kernel
theorem dX11_out_22 : decode cX11_out 22 = .ok (.invokespecial 371, 3) := by decide +kernel
theorem dX11_out_25 : decode cX11_out 25 = .ok (.athrow, 1) := by decide +kernel
theorem dX11_out_26 : decode cX11_out 26 = .ok (.aload_n 0, 1) := by decide +kernel
theorem dX11_out_27 : decode cX11_out 27 = .ok (.getfield 99, 3) := by decide +kernel
theorem dX11_out_30 : decode cX11_out 30 = .ok (.getfield 374, 3) := by decide +kernel
theorem dX11_out_33 : decode cX11_out 33 = .ok (.iload_n 1, 1) := by decide +kernel
theorem dX11_out_34 : decode cX11_out 34 = .ok (.iaload, 1) := by decide +kernel
theorem dX11_out_35 : decode cX11_out 35 = .ok (.ireturn, 1) := by decide +kernel
theorem dX11_letter_0 : decode cX11_letter 0 = .ok (.iload_n 1, 1) := by decide +kernel
theorem dX11_letter_1 : decode cX11_letter 1 = .ok (.ifCond .lt 20, 3) := by decide +kernel
theorem dX11_letter_4 : decode cX11_letter 4 = .ok (.iload_n 1, 1) := by decide +kernel
theorem dX11_letter_5 : decode cX11_letter 5 = .ok (.bipush 68, 2) := by decide +kernel
theorem dX11_letter_7 : decode cX11_letter 7 = .ok (.if_icmp .ge 14, 3) := by decide +kernel
theorem dX11_letter_10 : decode cX11_letter 10 = .ok (.iload_n 2, 1) := by decide +kernel
theorem dX11_letter_11 : decode cX11_letter 11 = .ok (.ifCond .lt 10, 3) := by decide +kernel
theorem dX11_letter_14 : decode cX11_letter 14 = .ok (.iload_n 2, 1) := by decide +kernel
theorem dX11_letter_15 : decode cX11_letter 15 = .ok (.sipush 255, 3) := by decide +kernel
theorem dX11_letter_18 : decode cX11_letter 18 = .ok (.if_icmp .le 5, 3) := by decide +kernel
theorem dX11_letter_21 : decode cX11_letter 21 = .ok (.iconst 0, 1) := by decide +kernel
theorem dX11_letter_22 : decode cX11_letter 22 = .ok (.ireturn, 1) := by decide +kernel
theorem dX11_letter_23 : decode cX11_letter 23 = .ok (.aload_n 0, 1) := by decide +kernel
theorem dX11_letter_24 : decode cX11_letter 24 = .ok (.getfield 99, 3) := by decide +kernel
theorem dX11_letter_27 : decode cX11_letter 27 = .ok (.getfield 377, 3) := by decide +kernel
theorem dX11_letter_30 : decode cX11_letter 30 = .ok (.iload_n 1, 1) := by decide +kernel
theorem dX11_letter_31 : decode cX11_letter 31 = .ok (.iload_n 2, 1) := by decide +kernel
theorem dX11_letter_32 : decode cX11_letter 32 = .ok (.iastore, 1) := by decide +kernel
theorem dX11_letter_33 : decode cX11_letter 33 = .ok (.iconst 1, 1) := by decide +kernel
theorem dX11_letter_34 : decode cX11_letter 34 = .ok (.ireturn, 1) := by decide +kernel
theorem dX11_post_0 : decode cX11_post 0 = .ok (.aload_n 0, 1) := by decide +kernel
theorem dX11_post_1 : decode cX11_post 1 = .ok (.getfield 99, 3) := by decide +kernel
theorem dX11_post_4 : decode cX11_post 4 = .ok (.getfield 364, 3) := by decide +kernel
theorem dX11_post_7 : decode cX11_post 7 = .ok (.bipush 68, 2) := by decide +kernel
theorem dX11_post_9 : decode cX11_post 9 = .ok (.if_icmp .eq 5, 3) := by decide +kernel
theorem dX11_post_12 : decode cX11_post 12 = .ok (.iconst 0, 1) := by decide +kernel
theorem dX11_post_13 : decode cX11_post 13 = .ok (.ireturn, 1) := by decide +kernel
theorem dX11_post_14 : decode cX11_post 14 = .ok (.aload_n 0, 1) := by decide +kernel
theorem dX11_post_15 : decode cX11_post 15 = .ok (.getfield 99, 3) := by decide +kernel
theorem dX11_post_18 : decode cX11_post 18 = .ok (.getfield 374, 3) := by decide +kernel
theorem dX11_post_21 : decode cX11_post 21 = .ok (.iconst 0, 1) := by decide +kernel
theorem dX11_post_22 : decode cX11_post 22 = .ok (.aload_n 0, 1) := by decide +kernel
theorem dX11_post_23 : decode cX11_post 23 = .ok (.getfield 99, 3) := by decide +kernel
theorem dX11_post_26 : decode cX11_post 26 = .ok (.getfield 377, 3) := by decide +kernel
theorem dX11_post_29 : decode cX11_post 29 = .ok (.iconst 0, 1) := by decide +kernel
theorem dX11_post_30 : decode cX11_post 30 = .ok (.bipush 68, 2) := by decide +kernel
theorem dX11_post_32 : decode cX11_post 32 = .ok (.invokestatic 380, 3) := by decide +kernel
theorem dX11_post_35 : decode cX11_post 35 = .ok (.iconst 1, 1) := by decide +kernel
theorem dX11_post_36 : decode cX11_post 36 = .ok (.ireturn, 1) := by decide +kernel
set_option maxRecDepth 20000 in
theorem ggX11_unpack_X5_hasRightSum : GoodIn wsX11_unpack wsX5_hasRightSum := goodIn_r _ [7, 8, 9, 10, 11, 6, 12, 13, 14, 15, 69, 70, 71] (by decide +kernel) (by decide +kernel)
set_option maxRecDepth 20000 in
theorem gX11_unpack_X5_hasRightSum : GoodIn wsX11_unpack (wsV RX11 386 RX5 yX5_hasRightSum wsX5_hasRightSum) := goodIn_app (goodIn_of _ (by decide +kernel)) ggX11_unpack_X5_hasRightSum
set_option maxRecDepth 20000 in
theorem ggX11_unpack_X11_denied : GoodIn wsX11_unpack wsX11_denied := goodIn_r _ [20, 21, 49, 50, 51, 52, 53, 54, 55, 56, 57, 58, 59, 60, 61, 62, 63, 64, 65, 66, 67, 68] (by decide +kernel) (by decide +kernel)
set_option maxRecDepth 20000 in
theorem gX11_unpack_X11_denied : GoodIn wsX11_unpack (wsV RX11 177 RX11 yX11_denied wsX11_denied) := goodIn_app (goodIn_of _ (by decide +kernel)) ggX11_unpack_X11_denied
set_option maxRecDepth 20000 in
theorem ggX11_unpack_X5_isTakenAll : GoodIn wsX11_unpack wsX5_isTakenAll := goodIn_r _ [25, 9, 10, 11, 6, 12, 8, 26, 27, 28, 29, 30, 69, 70, 71] (by decide +kernel) (by decide +kernel)
set_option maxRecDepth 20000 in
theorem gX11_unpack_X5_isTakenAll : GoodIn wsX11_unpack (wsV RX11 389 RX5 yX5_isTakenAll wsX5_isTakenAll) := goodIn_app (goodIn_of _ (by decide +kernel)) ggX11_unpack_X5_isTakenAll
set_option maxRecDepth 20000 in
theorem ggX11_unpack_X5_read : GoodIn wsX11_unpack wsX5_read := goodIn_r _ [34, 9, 10, 11, 6, 12, 8, 35, 36, 28, 37, 38, 39, 40, 41, 42, 43, 44, 69, 70, 71] (by decide +kernel) (by decide +kernel)
set_option maxRecDepth 20000 in
theorem gX11_unpack_X5_read : GoodIn wsX11_unpack (wsV RX11 392 RX5 yX5_read wsX5_read) := goodIn_app (goodIn_of _ (by decide +kernel)) ggX11_unpack_X5_read
set_option maxRecDepth 20000 in
theorem ggX11_unpack_X11_accept : GoodIn wsX11_unpack wsX11_accept := goodIn_r _ [48, 21, 49, 50, 51, 52, 53, 54, 55, 56, 57, 58, 59, 60, 61, 62, 63, 64, 65, 66, 67, 68] (by decide +kernel) (by decide +kernel)
set_option maxRecDepth 20000 in
theorem gX11_unpack_X11_accept : GoodIn wsX11_unpack (wsV RX11 173 RX11 yX11_accept wsX11_accept) := goodIn_app (goodIn_of _ (by decide +kernel)) ggX11_unpack_X11_accept
theorem dX11_unpack_0 : decode cX11_unpack 0 = .ok (.aload_n 0, 1) := by decide +kernel
theorem dX11_unpack_1 : decode cX11_unpack 1 = .ok (.getfield 99, 3) := by decide +kernel
theorem dX11_unpack_4 : decode cX11_unpack 4 = .ok (.invokevirtual 386, 3) := by decide +kernel
theorem dX11_unpack_7 : decode cX11_unpack 7 = .ok (.ifCond .ne 9, 3) := by decide +kernel
theorem dX11_unpack_10 : decode cX11_unpack 10 = .ok (.aload_n 0, 1) := by decide +kernel
theorem dX11_unpack_11 : decode cX11_unpack 11 = .ok (.iconst 5, 1) := by decide +kernel
theorem dX11_unpack_12 : decode cX11_unpack 12 = .ok (.invokevirtual 177, 3) := by decide +kernel
theorem dX11_unpack_15 : decode cX11_unpack 15 = .ok (.ireturn, 1) := by decide +kernel
theorem dX11_unpack_16 : decode cX11_unpack 16 = .ok (.aload_n 0, 1) := by decide +kernel
theorem dX11_unpack_17 : decode cX11_unpack 17 = .ok (.getfield 99, 3) := by decide +kernel
theorem dX11_unpack_20 : decode cX11_unpack 20 = .ok (.invokevirtual 389, 3) := by decide +kernel
theorem dX11_unpack_23 : decode cX11_unpack 23 = .ok (.ifCond .ne 9, 3) := by decide +kernel
theorem dX11_unpack_26 : decode cX11_unpack 26 = .ok (.aload_n 0, 1) := by decide +kernel
theorem dX11_unpack_27 : decode cX11_unpack 27 = .ok (.iconst 3, 1) := by decide +kernel
theorem dX11_unpack_28 : decode cX11_unpack 28 = .ok (.invokevirtual 177, 3) := by decide +kernel
theorem dX11_unpack_31 : decode cX11_unpack 31 = .ok (.ireturn, 1) := by decide +kernel
theorem dX11_unpack_32 : decode cX11_unpack 32 = .ok (.aload_n 0, 1) := by decide +kernel
theorem dX11_unpack_33 : decode cX11_unpack 33 = .ok (.getfield 99, 3) := by decide +kernel
theorem dX11_unpack_36 : decode cX11_unpack 36 = .ok (.aload_n 0, 1) := by decide +kernel
theorem dX11_unpack_37 : decode cX11_unpack 37 = .ok (.getfield 9, 3) := by decide +kernel
theorem dX11_unpack_40 : decode cX11_unpack 40 = .ok (.invokevirtual 392, 3) := by decide +kernel
theorem dX11_unpack_43 : decode cX11_unpack 43 = .ok (.aload_n 0, 1) := by decide +kernel
theorem dX11_unpack_44 : decode cX11_unpack 44 = .ok (.invokevirtual 173, 3) := by decide +kernel
theorem dX11_unpack_47 : decode cX11_unpack 47 = .ok (.ireturn, 1) := by decide +kernel
set_option maxRecDepth 20000 in
theorem ggX11_undo_X0_latest : GoodIn wsX11_undo wsX0_latest := goodIn_r _ [8, 9, 10, 82, 83, 84, 85] (by decide +kernel) (by decide +kernel)
set_option maxRecDepth 20000 in
theorem gX11_undo_X0_latest : GoodIn wsX11_undo (wsV RX11 398 RX0 yX0_latest wsX0_latest) := goodIn_app (goodIn_of _ (by decide +kernel)) ggX11_undo_X0_latest
set_option maxRecDepth 20000 in
theorem ggX11_undo_X0_keptOfLatest : GoodIn wsX11_undo wsX0_keptOfLatest := goodIn_r _ [14, 15, 10, 82, 83, 84, 85] (by decide +kernel) (by decide +kernel)
set_option maxRecDepth 20000 in
theorem gX11_undo_X0_keptOfLatest : GoodIn wsX11_undo (wsV RX11 402 RX0 yX0_keptOfLatest wsX0_keptOfLatest) := goodIn_app (goodIn_of _ (by decide +kernel)) ggX11_undo_X0_keptOfLatest
set_option maxRecDepth 20000 in
theorem ggX11_undo_X11_takeBack : GoodIn wsX11_undo wsX11_takeBack := goodIn_r _ [20, 21, 22, 23, 24, 25, 26, 27, 28, 29, 30, 31, 32, 33, 34, 35, 36, 37, 38, 39, 40, 41, 42, 43, 19, 44, 45, 46, 47, 48, 49, 50, 51, 52, 53, 54, 55, 56, 62, 63, 64, 65, 66, 67, 68, 69, 70, 71, 72, 73, 74, 75, 76, 77, 78, 79, 80, 81, 86, 87, 88, 89, 90, 91, 92, 93, 94, 95, 96, 97, 98, 99, 100, 101, 102, 103, 104] (by decide +kernel) (by decide +kernel)
set_option maxRecDepth 20000 in
theorem gX11_undo_X11_takeBack : GoodIn wsX11_undo (wsV RX11 405 RX11 yX11_takeBack wsX11_takeBack) := goodIn_app (goodIn_of _ (by decide +kernel)) ggX11_undo_X11_takeBack
set_option maxRecDepth 20000 in
theorem ggX11_undo_X0_drop : GoodIn wsX11_undo wsX0_drop := goodIn_r _ [60, 10, 61, 82, 83, 84, 85] (by decide +kernel) (by decide +kernel)
set_option maxRecDepth 20000 in
theorem gX11_undo_X0_drop : GoodIn wsX11_undo (wsV RX11 409 RX0 yX0_drop wsX0_drop) := goodIn_app (goodIn_of _ (by decide +kernel)) ggX11_undo_X0_drop
theorem dX11_undo_0 : decode cX11_undo 0 = .ok (.aload_n 0, 1) := by decide +kernel
theorem dX11_undo_1 : decode cX11_undo 1 = .ok (.getfield 106, 3) := by decide +kernel
theorem dX11_undo_4 : decode cX11_undo 4 = .ok (.getfield 395, 3) := by decide +kernel
theorem dX11_undo_7 : decode cX11_undo 7 = .ok (.ifCond .ne 5, 3) := by decide +kernel
theorem dX11_undo_10 : decode cX11_undo 10 = .ok (.iconst 0, 1) := by decide +kernel
theorem dX11_undo_11 : decode cX11_undo 11 = .ok (.ireturn, 1) := by decide +kernel
theorem dX11_undo_12 : decode cX11_undo 12 = .ok (.aload_n 0, 1) := by decide +kernel
theorem dX11_undo_13 : decode cX11_undo 13 = .ok (.getfield 106, 3) := by decide +kernel
theorem dX11_undo_16 : decode cX11_undo 16 = .ok (.invokevirtual 398, 3) := by decide +kernel
theorem dX11_undo_19 : decode cX11_undo 19 = .ok (.astore_n 1, 1) := by decide +kernel
theorem dX11_undo_20 : decode cX11_undo 20 = .ok (.aload_n 1, 1) := by decide +kernel
theorem dX11_undo_21 : decode cX11_undo 21 = .ok (.iconst 0, 1) := by decide +kernel
theorem dX11_undo_22 : decode cX11_undo 22 = .ok (.iaload, 1) := by decide +kernel
theorem dX11_undo_23 : decode cX11_undo 23 = .ok (.bipush 6, 2) := by decide +kernel
theorem dX11_undo_25 : decode cX11_undo 25 = .ok (.if_icmp .ge 18, 3) := by decide +kernel
theorem dX11_undo_28 : decode cX11_undo 28 = .ok (.aload_n 0, 1) := by decide +kernel
theorem dX11_undo_29 : decode cX11_undo 29 = .ok (.getfield 20, 3) := by decide +kernel
theorem dX11_undo_32 : decode cX11_undo 32 = .ok (.aload_n 1, 1) := by decide +kernel
theorem dX11_undo_33 : decode cX11_undo 33 = .ok (.iconst 0, 1) := by decide +kernel
theorem dX11_undo_34 : decode cX11_undo 34 = .ok (.iaload, 1) := by decide +kernel
theorem dX11_undo_35 : decode cX11_undo 35 = .ok (.dup2, 1) := by decide +kernel
theorem dX11_undo_36 : decode cX11_undo 36 = .ok (.iaload, 1) := by decide +kernel
theorem dX11_undo_37 : decode cX11_undo 37 = .ok (.iconst 1, 1) := by decide +kernel
theorem dX11_undo_38 : decode cX11_undo 38 = .ok (.isub, 1) := by decide +kernel
theorem dX11_undo_39 : decode cX11_undo 39 = .ok (.iastore, 1) := by decide +kernel
theorem dX11_undo_40 : decode cX11_undo 40 = .ok (.goto 15, 3) := by decide +kernel
theorem dX11_undo_43 : decode cX11_undo 43 = .ok (.aload_n 0, 1) := by decide +kernel
theorem dX11_undo_44 : decode cX11_undo 44 = .ok (.aload_n 1, 1) := by decide +kernel
theorem dX11_undo_45 : decode cX11_undo 45 = .ok (.aload_n 0, 1) := by decide +kernel
theorem dX11_undo_46 : decode cX11_undo 46 = .ok (.getfield 106, 3) := by decide +kernel
theorem dX11_undo_49 : decode cX11_undo 49 = .ok (.invokevirtual 402, 3) := by decide +kernel
theorem dX11_undo_52 : decode cX11_undo 52 = .ok (.invokevirtual 405, 3) := by decide +kernel
theorem dX11_undo_55 : decode cX11_undo 55 = .ok (.aload_n 0, 1) := by decide +kernel
theorem dX11_undo_56 : decode cX11_undo 56 = .ok (.getfield 106, 3) := by decide +kernel
theorem dX11_undo_59 : decode cX11_undo 59 = .ok (.invokevirtual 409, 3) := by decide +kernel
theorem dX11_undo_62 : decode cX11_undo 62 = .ok (.iconst 1, 1) := by decide +kernel
theorem dX11_undo_63 : decode cX11_undo 63 = .ok (.ireturn, 1) := by decide +kernel
theorem dX11_trouble_0 : decode cX11_trouble 0 = .ok (.aload_n 0, 1) := by decide +kernel
theorem dX11_trouble_1 : decode cX11_trouble 1 = .ok (.getfield 110, 3) := by decide +kernel
theorem dX11_trouble_4 : decode cX11_trouble 4 = .ok (.ireturn, 1) := by decide +kernel
theorem dX11_count_0 : decode cX11_count 0 = .ok (.iload_n 1, 1) := by decide +kernel
theorem dX11_count_1 : decode cX11_count 1 = .ok (.ifCond .lt 16, 3) := by decide +kernel
theorem dX11_count_4 : decode cX11_count 4 = .ok (.iload_n 1, 1) := by decide +kernel
theorem dX11_count_5 : decode cX11_count 5 = .ok (.bipush 6, 2) := by decide +kernel
theorem dX11_count_7 : decode cX11_count 7 = .ok (.if_icmp .ge 10, 3) := by decide +kernel
theorem dX11_count_10 : decode cX11_count 10 = .ok (.aload_n 0, 1) := by decide +kernel
theorem dX11_count_11 : decode cX11_count 11 = .ok (.getfield 20, 3) := by decide +kernel
theorem dX11_count_14 : decode cX11_count 14 = .ok (.iload_n 1, 1) := by decide +kernel
theorem dX11_count_15 : decode cX11_count 15 = .ok (.iaload, 1) := by decide +kernel
theorem dX11_count_16 : decode cX11_count 16 = .ok (.ireturn, 1) := by decide +kernel
theorem dX11_count_17 : decode cX11_count 17 = .ok (.iload_n 1, 1) := by decide +kernel
theorem dX11_count_18 : decode cX11_count 18 = .ok (.bipush 6, 2) := by decide +kernel
theorem dX11_count_20 : decode cX11_count 20 = .ok (.if_icmp .ne 8, 3) := by decide +kernel
theorem dX11_count_23 : decode cX11_count 23 = .ok (.aload_n 0, 1) := by decide +kernel
theorem dX11_count_24 : decode cX11_count 24 = .ok (.getfield 64, 3) := by decide +kernel
theorem dX11_count_27 : decode cX11_count 27 = .ok (.ireturn, 1) := by decide +kernel
theorem dX11_count_28 : decode cX11_count 28 = .ok (.iload_n 1, 1) := by decide +kernel
theorem dX11_count_29 : decode cX11_count 29 = .ok (.bipush 7, 2) := by decide +kernel
theorem dX11_count_31 : decode cX11_count 31 = .ok (.if_icmp .ne 11, 3) := by decide +kernel
theorem dX11_count_34 : decode cX11_count 34 = .ok (.aload_n 0, 1) := by decide +kernel
theorem dX11_count_35 : decode cX11_count 35 = .ok (.getfield 106, 3) := by decide +kernel
theorem dX11_count_38 : decode cX11_count 38 = .ok (.getfield 395, 3) := by decide +kernel
theorem dX11_count_41 : decode cX11_count 41 = .ok (.ireturn, 1) := by decide +kernel
theorem dX11_count_42 : decode cX11_count 42 = .ok (.iload_n 1, 1) := by decide +kernel
theorem dX11_count_43 : decode cX11_count 43 = .ok (.bipush 8, 2) := by decide +kernel
theorem dX11_count_45 : decode cX11_count 45 = .ok (.if_icmp .ne 13, 3) := by decide +kernel
theorem dX11_count_48 : decode cX11_count 48 = .ok (.aload_n 0, 1) := by decide +kernel
theorem dX11_count_49 : decode cX11_count 49 = .ok (.getfield 99, 3) := by decide +kernel
theorem dX11_count_52 : decode cX11_count 52 = .ok (.getfield 364, 3) := by decide +kernel
theorem dX11_count_55 : decode cX11_count 55 = .ok (.goto 4, 3) := by decide +kernel
theorem dX11_count_58 : decode cX11_count 58 = .ok (.iconst (-1), 1) := by decide +kernel
theorem dX11_count_59 : decode cX11_count 59 = .ok (.ireturn, 1) := by decide +kernel
theorem dX11_accept_0 : decode cX11_accept 0 = .ok (.aload_n 0, 1) := by decide +kernel
theorem dX11_accept_1 : decode cX11_accept 1 = .ok (.iconst 0, 1) := by decide +kernel
theorem dX11_accept_2 : decode cX11_accept 2 = .ok (.putfield 110, 3) := by decide +kernel
theorem dX11_accept_5 : decode cX11_accept 5 = .ok (.iconst 1, 1) := by decide +kernel
theorem dX11_accept_6 : decode cX11_accept 6 = .ok (.ireturn, 1) := by decide +kernel
theorem dX11_denied_0 : decode cX11_denied 0 = .ok (.aload_n 0, 1) := by decide +kernel
theorem dX11_denied_1 : decode cX11_denied 1 = .ok (.iload_n 1, 1) := by decide +kernel
theorem dX11_denied_2 : decode cX11_denied 2 = .ok (.putfield 110, 3) := by decide +kernel
theorem dX11_denied_5 : decode cX11_denied 5 = .ok (.iconst 0, 1) := by decide +kernel
theorem dX11_denied_6 : decode cX11_denied 6 = .ok (.ireturn, 1) := by decide +kernel
theorem dX11_refused_0 : decode cX11_refused 0 = .ok (.aload_n 0, 1) := by decide +kernel
theorem dX11_refused_1 : decode cX11_refused 1 = .ok (.iload_n 1, 1) := by decide +kernel
theorem dX11_refused_2 : decode cX11_refused 2 = .ok (.putfield 110, 3) := by decide +kernel
theorem dX11_refused_5 : decode cX11_refused 5 = .ok (.iconst (-1), 1) := by decide +kernel
theorem dX11_refused_6 : decode cX11_refused 6 = .ok (.ireturn, 1) := by decide +kernel
theorem dX11_isWithin_0 : decode cX11_isWithin 0 = .ok (.iload_n 0, 1) := by decide +kernel
theorem dX11_isWithin_1 : decode cX11_isWithin 1 = .ok (.iload_n 1, 1) := by decide +kernel
theorem dX11_isWithin_2 : decode cX11_isWithin 2 = .ok (.if_icmp .lt 12, 3) := by decide +kernel
theorem dX11_isWithin_5 : decode cX11_isWithin 5 = .ok (.iload_n 0, 1) := by decide +kernel
theorem dX11_isWithin_6 : decode cX11_isWithin 6 = .ok (.iload_n 2, 1) := by decide +kernel
theorem dX11_isWithin_7 : decode cX11_isWithin 7 = .ok (.if_icmp .gt 7, 3) := by decide +kernel
theorem dX11_isWithin_10 : decode cX11_isWithin 10 = .ok (.iconst 1, 1) := by decide +kernel
theorem dX11_isWithin_11 : decode cX11_isWithin 11 = .ok (.goto 4, 3) := by decide +kernel
theorem dX11_isWithin_14 : decode cX11_isWithin 14 = .ok (.iconst 0, 1) := by decide +kernel
theorem dX11_isWithin_15 : decode cX11_isWithin 15 = .ok (.ireturn, 1) := by decide +kernel
set_option maxRecDepth 20000 in
theorem ggX11_isGrid_X11_isWithin : GoodIn wsX11_isGrid wsX11_isWithin := goodIn_r _ [4] (by decide +kernel) (by decide +kernel)
set_option maxRecDepth 20000 in
theorem gX11_isGrid_X11_isWithin : GoodIn wsX11_isGrid (va_wsS RX11 151 yX11_isWithin wsX11_isWithin) := goodIn_app (goodIn_of _ (by decide +kernel)) ggX11_isGrid_X11_isWithin
theorem dX11_isGrid_0 : decode cX11_isGrid 0 = .ok (.iload_n 0, 1) := by decide +kernel
theorem dX11_isGrid_1 : decode cX11_isGrid 1 = .ok (.iconst 1, 1) := by decide +kernel
theorem dX11_isGrid_2 : decode cX11_isGrid 2 = .ok (.sipush 10000, 3) := by decide +kernel
theorem dX11_isGrid_5 : decode cX11_isGrid 5 = .ok (.invokestatic 151, 3) := by decide +kernel
theorem dX11_isGrid_8 : decode cX11_isGrid 8 = .ok (.ifCond .eq 17, 3) := by decide +kernel
theorem dX11_isGrid_11 : decode cX11_isGrid 11 = .ok (.iload_n 1, 1) := by decide +kernel
theorem dX11_isGrid_12 : decode cX11_isGrid 12 = .ok (.iconst 1, 1) := by decide +kernel
theorem dX11_isGrid_13 : decode cX11_isGrid 13 = .ok (.bipush 12, 2) := by decide +kernel
theorem dX11_isGrid_15 : decode cX11_isGrid 15 = .ok (.invokestatic 151, 3) := by decide +kernel
theorem dX11_isGrid_18 : decode cX11_isGrid 18 = .ok (.ifCond .eq 7, 3) := by decide +kernel
theorem dX11_isGrid_21 : decode cX11_isGrid 21 = .ok (.iconst 1, 1) := by decide +kernel
theorem dX11_isGrid_22 : decode cX11_isGrid 22 = .ok (.goto 4, 3) := by decide +kernel
theorem dX11_isGrid_25 : decode cX11_isGrid 25 = .ok (.iconst 0, 1) := by decide +kernel
theorem dX11_isGrid_26 : decode cX11_isGrid 26 = .ok (.ireturn, 1) := by decide +kernel
theorem dX11_isThere_0 : decode cX11_isThere 0 = .ok (.iload_n 2, 1) := by decide +kernel
theorem dX11_isThere_1 : decode cX11_isThere 1 = .ok (.ifCond .lt 17, 3) := by decide +kernel
theorem dX11_isThere_4 : decode cX11_isThere 4 = .ok (.iload_n 2, 1) := by decide +kernel
theorem dX11_isThere_5 : decode cX11_isThere 5 = .ok (.aload_n 0, 1) := by decide +kernel
theorem dX11_isThere_6 : decode cX11_isThere 6 = .ok (.getfield 20, 3) := by decide +kernel
theorem dX11_isThere_9 : decode cX11_isThere 9 = .ok (.iload_n 1, 1) := by decide +kernel
theorem dX11_isThere_10 : decode cX11_isThere 10 = .ok (.iaload, 1) := by decide +kernel
theorem dX11_isThere_11 : decode cX11_isThere 11 = .ok (.if_icmp .ge 7, 3) := by decide +kernel
theorem dX11_isThere_14 : decode cX11_isThere 14 = .ok (.iconst 1, 1) := by decide +kernel
theorem dX11_isThere_15 : decode cX11_isThere 15 = .ok (.goto 4, 3) := by decide +kernel
theorem dX11_isThere_18 : decode cX11_isThere 18 = .ok (.iconst 0, 1) := by decide +kernel
theorem dX11_isThere_19 : decode cX11_isThere 19 = .ok (.ireturn, 1) := by decide +kernel
theorem dX11_copyRow_0 : decode cX11_copyRow 0 = .ok (.aload_n 0, 1) := by decide +kernel
theorem dX11_copyRow_1 : decode cX11_copyRow 1 = .ok (.iconst 0, 1) := by decide +kernel
theorem dX11_copyRow_2 : decode cX11_copyRow 2 = .ok (.aload_n 1, 1) := by decide +kernel
theorem dX11_copyRow_3 : decode cX11_copyRow 3 = .ok (.iconst 0, 1) := by decide +kernel
theorem dX11_copyRow_4 : decode cX11_copyRow 4 = .ok (.bipush 16, 2) := by decide +kernel
theorem dX11_copyRow_6 : decode cX11_copyRow 6 = .ok (.invokestatic 380, 3) := by decide +kernel
theorem dX11_copyRow_9 : decode cX11_copyRow 9 = .ok (.return_, 1) := by decide +kernel
set_option maxRecDepth 20000 in
theorem ggX11_newOne_X0_note : GoodIn wsX11_newOne wsX0_note := goodIn_r _ [7, 8, 9, 10, 11, 12, 13, 14, 15, 42, 43, 44, 45] (by decide +kernel) (by decide +kernel)
set_option maxRecDepth 20000 in
theorem gX11_newOne_X0_note : GoodIn wsX11_newOne (wsV RX11 169 RX0 yX0_note wsX0_note) := goodIn_app (goodIn_of _ (by decide +kernel)) ggX11_newOne_X0_note
set_option maxRecDepth 20000 in
theorem ggX11_newOne_X11_accept : GoodIn wsX11_newOne wsX11_accept := goodIn_r _ [20, 21, 22, 23, 24, 25, 26, 27, 28, 29, 30, 31, 32, 33, 34, 35, 36, 37, 38, 39, 40, 41] (by decide +kernel) (by decide +kernel)
set_option maxRecDepth 20000 in
theorem gX11_newOne_X11_accept : GoodIn wsX11_newOne (wsV RX11 173 RX11 yX11_accept wsX11_accept) := goodIn_app (goodIn_of _ (by decide +kernel)) ggX11_newOne_X11_accept
theorem dX11_newOne_0 : decode cX11_newOne 0 = .ok (.aload_n 0, 1) := by decide +kernel
theorem dX11_newOne_1 : decode cX11_newOne 1 = .ok (.getfield 106, 3) := by decide +kernel
theorem dX11_newOne_4 : decode cX11_newOne 4 = .ok (.iload_n 1, 1) := by decide +kernel
theorem dX11_newOne_5 : decode cX11_newOne 5 = .ok (.iconst 0, 1) := by decide +kernel
theorem dX11_newOne_6 : decode cX11_newOne 6 = .ok (.iconst 0, 1) := by decide +kernel
theorem dX11_newOne_7 : decode cX11_newOne 7 = .ok (.iconst 0, 1) := by decide +kernel
theorem dX11_newOne_8 : decode cX11_newOne 8 = .ok (.invokevirtual 169, 3) := by decide +kernel
theorem dX11_newOne_11 : decode cX11_newOne 11 = .ok (.pop, 1) := by decide +kernel
theorem dX11_newOne_12 : decode cX11_newOne 12 = .ok (.aload_n 0, 1) := by decide +kernel
theorem dX11_newOne_13 : decode cX11_newOne 13 = .ok (.invokevirtual 173, 3) := by decide +kernel
theorem dX11_newOne_16 : decode cX11_newOne 16 = .ok (.pop, 1) := by decide +kernel
theorem dX11_newOne_17 : decode cX11_newOne 17 = .ok (.aload_n 0, 1) := by decide +kernel
theorem dX11_newOne_18 : decode cX11_newOne 18 = .ok (.getfield 20, 3) := by decide +kernel
theorem dX11_newOne_21 : decode cX11_newOne 21 = .ok (.iload_n 1, 1) := by decide +kernel
theorem dX11_newOne_22 : decode cX11_newOne 22 = .ok (.dup2, 1) := by decide +kernel
theorem dX11_newOne_23 : decode cX11_newOne 23 = .ok (.iaload, 1) := by decide +kernel
theorem dX11_newOne_24 : decode cX11_newOne 24 = .ok (.iconst 1, 1) := by decide +kernel
theorem dX11_newOne_25 : decode cX11_newOne 25 = .ok (.iadd, 1) := by decide +kernel
theorem dX11_newOne_26 : decode cX11_newOne 26 = .ok (.iastore, 1) := by decide +kernel
theorem dX11_newOne_27 : decode cX11_newOne 27 = .ok (.aload_n 0, 1) := by decide +kernel
theorem dX11_newOne_28 : decode cX11_newOne 28 = .ok (.getfield 20, 3) := by decide +kernel
theorem dX11_newOne_31 : decode cX11_newOne 31 = .ok (.iload_n 1, 1) := by decide +kernel
theorem dX11_newOne_32 : decode cX11_newOne 32 = .ok (.iaload, 1) := by decide +kernel
theorem dX11_newOne_33 : decode cX11_newOne 33 = .ok (.iconst 1, 1) := by decide +kernel
theorem dX11_newOne_34 : decode cX11_newOne 34 = .ok (.isub, 1) := by decide +kernel
theorem dX11_newOne_35 : decode cX11_newOne 35 = .ok (.ireturn, 1) := by decide +kernel
set_option maxRecDepth 20000 in
theorem ggX11_spectrumOf_X11_isThere : GoodIn wsX11_spectrumOf wsX11_isThere := goodIn_r _ [14, 15, 16, 17, 18, 19, 20, 21, 22, 23, 24, 25, 26, 27, 28, 29, 30, 31, 32, 33, 34, 35] (by decide +kernel) (by decide +kernel)
set_option maxRecDepth 20000 in
theorem gX11_spectrumOf_X11_isThere : GoodIn wsX11_spectrumOf (wsV RX11 142 RX11 yX11_isThere wsX11_isThere) := goodIn_app (goodIn_of _ (by decide +kernel)) ggX11_spectrumOf_X11_isThere
theorem dX11_spectrumOf_0 : decode cX11_spectrumOf 0 = .ok (.iload_n 1, 1) := by decide +kernel
theorem dX11_spectrumOf_1 : decode cX11_spectrumOf 1 = .ok (.tableswitch 138 0 5 #[39, 44, 67, 87, 138, 103], 39) := by decide +kernel
theorem dX11_spectrumOf_40 : decode cX11_spectrumOf 40 = .ok (.aload_n 0, 1) := by decide +kernel
theorem dX11_spectrumOf_41 : decode cX11_spectrumOf 41 = .ok (.getfield 9, 3) := by decide +kernel
theorem dX11_spectrumOf_44 : decode cX11_spectrumOf 44 = .ok (.areturn, 1) := by decide +kernel
theorem dX11_spectrumOf_45 : decode cX11_spectrumOf 45 = .ok (.aload_n 0, 1) := by decide +kernel
theorem dX11_spectrumOf_46 : decode cX11_spectrumOf 46 = .ok (.iconst 0, 1) := by decide +kernel
theorem dX11_spectrumOf_47 : decode cX11_spectrumOf 47 = .ok (.iload_n 2, 1) := by decide +kernel
theorem dX11_spectrumOf_48 : decode cX11_spectrumOf 48 = .ok (.invokevirtual 142, 3) := by decide +kernel
theorem dX11_spectrumOf_51 : decode cX11_spectrumOf 51 = .ok (.ifCond .eq 15, 3) := by decide +kernel
theorem dX11_spectrumOf_54 : decode cX11_spectrumOf 54 = .ok (.aload_n 0, 1) := by decide +kernel
theorem dX11_spectrumOf_55 : decode cX11_spectrumOf 55 = .ok (.getfield 26, 3) := by decide +kernel
theorem dX11_spectrumOf_58 : decode cX11_spectrumOf 58 = .ok (.iload_n 2, 1) := by decide +kernel
theorem dX11_spectrumOf_59 : decode cX11_spectrumOf 59 = .ok (.aaload, 1) := by decide +kernel
theorem dX11_spectrumOf_60 : decode cX11_spectrumOf 60 = .ok (.getfield 132, 3) := by decide +kernel
theorem dX11_spectrumOf_63 : decode cX11_spectrumOf 63 = .ok (.goto 4, 3) := by decide +kernel
theorem dX11_spectrumOf_66 : decode cX11_spectrumOf 66 = .ok (.aconst_null, 1) := by decide +kernel
theorem dX11_spectrumOf_67 : decode cX11_spectrumOf 67 = .ok (.areturn, 1) := by decide +kernel
theorem dX11_spectrumOf_68 : decode cX11_spectrumOf 68 = .ok (.aload_n 0, 1) := by decide +kernel
theorem dX11_spectrumOf_69 : decode cX11_spectrumOf 69 = .ok (.iconst 1, 1) := by decide +kernel
theorem dX11_spectrumOf_70 : decode cX11_spectrumOf 70 = .ok (.iload_n 2, 1) := by decide +kernel
theorem dX11_spectrumOf_71 : decode cX11_spectrumOf 71 = .ok (.invokevirtual 142, 3) := by decide +kernel
theorem dX11_spectrumOf_74 : decode cX11_spectrumOf 74 = .ok (.ifCond .eq 12, 3) := by decide +kernel
theorem dX11_spectrumOf_77 : decode cX11_spectrumOf 77 = .ok (.aload_n 0, 1) := by decide +kernel
theorem dX11_spectrumOf_78 : decode cX11_spectrumOf 78 = .ok (.getfield 32, 3) := by decide +kernel
theorem dX11_spectrumOf_81 : decode cX11_spectrumOf 81 = .ok (.iload_n 2, 1) := by decide +kernel
theorem dX11_spectrumOf_82 : decode cX11_spectrumOf 82 = .ok (.aaload, 1) := by decide +kernel
theorem dX11_spectrumOf_83 : decode cX11_spectrumOf 83 = .ok (.goto 4, 3) := by decide +kernel
theorem dX11_spectrumOf_86 : decode cX11_spectrumOf 86 = .ok (.aconst_null, 1) := by decide +kernel
theorem dX11_spectrumOf_87 : decode cX11_spectrumOf 87 = .ok (.areturn, 1) := by decide +kernel
theorem dX11_spectrumOf_88 : decode cX11_spectrumOf 88 = .ok (.aload_n 0, 1) := by decide +kernel
theorem dX11_spectrumOf_89 : decode cX11_spectrumOf 89 = .ok (.getfield 16, 3) := by decide +kernel
theorem dX11_spectrumOf_92 : decode cX11_spectrumOf 92 = .ok (.ifCond .eq 10, 3) := by decide +kernel
theorem dX11_spectrumOf_95 : decode cX11_spectrumOf 95 = .ok (.aload_n 0, 1) := by decide +kernel
theorem dX11_spectrumOf_96 : decode cX11_spectrumOf 96 = .ok (.getfield 13, 3) := by decide +kernel
theorem dX11_spectrumOf_99 : decode cX11_spectrumOf 99 = .ok (.goto 4, 3) := by decide +kernel
theorem dX11_spectrumOf_102 : decode cX11_spectrumOf 102 = .ok (.aconst_null, 1) := by decide +kernel
theorem dX11_spectrumOf_103 : decode cX11_spectrumOf 103 = .ok (.areturn, 1) := by decide +kernel
theorem dX11_spectrumOf_104 : decode cX11_spectrumOf 104 = .ok (.aload_n 0, 1) := by decide +kernel
theorem dX11_spectrumOf_105 : decode cX11_spectrumOf 105 = .ok (.iconst 5, 1) := by decide +kernel
theorem dX11_spectrumOf_106 : decode cX11_spectrumOf 106 = .ok (.iload_n 2, 1) := by decide +kernel
theorem dX11_spectrumOf_107 : decode cX11_spectrumOf 107 = .ok (.invokevirtual 142, 3) := by decide +kernel
theorem dX11_spectrumOf_110 : decode cX11_spectrumOf 110 = .ok (.ifCond .eq 27, 3) := by decide +kernel
theorem dX11_spectrumOf_113 : decode cX11_spectrumOf 113 = .ok (.aload_n 0, 1) := by decide +kernel
theorem dX11_spectrumOf_114 : decode cX11_spectrumOf 114 = .ok (.getfield 55, 3) := by decide +kernel
theorem dX11_spectrumOf_117 : decode cX11_spectrumOf 117 = .ok (.iload_n 2, 1) := by decide +kernel
theorem dX11_spectrumOf_118 : decode cX11_spectrumOf 118 = .ok (.aaload, 1) := by decide +kernel
theorem dX11_spectrumOf_119 : decode cX11_spectrumOf 119 = .ok (.getfield 336, 3) := by decide +kernel
theorem dX11_spectrumOf_122 : decode cX11_spectrumOf 122 = .ok (.ifCond .eq 15, 3) := by decide +kernel
theorem dX11_spectrumOf_125 : decode cX11_spectrumOf 125 = .ok (.aload_n 0, 1) := by decide +kernel
theorem dX11_spectrumOf_126 : decode cX11_spectrumOf 126 = .ok (.getfield 55, 3) := by decide +kernel
theorem dX11_spectrumOf_129 : decode cX11_spectrumOf 129 = .ok (.iload_n 2, 1) := by decide +kernel
theorem dX11_spectrumOf_130 : decode cX11_spectrumOf 130 = .ok (.aaload, 1) := by decide +kernel
theorem dX11_spectrumOf_131 : decode cX11_spectrumOf 131 = .ok (.getfield 339, 3) := by decide +kernel
theorem dX11_spectrumOf_134 : decode cX11_spectrumOf 134 = .ok (.goto 4, 3) := by decide +kernel
theorem dX11_spectrumOf_137 : decode cX11_spectrumOf 137 = .ok (.aconst_null, 1) := by decide +kernel
theorem dX11_spectrumOf_138 : decode cX11_spectrumOf 138 = .ok (.areturn, 1) := by decide +kernel
theorem dX11_spectrumOf_139 : decode cX11_spectrumOf 139 = .ok (.aconst_null, 1) := by decide +kernel
theorem dX11_spectrumOf_140 : decode cX11_spectrumOf 140 = .ok (.areturn, 1) := by decide +kernel
set_option maxRecDepth 20000 in
theorem ggX11_driftOf_X11_isThere : GoodIn wsX11_driftOf wsX11_isThere := goodIn_r _ [7, 8, 9, 10, 11, 12, 13, 14, 15, 16, 17, 18, 19, 20, 21, 22, 23, 24, 25, 26, 27, 28] (by decide +kernel) (by decide +kernel)
set_option maxRecDepth 20000 in
theorem gX11_driftOf_X11_isThere : GoodIn wsX11_driftOf (wsV RX11 142 RX11 yX11_isThere wsX11_isThere) := goodIn_app (goodIn_of _ (by decide +kernel)) ggX11_driftOf_X11_isThere
theorem dX11_driftOf_0 : decode cX11_driftOf 0 = .ok (.aload_n 0, 1) := by decide +kernel
theorem dX11_driftOf_1 : decode cX11_driftOf 1 = .ok (.iconst 0, 1) := by decide +kernel
theorem dX11_driftOf_2 : decode cX11_driftOf 2 = .ok (.iload_n 1, 1) := by decide +kernel
theorem dX11_driftOf_3 : decode cX11_driftOf 3 = .ok (.invokevirtual 142, 3) := by decide +kernel
theorem dX11_driftOf_6 : decode cX11_driftOf 6 = .ok (.ifCond .eq 15, 3) := by decide +kernel
theorem dX11_driftOf_9 : decode cX11_driftOf 9 = .ok (.aload_n 0, 1) := by decide +kernel
theorem dX11_driftOf_10 : decode cX11_driftOf 10 = .ok (.getfield 26, 3) := by decide +kernel
theorem dX11_driftOf_13 : decode cX11_driftOf 13 = .ok (.iload_n 1, 1) := by decide +kernel
theorem dX11_driftOf_14 : decode cX11_driftOf 14 = .ok (.aaload, 1) := by decide +kernel
theorem dX11_driftOf_15 : decode cX11_driftOf 15 = .ok (.getfield 412, 3) := by decide +kernel
theorem dX11_driftOf_18 : decode cX11_driftOf 18 = .ok (.goto 4, 3) := by decide +kernel
theorem dX11_driftOf_21 : decode cX11_driftOf 21 = .ok (.aconst_null, 1) := by decide +kernel
theorem dX11_driftOf_22 : decode cX11_driftOf 22 = .ok (.areturn, 1) := by decide +kernel
set_option maxRecDepth 20000 in
theorem ggX11_mixPart_X11_isThere : GoodIn wsX11_mixPart wsX11_isThere := goodIn_r _ [9, 10, 42, 43, 44, 45, 46, 47, 48, 49, 50, 51, 52, 53, 54, 55, 56, 57, 58, 59, 60, 61] (by decide +kernel) (by decide +kernel)
set_option maxRecDepth 20000 in
theorem gX11_mixPart_X11_isThere : GoodIn wsX11_mixPart (wsV RX11 142 RX11 yX11_isThere wsX11_isThere) := goodIn_app (goodIn_of _ (by decide +kernel)) ggX11_mixPart_X11_isThere
set_option maxRecDepth 20000 in
theorem ggX11_mixPart_X4_worthOf : GoodIn wsX11_mixPart wsX4_worthOf := goodIn_r _ [15, 16, 17, 62, 63, 64, 65, 66] (by decide +kernel) (by decide +kernel)
set_option maxRecDepth 20000 in
theorem gX11_mixPart_X4_worthOf : GoodIn wsX11_mixPart (wsV RX11 418 RX4 yX4_worthOf wsX4_worthOf) := goodIn_app (goodIn_of _ (by decide +kernel)) ggX11_mixPart_X4_worthOf
set_option maxRecDepth 20000 in
theorem ggX11_mixPart_X6_add : GoodIn wsX11_mixPart wsX6_add := goodIn_r _ [22, 23, 24, 25, 26, 27, 28, 29, 30, 31, 32, 33, 34, 35, 21, 36, 37, 38, 39, 40, 41, 67, 68, 69, 70, 71, 72, 73] (by decide +kernel) (by decide +kernel)
set_option maxRecDepth 20000 in
theorem gX11_mixPart_X6_add : GoodIn wsX11_mixPart (wsV RX11 422 RX6 yX6_add wsX6_add) := goodIn_app (goodIn_of _ (by decide +kernel)) ggX11_mixPart_X6_add
theorem dX11_mixPart_0 : decode cX11_mixPart 0 = .ok (.aload_n 0, 1) := by decide +kernel
theorem dX11_mixPart_1 : decode cX11_mixPart 1 = .ok (.iload_n 1, 1) := by decide +kernel
theorem dX11_mixPart_2 : decode cX11_mixPart 2 = .ok (.iload_n 2, 1) := by decide +kernel
theorem dX11_mixPart_3 : decode cX11_mixPart 3 = .ok (.invokevirtual 142, 3) := by decide +kernel
theorem dX11_mixPart_6 : decode cX11_mixPart 6 = .ok (.ifCond .ne 4, 3) := by decide +kernel
theorem dX11_mixPart_9 : decode cX11_mixPart 9 = .ok (.return_, 1) := by decide +kernel
theorem dX11_mixPart_10 : decode cX11_mixPart 10 = .ok (.iload_n 1, 1) := by decide +kernel
theorem dX11_mixPart_11 : decode cX11_mixPart 11 = .ok (.iconst 4, 1) := by decide +kernel
theorem dX11_mixPart_12 : decode cX11_mixPart 12 = .ok (.if_icmp .ne 37, 3) := by decide +kernel
theorem dX11_mixPart_15 : decode cX11_mixPart 15 = .ok (.aload_n 0, 1) := by decide +kernel
theorem dX11_mixPart_16 : decode cX11_mixPart 16 = .ok (.getfield 82, 3) := by decide +kernel
theorem dX11_mixPart_19 : decode cX11_mixPart 19 = .ok (.aload_n 0, 1) := by decide +kernel
theorem dX11_mixPart_20 : decode cX11_mixPart 20 = .ok (.getfield 37, 3) := by decide +kernel
theorem dX11_mixPart_23 : decode cX11_mixPart 23 = .ok (.aload_n 0, 1) := by decide +kernel
theorem dX11_mixPart_24 : decode cX11_mixPart 24 = .ok (.getfield 49, 3) := by decide +kernel
theorem dX11_mixPart_27 : decode cX11_mixPart 27 = .ok (.iload_n 2, 1) := by decide +kernel
theorem dX11_mixPart_28 : decode cX11_mixPart 28 = .ok (.aaload, 1) := by decide +kernel
theorem dX11_mixPart_29 : decode cX11_mixPart 29 = .ok (.getfield 415, 3) := by decide +kernel
theorem dX11_mixPart_32 : decode cX11_mixPart 32 = .ok (.aaload, 1) := by decide +kernel
theorem dX11_mixPart_33 : decode cX11_mixPart 33 = .ok (.aload_n 0, 1) := by decide +kernel
theorem dX11_mixPart_34 : decode cX11_mixPart 34 = .ok (.getfield 49, 3) := by decide +kernel
theorem dX11_mixPart_37 : decode cX11_mixPart 37 = .ok (.iload_n 2, 1) := by decide +kernel
theorem dX11_mixPart_38 : decode cX11_mixPart 38 = .ok (.aaload, 1) := by decide +kernel
theorem dX11_mixPart_39 : decode cX11_mixPart 39 = .ok (.lload_n 3, 1) := by decide +kernel
theorem dX11_mixPart_40 : decode cX11_mixPart 40 = .ok (.invokevirtual 418, 3) := by decide +kernel
theorem dX11_mixPart_43 : decode cX11_mixPart 43 = .ok (.invokevirtual 422, 3) := by decide +kernel
theorem dX11_mixPart_46 : decode cX11_mixPart 46 = .ok (.goto 18, 3) := by decide +kernel
theorem dX11_mixPart_49 : decode cX11_mixPart 49 = .ok (.aload_n 0, 1) := by decide +kernel
theorem dX11_mixPart_50 : decode cX11_mixPart 50 = .ok (.getfield 82, 3) := by decide +kernel
theorem dX11_mixPart_53 : decode cX11_mixPart 53 = .ok (.aload_n 0, 1) := by decide +kernel
theorem dX11_mixPart_54 : decode cX11_mixPart 54 = .ok (.getfield 37, 3) := by decide +kernel
theorem dX11_mixPart_57 : decode cX11_mixPart 57 = .ok (.iload_n 2, 1) := by decide +kernel
theorem dX11_mixPart_58 : decode cX11_mixPart 58 = .ok (.aaload, 1) := by decide +kernel
theorem dX11_mixPart_59 : decode cX11_mixPart 59 = .ok (.lload_n 3, 1) := by decide +kernel
theorem dX11_mixPart_60 : decode cX11_mixPart 60 = .ok (.l2d, 1) := by decide +kernel
theorem dX11_mixPart_61 : decode cX11_mixPart 61 = .ok (.invokevirtual 422, 3) := by decide +kernel
theorem dX11_mixPart_64 : decode cX11_mixPart 64 = .ok (.return_, 1) := by decide +kernel
set_option maxRecDepth 20000 in
theorem ggX11_chipGap_X9_aim : GoodIn wsX11_chipGap wsX9_aim := goodIn_r _ [8, 9, 10, 11, 12, 76, 77, 78, 79, 80, 81, 82, 83, 84] (by decide +kernel) (by decide +kernel)
set_option maxRecDepth 20000 in
theorem gX11_chipGap_X9_aim : GoodIn wsX11_chipGap (wsV RX11 225 RX9 yX9_aim wsX9_aim) := goodIn_app (goodIn_of _ (by decide +kernel)) ggX11_chipGap_X9_aim
set_option maxRecDepth 20000 in
theorem ggX11_chipGap_X9_setGoal : GoodIn wsX11_chipGap wsX9_setGoal := goodIn_r _ [16, 17, 18, 19, 20, 21, 22, 23, 24, 7, 25, 26, 27, 28, 29, 30, 31, 32, 12, 11, 33, 34, 35, 36, 37, 38, 39, 40, 41, 42, 43, 44, 45, 46, 76, 77, 78, 79, 80, 81, 82, 83, 84] (by decide +kernel) (by decide +kernel)
set_option maxRecDepth 20000 in
theorem gX11_chipGap_X9_setGoal : GoodIn wsX11_chipGap (wsV RX11 243 RX9 yX9_setGoal wsX9_setGoal) := goodIn_app (goodIn_of _ (by decide +kernel)) ggX11_chipGap_X9_setGoal
set_option maxRecDepth 20000 in
theorem ggX11_chipGap_X9_gapTo : GoodIn wsX11_chipGap wsX9_gapTo := goodIn_r _ [50, 17, 26, 51, 52, 53, 22, 23, 24, 7, 25, 27, 28, 29, 30, 31, 32, 12, 11, 33, 34, 35, 36, 37, 38, 39, 40, 41, 42, 43, 44, 45, 46, 76, 77, 78, 79, 80, 81, 82, 83, 84] (by decide +kernel) (by decide +kernel)
set_option maxRecDepth 20000 in
theorem gX11_chipGap_X9_gapTo : GoodIn wsX11_chipGap (wsV RX11 246 RX9 yX9_gapTo wsX9_gapTo) := goodIn_app (goodIn_of _ (by decide +kernel)) ggX11_chipGap_X9_gapTo
theorem dX11_chipGap_0 : decode cX11_chipGap 0 = .ok (.aload_n 0, 1) := by decide +kernel
theorem dX11_chipGap_1 : decode cX11_chipGap 1 = .ok (.getfield 71, 3) := by decide +kernel
theorem dX11_chipGap_4 : decode cX11_chipGap 4 = .ok (.iload_n 3, 1) := by decide +kernel
theorem dX11_chipGap_5 : decode cX11_chipGap 5 = .ok (.iload 4, 2) := by decide +kernel
theorem dX11_chipGap_7 : decode cX11_chipGap 7 = .ok (.invokevirtual 225, 3) := by decide +kernel
theorem dX11_chipGap_10 : decode cX11_chipGap 10 = .ok (.aload_n 0, 1) := by decide +kernel
theorem dX11_chipGap_11 : decode cX11_chipGap 11 = .ok (.getfield 71, 3) := by decide +kernel
theorem dX11_chipGap_14 : decode cX11_chipGap 14 = .ok (.aload_n 0, 1) := by decide +kernel
theorem dX11_chipGap_15 : decode cX11_chipGap 15 = .ok (.getfield 26, 3) := by decide +kernel
theorem dX11_chipGap_18 : decode cX11_chipGap 18 = .ok (.iload_n 1, 1) := by decide +kernel
theorem dX11_chipGap_19 : decode cX11_chipGap 19 = .ok (.aaload, 1) := by decide +kernel
theorem dX11_chipGap_20 : decode cX11_chipGap 20 = .ok (.getfield 132, 3) := by decide +kernel
theorem dX11_chipGap_23 : decode cX11_chipGap 23 = .ok (.invokevirtual 243, 3) := by decide +kernel
theorem dX11_chipGap_26 : decode cX11_chipGap 26 = .ok (.aload_n 0, 1) := by decide +kernel
theorem dX11_chipGap_27 : decode cX11_chipGap 27 = .ok (.getfield 71, 3) := by decide +kernel
theorem dX11_chipGap_30 : decode cX11_chipGap 30 = .ok (.aload_n 0, 1) := by decide +kernel
theorem dX11_chipGap_31 : decode cX11_chipGap 31 = .ok (.getfield 26, 3) := by decide +kernel
theorem dX11_chipGap_34 : decode cX11_chipGap 34 = .ok (.iload_n 2, 1) := by decide +kernel
theorem dX11_chipGap_35 : decode cX11_chipGap 35 = .ok (.aaload, 1) := by decide +kernel
theorem dX11_chipGap_36 : decode cX11_chipGap 36 = .ok (.getfield 132, 3) := by decide +kernel
theorem dX11_chipGap_39 : decode cX11_chipGap 39 = .ok (.invokevirtual 246, 3) := by decide +kernel
theorem dX11_chipGap_42 : decode cX11_chipGap 42 = .ok (.dreturn, 1) := by decide +kernel
theorem dX11_nearerThan_0 : decode cX11_nearerThan 0 = .ok (.iconst 0, 1) := by decide +kernel
theorem dX11_nearerThan_1 : decode cX11_nearerThan 1 = .ok (.istore_n 2, 1) := by decide +kernel
theorem dX11_nearerThan_2 : decode cX11_nearerThan 2 = .ok (.iconst 0, 1) := by decide +kernel
theorem dX11_nearerThan_3 : decode cX11_nearerThan 3 = .ok (.istore_n 3, 1) := by decide +kernel
theorem dX11_nearerThan_4 : decode cX11_nearerThan 4 = .ok (.iload_n 3, 1) := by decide +kernel
theorem dX11_nearerThan_5 : decode cX11_nearerThan 5 = .ok (.aload_n 0, 1) := by decide +kernel
theorem dX11_nearerThan_6 : decode cX11_nearerThan 6 = .ok (.getfield 20, 3) := by decide +kernel
theorem dX11_nearerThan_9 : decode cX11_nearerThan 9 = .ok (.iconst 0, 1) := by decide +kernel
theorem dX11_nearerThan_10 : decode cX11_nearerThan 10 = .ok (.iaload, 1) := by decide +kernel
theorem dX11_nearerThan_11 : decode cX11_nearerThan 11 = .ok (.if_icmp .ge 49, 3) := by decide +kernel
theorem dX11_nearerThan_14 : decode cX11_nearerThan 14 = .ok (.aload_n 0, 1) := by decide +kernel
theorem dX11_nearerThan_15 : decode cX11_nearerThan 15 = .ok (.getfield 75, 3) := by decide +kernel
theorem dX11_nearerThan_18 : decode cX11_nearerThan 18 = .ok (.iload_n 3, 1) := by decide +kernel
theorem dX11_nearerThan_19 : decode cX11_nearerThan 19 = .ok (.daload, 1) := by decide +kernel
theorem dX11_nearerThan_20 : decode cX11_nearerThan 20 = .ok (.aload_n 0, 1) := by decide +kernel
theorem dX11_nearerThan_21 : decode cX11_nearerThan 21 = .ok (.getfield 75, 3) := by decide +kernel
theorem dX11_nearerThan_24 : decode cX11_nearerThan 24 = .ok (.iload_n 1, 1) := by decide +kernel
theorem dX11_nearerThan_25 : decode cX11_nearerThan 25 = .ok (.daload, 1) := by decide +kernel
theorem dX11_nearerThan_26 : decode cX11_nearerThan 26 = .ok (.dcmp .g, 1) := by decide +kernel
theorem dX11_nearerThan_27 : decode cX11_nearerThan 27 = .ok (.ifCond .lt 24, 3) := by decide +kernel
theorem dX11_nearerThan_30 : decode cX11_nearerThan 30 = .ok (.aload_n 0, 1) := by decide +kernel
theorem dX11_nearerThan_31 : decode cX11_nearerThan 31 = .ok (.getfield 75, 3) := by decide +kernel
theorem dX11_nearerThan_34 : decode cX11_nearerThan 34 = .ok (.iload_n 3, 1) := by decide +kernel
theorem dX11_nearerThan_35 : decode cX11_nearerThan 35 = .ok (.daload, 1) := by decide +kernel
theorem dX11_nearerThan_36 : decode cX11_nearerThan 36 = .ok (.aload_n 0, 1) := by decide +kernel
theorem dX11_nearerThan_37 : decode cX11_nearerThan 37 = .ok (.getfield 75, 3) := by decide +kernel
theorem dX11_nearerThan_40 : decode cX11_nearerThan 40 = .ok (.iload_n 1, 1) := by decide +kernel
theorem dX11_nearerThan_41 : decode cX11_nearerThan 41 = .ok (.daload, 1) := by decide +kernel
theorem dX11_nearerThan_42 : decode cX11_nearerThan 42 = .ok (.dcmp .l, 1) := by decide +kernel
theorem dX11_nearerThan_43 : decode cX11_nearerThan 43 = .ok (.ifCond .ne 11, 3) := by decide +kernel
theorem dX11_nearerThan_46 : decode cX11_nearerThan 46 = .ok (.iload_n 3, 1) := by decide +kernel
theorem dX11_nearerThan_47 : decode cX11_nearerThan 47 = .ok (.iload_n 1, 1) := by decide +kernel
theorem dX11_nearerThan_48 : decode cX11_nearerThan 48 = .ok (.if_icmp .ge 6, 3) := by decide +kernel
theorem dX11_nearerThan_51 : decode cX11_nearerThan 51 = .ok (.iinc 2 1, 3) := by decide +kernel
theorem dX11_nearerThan_54 : decode cX11_nearerThan 54 = .ok (.iinc 3 1, 3) := by decide +kernel
theorem dX11_nearerThan_57 : decode cX11_nearerThan 57 = .ok (.goto (-53), 3) := by decide +kernel
