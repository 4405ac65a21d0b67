theorem dX12_sumOf_21 : decode cX12_sumOf 21 = .ok (.iand, 1) := by decide +kernel
theorem dX12_sumOf_22 : decode cX12_sumOf 22 = .ok (.iadd, 1) := by decide +kernel
theorem dX12_sumOf_23 : decode cX12_sumOf 23 = .ok (.istore_n 2, 1) := by decide +kernel
theorem dX12_sumOf_24 : decode cX12_sumOf 24 = .ok (.iinc 3 1, 3) := by decide +kernel
theorem dX12_sumOf_27 : decode cX12_sumOf 27 = .ok (.goto (-22), 3) := by decide +kernel
theorem dX12_sumOf_30 : decode cX12_sumOf 30 = .ok (.iload_n 2, 1) := by decide +kernel
theorem dX12_sumOf_31 : decode cX12_sumOf 31 = .ok (.ireturn, 1) := by decide +kernel
set_option maxRecDepth 20000 in
theorem ggX12_pack_X12_placeOf : GoodIn wsX12_pack wsX12_placeOf := goodIn_r _ [9, 10, 11, 12, 13, 14, 15, 16, 17, 8, 18, 39, 40, 41, 42, 43, 44, 45, 46, 47, 48, 49, 50, 51, 52, 53, 54, 55, 56, 57, 58, 59, 60, 61, 62, 63, 64, 65, 66, 67, 68, 69, 70, 71, 72, 73, 74, 75, 76, 77, 78, 79, 80, 81, 82, 83, 84, 85, 86, 87, 88, 89, 90, 91, 92, 93, 94, 95, 96, 97, 98, 99, 100, 101, 102, 103, 104, 105, 106, 107, 108, 109, 110, 111, 112, 113, 114] (by decide +kernel) (by decide +kernel)
set_option maxRecDepth 20000 in
theorem gX12_pack_X12_placeOf : GoodIn wsX12_pack (wsV RX12 227 RX12 yX12_placeOf wsX12_placeOf) := goodIn_app (goodIn_of _ (by decide +kernel)) ggX12_pack_X12_placeOf
set_option maxRecDepth 20000 in
theorem ggX12_pack_Jxf58ca_floatToIntBits_5c35a : GoodIn wsX12_pack wsJxf58ca_floatToIntBits_5c35a := goodIn_r _ [22, 23, 24, 25, 26, 27, 28, 29, 21, 30] (by decide +kernel) (by decide +kernel)
set_option maxRecDepth 20000 in
theorem gX12_pack_Jxf58ca_floatToIntBits_5c35a : GoodIn wsX12_pack (va_wsS RX12 223 yJxf58ca_floatToIntBits_5c35a wsJxf58ca_floatToIntBits_5c35a) := goodIn_app (goodIn_of _ (by decide +kernel)) ggX12_pack_Jxf58ca_floatToIntBits_5c35a
set_option maxRecDepth 20000 in
theorem ggX12_pack_X12_four : GoodIn wsX12_pack wsX12_four := goodIn_r _ [34, 3, 39, 40, 41, 42, 43, 44, 45, 46, 47, 48, 49, 50, 51, 52, 53, 54, 55, 56, 57, 58, 59, 60, 61, 62, 63, 64, 65, 66, 67, 68, 69, 70, 71, 72, 73, 74, 75, 76, 77, 78, 79, 80, 81, 82, 83, 84, 85, 86, 87, 88, 89, 90, 91, 92, 93, 94, 95, 96, 97, 98, 99, 100, 101, 102, 103, 104, 105, 106, 107, 108, 109, 110, 111, 112, 113, 114] (by decide +kernel) (by decide +kernel)
set_option maxRecDepth 20000 in
theorem gX12_pack_X12_four : GoodIn wsX12_pack (wsV RX12 410 RX12 yX12_four wsX12_four) := goodIn_app (goodIn_of _ (by decide +kernel)) ggX12_pack_X12_four
set_option maxRecDepth 20000 in
theorem ggX12_pack_X12_sumOf : GoodIn wsX12_pack wsX12_sumOf := goodIn_r _ [38] (by decide +kernel) (by decide +kernel)
set_option maxRecDepth 20000 in
theorem gX12_pack_X12_sumOf : GoodIn wsX12_pack (wsV RX12 413 RX12 yX12_sumOf wsX12_sumOf) := goodIn_app (goodIn_of _ (by decide +kernel)) ggX12_pack_X12_sumOf
theorem dX12_pack_0 : decode cX12_pack 0 = .ok (.aload_n 0, 1) := by decide +kernel
theorem dX12_pack_1 : decode cX12_pack 1 = .ok (.iconst 0, 1) := by decide +kernel
theorem dX12_pack_2 : decode cX12_pack 2 = .ok (.putfield 149, 3) := by decide +kernel
theorem dX12_pack_5 : decode cX12_pack 5 = .ok (.aload_n 0, 1) := by decide +kernel
theorem dX12_pack_6 : decode cX12_pack 6 = .ok (.iload_n 1, 1) := by decide +kernel
theorem dX12_pack_7 : decode cX12_pack 7 = .ok (.iload_n 2, 1) := by decide +kernel
theorem dX12_pack_8 : decode cX12_pack 8 = .ok (.invokevirtual 227, 3) := by decide +kernel
theorem dX12_pack_11 : decode cX12_pack 11 = .ok (.istore_n 3, 1) := by decide +kernel
theorem dX12_pack_12 : decode cX12_pack 12 = .ok (.iload_n 3, 1) := by decide +kernel
theorem dX12_pack_13 : decode cX12_pack 13 = .ok (.iconst (-1), 1) := by decide +kernel
theorem dX12_pack_14 : decode cX12_pack 14 = .ok (.if_icmp .ne 5, 3) := by decide +kernel
theorem dX12_pack_17 : decode cX12_pack 17 = .ok (.iconst (-1), 1) := by decide +kernel
theorem dX12_pack_18 : decode cX12_pack 18 = .ok (.ireturn, 1) := by decide +kernel
theorem dX12_pack_19 : decode cX12_pack 19 = .ok (.iconst 0, 1) := by decide +kernel
theorem dX12_pack_20 : decode cX12_pack 20 = .ok (.istore 4, 2) := by decide +kernel
theorem dX12_pack_22 : decode cX12_pack 22 = .ok (.iload 4, 2) := by decide +kernel
theorem dX12_pack_24 : decode cX12_pack 24 = .ok (.bipush 16, 2) := by decide +kernel
theorem dX12_pack_26 : decode cX12_pack 26 = .ok (.if_icmp .ge 32, 3) := by decide +kernel
theorem dX12_pack_29 : decode cX12_pack 29 = .ok (.aload_n 0, 1) := by decide +kernel
theorem dX12_pack_30 : decode cX12_pack 30 = .ok (.iconst 4, 1) := by decide +kernel
theorem dX12_pack_31 : decode cX12_pack 31 = .ok (.iload 4, 2) := by decide +kernel
theorem dX12_pack_33 : decode cX12_pack 33 = .ok (.imul, 1) := by decide +kernel
theorem dX12_pack_34 : decode cX12_pack 34 = .ok (.aload_n 0, 1) := by decide +kernel
theorem dX12_pack_35 : decode cX12_pack 35 = .ok (.getfield 7, 3) := by decide +kernel
theorem dX12_pack_38 : decode cX12_pack 38 = .ok (.bipush 16, 2) := by decide +kernel
theorem dX12_pack_40 : decode cX12_pack 40 = .ok (.iload_n 3, 1) := by decide +kernel
theorem dX12_pack_41 : decode cX12_pack 41 = .ok (.imul, 1) := by decide +kernel
theorem dX12_pack_42 : decode cX12_pack 42 = .ok (.iload 4, 2) := by decide +kernel
theorem dX12_pack_44 : decode cX12_pack 44 = .ok (.iadd, 1) := by decide +kernel
theorem dX12_pack_45 : decode cX12_pack 45 = .ok (.faload, 1) := by decide +kernel
theorem dX12_pack_46 : decode cX12_pack 46 = .ok (.invokestatic 223, 3) := by decide +kernel
theorem dX12_pack_49 : decode cX12_pack 49 = .ok (.invokevirtual 410, 3) := by decide +kernel
theorem dX12_pack_52 : decode cX12_pack 52 = .ok (.iinc 4 1, 3) := by decide +kernel
theorem dX12_pack_55 : decode cX12_pack 55 = .ok (.goto (-33), 3) := by decide +kernel
theorem dX12_pack_58 : decode cX12_pack 58 = .ok (.aload_n 0, 1) := by decide +kernel
theorem dX12_pack_59 : decode cX12_pack 59 = .ok (.bipush 64, 2) := by decide +kernel
theorem dX12_pack_61 : decode cX12_pack 61 = .ok (.aload_n 0, 1) := by decide +kernel
theorem dX12_pack_62 : decode cX12_pack 62 = .ok (.aload_n 0, 1) := by decide +kernel
theorem dX12_pack_63 : decode cX12_pack 63 = .ok (.getfield 142, 3) := by decide +kernel
theorem dX12_pack_66 : decode cX12_pack 66 = .ok (.invokevirtual 413, 3) := by decide +kernel
theorem dX12_pack_69 : decode cX12_pack 69 = .ok (.invokevirtual 410, 3) := by decide +kernel
theorem dX12_pack_72 : decode cX12_pack 72 = .ok (.aload_n 0, 1) := by decide +kernel
theorem dX12_pack_73 : decode cX12_pack 73 = .ok (.bipush 68, 2) := by decide +kernel
theorem dX12_pack_75 : decode cX12_pack 75 = .ok (.putfield 417, 3) := by decide +kernel
theorem dX12_pack_78 : decode cX12_pack 78 = .ok (.bipush 68, 2) := by decide +kernel
theorem dX12_pack_80 : decode cX12_pack 80 = .ok (.ireturn, 1) := by decide +kernel
set_option maxRecDepth 20000 in
theorem ggX12_out_X12_is : GoodIn wsX12_out wsX12_is := goodIn_r _ [8] (by decide +kernel) (by decide +kernel)
set_option maxRecDepth 20000 in
theorem gX12_out_X12_is : GoodIn wsX12_out (wsV RX12 186 RX12 yX12_is wsX12_is) := goodIn_app (goodIn_of _ (by decide +kernel)) ggX12_out_X12_is
theorem dX12_out_0 : decode cX12_out 0 = .ok (.aload_n 0, 1) := by decide +kernel
theorem dX12_out_1 : decode cX12_out 1 = .ok (.aload_n 0, 1) := by decide +kernel
theorem dX12_out_2 : decode cX12_out 2 = .ok (.iload_n 1, 1) := by decide +kernel
theorem dX12_out_3 : decode cX12_out 3 = .ok (.aload_n 0, 1) := by decide +kernel
theorem dX12_out_4 : decode cX12_out 4 = .ok (.getfield 417, 3) := by decide +kernel
theorem dX12_out_7 : decode cX12_out 7 = .ok (.invokevirtual 186, 3) := by decide +kernel
theorem dX12_out_10 : decode cX12_out 10 = .ok (.ifCond .eq 7, 3) := by decide +kernel
theorem dX12_out_13 : decode cX12_out 13 = .ok (.iconst 0, 1) := by decide +kernel
theorem dX12_out_14 : decode cX12_out 14 = .ok (.goto 4, 3) := by decide +kernel
theorem dX12_out_17 : decode cX12_out 17 = .ok (.iconst 1, 1) := by decide +kernel
theorem dX12_out_18 : decode cX12_out 18 = .ok (.putfield 149, 3) := by decide +kernel
theorem dX12_out_21 : decode cX12_out 21 = .ok (.aload_n 0, 1) := by decide +kernel
theorem dX12_out_22 : decode cX12_out 22 = .ok (.getfield 149, 3) := by decide +kernel
theorem dX12_out_25 : decode cX12_out 25 = .ok (.ifCond .ne 16, 3) := by decide +kernel
theorem dX12_out_28 : decode cX12_out 28 = .ok (.aload_n 0, 1) := by decide +kernel
theorem dX12_out_29 : decode cX12_out 29 = .ok (.getfield 142, 3) := by decide +kernel
theorem dX12_out_32 : decode cX12_out 32 = .ok (.iload_n 1, 1) := by decide +kernel
theorem dX12_out_33 : decode cX12_out 33 = .ok (.baload, 1) := by decide +kernel
theorem dX12_out_34 : decode cX12_out 34 = .ok (.sipush 255, 3) := by decide +kernel
theorem dX12_out_37 : decode cX12_out 37 = .ok (.iand, 1) := by decide +kernel
theorem dX12_out_38 : decode cX12_out 38 = .ok (.goto 4, 3) := by decide +kernel
theorem dX12_out_41 : decode cX12_out 41 = .ok (.iconst 0, 1) := by decide +kernel
theorem dX12_out_42 : decode cX12_out 42 = .ok (.ireturn, 1) := by decide +kernel
set_option maxRecDepth 20000 in
theorem ggX12_letter_X12_is : GoodIn wsX12_letter wsX12_is := goodIn_r _ [7] (by decide +kernel) (by decide +kernel)
set_option maxRecDepth 20000 in
theorem gX12_letter_X12_is : GoodIn wsX12_letter (wsV RX12 186 RX12 yX12_is wsX12_is) := goodIn_app (goodIn_of _ (by decide +kernel)) ggX12_letter_X12_is
theorem dX12_letter_0 : decode cX12_letter 0 = .ok (.aload_n 0, 1) := by decide +kernel
theorem dX12_letter_1 : decode cX12_letter 1 = .ok (.iconst 0, 1) := by decide +kernel
theorem dX12_letter_2 : decode cX12_letter 2 = .ok (.putfield 149, 3) := by decide +kernel
theorem dX12_letter_5 : decode cX12_letter 5 = .ok (.aload_n 0, 1) := by decide +kernel
theorem dX12_letter_6 : decode cX12_letter 6 = .ok (.iload_n 1, 1) := by decide +kernel
theorem dX12_letter_7 : decode cX12_letter 7 = .ok (.bipush 68, 2) := by decide +kernel
theorem dX12_letter_9 : decode cX12_letter 9 = .ok (.invokevirtual 186, 3) := by decide +kernel
theorem dX12_letter_12 : decode cX12_letter 12 = .ok (.ifCond .eq 14, 3) := by decide +kernel
theorem dX12_letter_15 : decode cX12_letter 15 = .ok (.aload_n 0, 1) := by decide +kernel
theorem dX12_letter_16 : decode cX12_letter 16 = .ok (.iload_n 2, 1) := by decide +kernel
theorem dX12_letter_17 : decode cX12_letter 17 = .ok (.sipush 256, 3) := by decide +kernel
theorem dX12_letter_20 : decode cX12_letter 20 = .ok (.invokevirtual 186, 3) := by decide +kernel
theorem dX12_letter_23 : decode cX12_letter 23 = .ok (.ifCond .ne 5, 3) := by decide +kernel
theorem dX12_letter_26 : decode cX12_letter 26 = .ok (.iconst 0, 1) := by decide +kernel
theorem dX12_letter_27 : decode cX12_letter 27 = .ok (.ireturn, 1) := by decide +kernel
theorem dX12_letter_28 : decode cX12_letter 28 = .ok (.aload_n 0, 1) := by decide +kernel
theorem dX12_letter_29 : decode cX12_letter 29 = .ok (.getfield 146, 3) := by decide +kernel
theorem dX12_letter_32 : decode cX12_letter 32 = .ok (.iload_n 1, 1) := by decide +kernel
theorem dX12_letter_33 : decode cX12_letter 33 = .ok (.iload_n 2, 1) := by decide +kernel
theorem dX12_letter_34 : decode cX12_letter 34 = .ok (.i2b, 1) := by decide +kernel
theorem dX12_letter_35 : decode cX12_letter 35 = .ok (.bastore, 1) := by decide +kernel
theorem dX12_letter_36 : decode cX12_letter 36 = .ok (.iconst 1, 1) := by decide +kernel
theorem dX12_letter_37 : decode cX12_letter 37 = .ok (.ireturn, 1) := by decide +kernel
theorem dX12_post_0 : decode cX12_post 0 = .ok (.aload_n 0, 1) := by decide +kernel
theorem dX12_post_1 : decode cX12_post 1 = .ok (.iconst 0, 1) := by decide +kernel
theorem dX12_post_2 : decode cX12_post 2 = .ok (.putfield 149, 3) := by decide +kernel
theorem dX12_post_5 : decode cX12_post 5 = .ok (.aload_n 0, 1) := by decide +kernel
theorem dX12_post_6 : decode cX12_post 6 = .ok (.getfield 417, 3) := by decide +kernel
theorem dX12_post_9 : decode cX12_post 9 = .ok (.bipush 68, 2) := by decide +kernel
theorem dX12_post_11 : decode cX12_post 11 = .ok (.if_icmp .eq 5, 3) := by decide +kernel
theorem dX12_post_14 : decode cX12_post 14 = .ok (.iconst 0, 1) := by decide +kernel
theorem dX12_post_15 : decode cX12_post 15 = .ok (.ireturn, 1) := by decide +kernel
theorem dX12_post_16 : decode cX12_post 16 = .ok (.iconst 0, 1) := by decide +kernel
theorem dX12_post_17 : decode cX12_post 17 = .ok (.istore_n 1, 1) := by decide +kernel
theorem dX12_post_18 : decode cX12_post 18 = .ok (.iload_n 1, 1) := by decide +kernel
theorem dX12_post_19 : decode cX12_post 19 = .ok (.bipush 68, 2) := by decide +kernel
theorem dX12_post_21 : decode cX12_post 21 = .ok (.if_icmp .ge 21, 3) := by decide +kernel
theorem dX12_post_24 : decode cX12_post 24 = .ok (.aload_n 0, 1) := by decide +kernel
theorem dX12_post_25 : decode cX12_post 25 = .ok (.getfield 146, 3) := by decide +kernel
theorem dX12_post_28 : decode cX12_post 28 = .ok (.iload_n 1, 1) := by decide +kernel
theorem dX12_post_29 : decode cX12_post 29 = .ok (.aload_n 0, 1) := by decide +kernel
theorem dX12_post_30 : decode cX12_post 30 = .ok (.getfield 142, 3) := by decide +kernel
theorem dX12_post_33 : decode cX12_post 33 = .ok (.iload_n 1, 1) := by decide +kernel
theorem dX12_post_34 : decode cX12_post 34 = .ok (.baload, 1) := by decide +kernel
theorem dX12_post_35 : decode cX12_post 35 = .ok (.bastore, 1) := by decide +kernel
theorem dX12_post_36 : decode cX12_post 36 = .ok (.iinc 1 1, 3) := by decide +kernel
theorem dX12_post_39 : decode cX12_post 39 = .ok (.goto (-21), 3) := by decide +kernel
theorem dX12_post_42 : decode cX12_post 42 = .ok (.iconst 1, 1) := by decide +kernel
theorem dX12_post_43 : decode cX12_post 43 = .ok (.ireturn, 1) := by decide +kernel
theorem dX12_fourOf_0 : decode cX12_fourOf 0 = .ok (.aload_n 0, 1) := by decide +kernel
theorem dX12_fourOf_1 : decode cX12_fourOf 1 = .ok (.getfield 146, 3) := by decide +kernel
theorem dX12_fourOf_4 : decode cX12_fourOf 4 = .ok (.iload_n 1, 1) := by decide +kernel
theorem dX12_fourOf_5 : decode cX12_fourOf 5 = .ok (.baload, 1) := by decide +kernel
theorem dX12_fourOf_6 : decode cX12_fourOf 6 = .ok (.bipush 24, 2) := by decide +kernel
theorem dX12_fourOf_8 : decode cX12_fourOf 8 = .ok (.ishl, 1) := by decide +kernel
theorem dX12_fourOf_9 : decode cX12_fourOf 9 = .ok (.aload_n 0, 1) := by decide +kernel
theorem dX12_fourOf_10 : decode cX12_fourOf 10 = .ok (.getfield 146, 3) := by decide +kernel
theorem dX12_fourOf_13 : decode cX12_fourOf 13 = .ok (.iload_n 1, 1) := by decide +kernel
theorem dX12_fourOf_14 : decode cX12_fourOf 14 = .ok (.iconst 1, 1) := by decide +kernel
theorem dX12_fourOf_15 : decode cX12_fourOf 15 = .ok (.iadd, 1) := by decide +kernel
theorem dX12_fourOf_16 : decode cX12_fourOf 16 = .ok (.baload, 1) := by decide +kernel
theorem dX12_fourOf_17 : decode cX12_fourOf 17 = .ok (.sipush 255, 3) := by decide +kernel
theorem dX12_fourOf_20 : decode cX12_fourOf 20 = .ok (.iand, 1) := by decide +kernel
theorem dX12_fourOf_21 : decode cX12_fourOf 21 = .ok (.bipush 16, 2) := by decide +kernel
theorem dX12_fourOf_23 : decode cX12_fourOf 23 = .ok (.ishl, 1) := by decide +kernel
theorem dX12_fourOf_24 : decode cX12_fourOf 24 = .ok (.ior, 1) := by decide +kernel
theorem dX12_fourOf_25 : decode cX12_fourOf 25 = .ok (.aload_n 0, 1) := by decide +kernel
theorem dX12_fourOf_26 : decode cX12_fourOf 26 = .ok (.getfield 146, 3) := by decide +kernel
theorem dX12_fourOf_29 : decode cX12_fourOf 29 = .ok (.iload_n 1, 1) := by decide +kernel
theorem dX12_fourOf_30 : decode cX12_fourOf 30 = .ok (.iconst 2, 1) := by decide +kernel
theorem dX12_fourOf_31 : decode cX12_fourOf 31 = .ok (.iadd, 1) := by decide +kernel
theorem dX12_fourOf_32 : decode cX12_fourOf 32 = .ok (.baload, 1) := by decide +kernel
theorem dX12_fourOf_33 : decode cX12_fourOf 33 = .ok (.sipush 255, 3) := by decide +kernel
theorem dX12_fourOf_36 : decode cX12_fourOf 36 = .ok (.iand, 1) := by decide +kernel
theorem dX12_fourOf_37 : decode cX12_fourOf 37 = .ok (.bipush 8, 2) := by decide +kernel
theorem dX12_fourOf_39 : decode cX12_fourOf 39 = .ok (.ishl, 1) := by decide +kernel
theorem dX12_fourOf_40 : decode cX12_fourOf 40 = .ok (.ior, 1) := by decide +kernel
theorem dX12_fourOf_41 : decode cX12_fourOf 41 = .ok (.aload_n 0, 1) := by decide +kernel
theorem dX12_fourOf_42 : decode cX12_fourOf 42 = .ok (.getfield 146, 3) := by decide +kernel
theorem dX12_fourOf_45 : decode cX12_fourOf 45 = .ok (.iload_n 1, 1) := by decide +kernel
theorem dX12_fourOf_46 : decode cX12_fourOf 46 = .ok (.iconst 3, 1) := by decide +kernel
theorem dX12_fourOf_47 : decode cX12_fourOf 47 = .ok (.iadd, 1) := by decide +kernel
theorem dX12_fourOf_48 : decode cX12_fourOf 48 = .ok (.baload, 1) := by decide +kernel
theorem dX12_fourOf_49 : decode cX12_fourOf 49 = .ok (.sipush 255, 3) := by decide +kernel
theorem dX12_fourOf_52 : decode cX12_fourOf 52 = .ok (.iand, 1) := by decide +kernel
theorem dX12_fourOf_53 : decode cX12_fourOf 53 = .ok (.ior, 1) := by decide +kernel
theorem dX12_fourOf_54 : decode cX12_fourOf 54 = .ok (.ireturn, 1) := by decide +kernel
set_option maxRecDepth 20000 in
theorem ggX12_unpack_X12_sumOf : GoodIn wsX12_unpack wsX12_sumOf := goodIn_r _ [13] (by decide +kernel) (by decide +kernel)
set_option maxRecDepth 20000 in
theorem gX12_unpack_X12_sumOf : GoodIn wsX12_unpack (wsV RX12 413 RX12 yX12_sumOf wsX12_sumOf) := goodIn_app (goodIn_of _ (by decide +kernel)) ggX12_unpack_X12_sumOf
set_option maxRecDepth 20000 in
theorem ggX12_unpack_X12_fourOf : GoodIn wsX12_unpack wsX12_fourOf := goodIn_r _ [17, 2, 27, 28, 29, 30, 31, 32, 33, 34, 35, 36, 37, 38, 39, 40, 41, 42, 43, 44, 45, 46, 47, 48, 49, 50, 51, 52, 53, 54, 55, 56, 57, 58, 59, 60, 61, 62, 63, 64, 65, 66, 67, 68, 69, 70, 71, 72, 73, 74, 75, 76, 77, 78, 79, 80, 81, 82, 83, 84, 85, 86, 87, 88, 89, 90, 91, 92, 93, 94, 95, 96, 97, 98, 99, 100, 101, 102] (by decide +kernel) (by decide +kernel)
set_option maxRecDepth 20000 in
theorem gX12_unpack_X12_fourOf : GoodIn wsX12_unpack (wsV RX12 420 RX12 yX12_fourOf wsX12_fourOf) := goodIn_app (goodIn_of _ (by decide +kernel)) ggX12_unpack_X12_fourOf
set_option maxRecDepth 20000 in
theorem ggX12_unpack_X12_not : GoodIn wsX12_unpack wsX12_not := goodIn_r _ [21, 8, 27, 28, 29, 30, 31, 32, 33, 34, 35, 36, 37, 38, 39, 40, 41, 42, 43, 44, 45, 46, 47, 48, 49, 50, 51, 52, 53, 54, 55, 56, 57, 58, 59, 60, 61, 62, 63, 64, 65, 66, 67, 68, 69, 70, 71, 72, 73, 74, 75, 76, 77, 78, 79, 80, 81, 82, 83, 84, 85, 86, 87, 88, 89, 90, 91, 92, 93, 94, 95, 96, 97, 98, 99, 100, 101, 102] (by decide +kernel) (by decide +kernel)
set_option maxRecDepth 20000 in
theorem gX12_unpack_X12_not : GoodIn wsX12_unpack (wsV RX12 216 RX12 yX12_not wsX12_not) := goodIn_app (goodIn_of _ (by decide +kernel)) ggX12_unpack_X12_not
set_option maxRecDepth 20000 in
theorem ggX12_unpack_X12_isFloat : GoodIn wsX12_unpack wsX12_isFloat := goodIn_r _ [25, 26] (by decide +kernel) (by decide +kernel)
set_option maxRecDepth 20000 in
theorem gX12_unpack_X12_isFloat : GoodIn wsX12_unpack (wsV RX12 190 RX12 yX12_isFloat wsX12_isFloat) := goodIn_app (goodIn_of _ (by decide +kernel)) ggX12_unpack_X12_isFloat
theorem dX12_unpack_0 : decode cX12_unpack 0 = .ok (.aload_n 0, 1) := by decide +kernel
theorem dX12_unpack_1 : decode cX12_unpack 1 = .ok (.iconst 0, 1) := by decide +kernel
theorem dX12_unpack_2 : decode cX12_unpack 2 = .ok (.putfield 149, 3) := by decide +kernel
theorem dX12_unpack_5 : decode cX12_unpack 5 = .ok (.aload_n 0, 1) := by decide +kernel
theorem dX12_unpack_6 : decode cX12_unpack 6 = .ok (.aload_n 0, 1) := by decide +kernel
theorem dX12_unpack_7 : decode cX12_unpack 7 = .ok (.getfield 146, 3) := by decide +kernel
theorem dX12_unpack_10 : decode cX12_unpack 10 = .ok (.invokevirtual 413, 3) := by decide +kernel
theorem dX12_unpack_13 : decode cX12_unpack 13 = .ok (.aload_n 0, 1) := by decide +kernel
theorem dX12_unpack_14 : decode cX12_unpack 14 = .ok (.bipush 64, 2) := by decide +kernel
theorem dX12_unpack_16 : decode cX12_unpack 16 = .ok (.invokevirtual 420, 3) := by decide +kernel
theorem dX12_unpack_19 : decode cX12_unpack 19 = .ok (.if_icmp .eq 9, 3) := by decide +kernel
theorem dX12_unpack_22 : decode cX12_unpack 22 = .ok (.aload_n 0, 1) := by decide +kernel
theorem dX12_unpack_23 : decode cX12_unpack 23 = .ok (.iconst 5, 1) := by decide +kernel
theorem dX12_unpack_24 : decode cX12_unpack 24 = .ok (.invokevirtual 216, 3) := by decide +kernel
theorem dX12_unpack_27 : decode cX12_unpack 27 = .ok (.ireturn, 1) := by decide +kernel
theorem dX12_unpack_28 : decode cX12_unpack 28 = .ok (.iconst 0, 1) := by decide +kernel
theorem dX12_unpack_29 : decode cX12_unpack 29 = .ok (.istore_n 1, 1) := by decide +kernel
theorem dX12_unpack_30 : decode cX12_unpack 30 = .ok (.iload_n 1, 1) := by decide +kernel
theorem dX12_unpack_31 : decode cX12_unpack 31 = .ok (.bipush 16, 2) := by decide +kernel
theorem dX12_unpack_33 : decode cX12_unpack 33 = .ok (.if_icmp .ge 29, 3) := by decide +kernel
theorem dX12_unpack_36 : decode cX12_unpack 36 = .ok (.aload_n 0, 1) := by decide +kernel
theorem dX12_unpack_37 : decode cX12_unpack 37 = .ok (.aload_n 0, 1) := by decide +kernel
theorem dX12_unpack_38 : decode cX12_unpack 38 = .ok (.iconst 4, 1) := by decide +kernel
theorem dX12_unpack_39 : decode cX12_unpack 39 = .ok (.iload_n 1, 1) := by decide +kernel
theorem dX12_unpack_40 : decode cX12_unpack 40 = .ok (.imul, 1) := by decide +kernel
theorem dX12_unpack_41 : decode cX12_unpack 41 = .ok (.invokevirtual 420, 3) := by decide +kernel
theorem dX12_unpack_44 : decode cX12_unpack 44 = .ok (.invokevirtual 190, 3) := by decide +kernel
theorem dX12_unpack_47 : decode cX12_unpack 47 = .ok (.ifCond .ne 9, 3) := by decide +kernel
theorem dX12_unpack_50 : decode cX12_unpack 50 = .ok (.aload_n 0, 1) := by decide +kernel
theorem dX12_unpack_51 : decode cX12_unpack 51 = .ok (.iconst 3, 1) := by decide +kernel
theorem dX12_unpack_52 : decode cX12_unpack 52 = .ok (.invokevirtual 216, 3) := by decide +kernel
theorem dX12_unpack_55 : decode cX12_unpack 55 = .ok (.ireturn, 1) := by decide +kernel
theorem dX12_unpack_56 : decode cX12_unpack 56 = .ok (.iinc 1 1, 3) := by decide +kernel
theorem dX12_unpack_59 : decode cX12_unpack 59 = .ok (.goto (-29), 3) := by decide +kernel
theorem dX12_unpack_62 : decode cX12_unpack 62 = .ok (.iconst 0, 1) := by decide +kernel
theorem dX12_unpack_63 : decode cX12_unpack 63 = .ok (.istore_n 1, 1) := by decide +kernel
theorem dX12_unpack_64 : decode cX12_unpack 64 = .ok (.iload_n 1, 1) := by decide +kernel
theorem dX12_unpack_65 : decode cX12_unpack 65 = .ok (.bipush 16, 2) := by decide +kernel
theorem dX12_unpack_67 : decode cX12_unpack 67 = .ok (.if_icmp .ge 25, 3) := by decide +kernel
theorem dX12_unpack_70 : decode cX12_unpack 70 = .ok (.aload_n 0, 1) := by decide +kernel
theorem dX12_unpack_71 : decode cX12_unpack 71 = .ok (.getfield 7, 3) := by decide +kernel
theorem dX12_unpack_74 : decode cX12_unpack 74 = .ok (.iload_n 1, 1) := by decide +kernel
theorem dX12_unpack_75 : decode cX12_unpack 75 = .ok (.aload_n 0, 1) := by decide +kernel
theorem dX12_unpack_76 : decode cX12_unpack 76 = .ok (.iconst 4, 1) := by decide +kernel
theorem dX12_unpack_77 : decode cX12_unpack 77 = .ok (.iload_n 1, 1) := by decide +kernel
theorem dX12_unpack_78 : decode cX12_unpack 78 = .ok (.imul, 1) := by decide +kernel
theorem dX12_unpack_79 : decode cX12_unpack 79 = .ok (.invokevirtual 420, 3) := by decide +kernel
theorem dX12_unpack_82 : decode cX12_unpack 82 = .ok (.invokestatic 194, 3) := by decide +kernel
theorem dX12_unpack_85 : decode cX12_unpack 85 = .ok (.fastore, 1) := by decide +kernel
theorem dX12_unpack_86 : decode cX12_unpack 86 = .ok (.iinc 1 1, 3) := by decide +kernel
theorem dX12_unpack_89 : decode cX12_unpack 89 = .ok (.goto (-25), 3) := by decide +kernel
theorem dX12_unpack_92 : decode cX12_unpack 92 = .ok (.aload_n 0, 1) := by decide +kernel
theorem dX12_unpack_93 : decode cX12_unpack 93 = .ok (.iconst 0, 1) := by decide +kernel
theorem dX12_unpack_94 : decode cX12_unpack 94 = .ok (.putfield 153, 3) := by decide +kernel
theorem dX12_unpack_97 : decode cX12_unpack 97 = .ok (.iconst 1, 1) := by decide +kernel
theorem dX12_unpack_98 : decode cX12_unpack 98 = .ok (.ireturn, 1) := by decide +kernel
theorem dX12_trouble_0 : decode cX12_trouble 0 = .ok (.aload_n 0, 1) := by decide +kernel
theorem dX12_trouble_1 : decode cX12_trouble 1 = .ok (.iconst 0, 1) := by decide +kernel
theorem dX12_trouble_2 : decode cX12_trouble 2 = .ok (.putfield 149, 3) := by decide +kernel
theorem dX12_trouble_5 : decode cX12_trouble 5 = .ok (.aload_n 0, 1) := by decide +kernel
theorem dX12_trouble_6 : decode cX12_trouble 6 = .ok (.getfield 153, 3) := by decide +kernel
theorem dX12_trouble_9 : decode cX12_trouble 9 = .ok (.ireturn, 1) := by decide +kernel
theorem dX12_count_0 : decode cX12_count 0 = .ok (.aload_n 0, 1) := by decide +kernel
theorem dX12_count_1 : decode cX12_count 1 = .ok (.iconst 0, 1) := by decide +kernel
theorem dX12_count_2 : decode cX12_count 2 = .ok (.putfield 149, 3) := by decide +kernel
theorem dX12_count_5 : decode cX12_count 5 = .ok (.iload_n 1, 1) := by decide +kernel
theorem dX12_count_6 : decode cX12_count 6 = .ok (.tableswitch 95 0 8 #[50, 55, 60, 65, 70, 75, 80, 85, 90], 50) := by decide +kernel
theorem dX12_count_56 : decode cX12_count 56 = .ok (.aload_n 0, 1) := by decide +kernel
theorem dX12_count_57 : decode cX12_count 57 = .ok (.getfield 160, 3) := by decide +kernel
theorem dX12_count_60 : decode cX12_count 60 = .ok (.ireturn, 1) := by decide +kernel
theorem dX12_count_61 : decode cX12_count 61 = .ok (.aload_n 0, 1) := by decide +kernel
theorem dX12_count_62 : decode cX12_count 62 = .ok (.getfield 163, 3) := by decide +kernel
theorem dX12_count_65 : decode cX12_count 65 = .ok (.ireturn, 1) := by decide +kernel
theorem dX12_count_66 : decode cX12_count 66 = .ok (.aload_n 0, 1) := by decide +kernel
theorem dX12_count_67 : decode cX12_count 67 = .ok (.getfield 166, 3) := by decide +kernel
theorem dX12_count_70 : decode cX12_count 70 = .ok (.ireturn, 1) := by decide +kernel
theorem dX12_count_71 : decode cX12_count 71 = .ok (.aload_n 0, 1) := by decide +kernel
theorem dX12_count_72 : decode cX12_count 72 = .ok (.getfield 169, 3) := by decide +kernel
theorem dX12_count_75 : decode cX12_count 75 = .ok (.ireturn, 1) := by decide +kernel
theorem dX12_count_76 : decode cX12_count 76 = .ok (.aload_n 0, 1) := by decide +kernel
theorem dX12_count_77 : decode cX12_count 77 = .ok (.getfield 172, 3) := by decide +kernel
theorem dX12_count_80 : decode cX12_count 80 = .ok (.ireturn, 1) := by decide +kernel
theorem dX12_count_81 : decode cX12_count 81 = .ok (.aload_n 0, 1) := by decide +kernel
theorem dX12_count_82 : decode cX12_count 82 = .ok (.getfield 175, 3) := by decide +kernel
theorem dX12_count_85 : decode cX12_count 85 = .ok (.ireturn, 1) := by decide +kernel
theorem dX12_count_86 : decode cX12_count 86 = .ok (.aload_n 0, 1) := by decide +kernel
theorem dX12_count_87 : decode cX12_count 87 = .ok (.getfield 231, 3) := by decide +kernel
theorem dX12_count_90 : decode cX12_count 90 = .ok (.ireturn, 1) := by decide +kernel
theorem dX12_count_91 : decode cX12_count 91 = .ok (.aload_n 0, 1) := by decide +kernel
theorem dX12_count_92 : decode cX12_count 92 = .ok (.getfield 157, 3) := by decide +kernel
theorem dX12_count_95 : decode cX12_count 95 = .ok (.ireturn, 1) := by decide +kernel
theorem dX12_count_96 : decode cX12_count 96 = .ok (.aload_n 0, 1) := by decide +kernel
theorem dX12_count_97 : decode cX12_count 97 = .ok (.getfield 417, 3) := by decide +kernel
theorem dX12_count_100 : decode cX12_count 100 = .ok (.ireturn, 1) := by decide +kernel
theorem dX12_count_101 : decode cX12_count 101 = .ok (.iconst (-1), 1) := by decide +kernel
theorem dX12_count_102 : decode cX12_count 102 = .ok (.ireturn, 1) := by decide +kernel
theorem dJxe99ae_isNaN_b9ae7_0 : decode cJxe99ae_isNaN_b9ae7 0 = .ok (.dload_n 0, 1) := by decide +kernel
theorem dJxe99ae_isNaN_b9ae7_1 : decode cJxe99ae_isNaN_b9ae7 1 = .ok (.dload_n 0, 1) := by decide +kernel
theorem dJxe99ae_isNaN_b9ae7_2 : decode cJxe99ae_isNaN_b9ae7 2 = .ok (.dcmp .l, 1) := by decide +kernel
theorem dJxe99ae_isNaN_b9ae7_3 : decode cJxe99ae_isNaN_b9ae7 3 = .ok (.ifCond .eq 7, 3) := by decide +kernel
theorem dJxe99ae_isNaN_b9ae7_6 : decode cJxe99ae_isNaN_b9ae7 6 = .ok (.iconst 1, 1) := by decide +kernel
theorem dJxe99ae_isNaN_b9ae7_7 : decode cJxe99ae_isNaN_b9ae7 7 = .ok (.goto 4, 3) := by decide +kernel
theorem dJxe99ae_isNaN_b9ae7_10 : decode cJxe99ae_isNaN_b9ae7 10 = .ok (.iconst 0, 1) := by decide +kernel
theorem dJxe99ae_isNaN_b9ae7_11 : decode cJxe99ae_isNaN_b9ae7 11 = .ok (.ireturn, 1) := by decide +kernel
set_option maxRecDepth 20000 in
theorem ggJxe99ae_doubleToLongBits_ccdee_Jxe99ae_isNaN_b9ae7 : GoodIn wsJxe99ae_doubleToLongBits_ccdee wsJxe99ae_isNaN_b9ae7 := goodIn_r _ [9] (by decide +kernel) (by decide +kernel)
set_option maxRecDepth 20000 in
theorem gJxe99ae_doubleToLongBits_ccdee_Jxe99ae_isNaN_b9ae7 : GoodIn wsJxe99ae_doubleToLongBits_ccdee (va_wsS RJxe99ae 122 yJxe99ae_isNaN_b9ae7 wsJxe99ae_isNaN_b9ae7) := goodIn_app (goodIn_of _ (by decide +kernel)) ggJxe99ae_doubleToLongBits_ccdee_Jxe99ae_isNaN_b9ae7
theorem dJxe99ae_doubleToLongBits_ccdee_0 : decode cJxe99ae_doubleToLongBits_ccdee 0 = .ok (.dload_n 0, 1) := by decide +kernel
theorem dJxe99ae_doubleToLongBits_ccdee_1 : decode cJxe99ae_doubleToLongBits_ccdee 1 = .ok (.invokestatic 122, 3) := by decide +kernel
theorem dJxe99ae_doubleToLongBits_ccdee_4 : decode cJxe99ae_doubleToLongBits_ccdee 4 = .ok (.ifCond .ne 8, 3) := by decide +kernel
theorem dJxe99ae_doubleToLongBits_ccdee_7 : decode cJxe99ae_doubleToLongBits_ccdee 7 = .ok (.dload_n 0, 1) := by decide +kernel
theorem dJxe99ae_doubleToLongBits_ccdee_8 : decode cJxe99ae_doubleToLongBits_ccdee 8 = .ok (.invokestatic 134, 3) := by decide +kernel
theorem dJxe99ae_doubleToLongBits_ccdee_11 : decode cJxe99ae_doubleToLongBits_ccdee 11 = .ok (.lreturn, 1) := by decide +kernel
theorem dJxe99ae_doubleToLongBits_ccdee_12 : decode cJxe99ae_doubleToLongBits_ccdee 12 = .ok (.ldc2_w 137, 3) := by decide +kernel
theorem dJxe99ae_doubleToLongBits_ccdee_15 : decode cJxe99ae_doubleToLongBits_ccdee 15 = .ok (.lreturn, 1) := by decide +kernel
theorem dJxf58ca_isNaN_12338_0 : decode cJxf58ca_isNaN_12338 0 = .ok (.fload_n 0, 1) := by decide +kernel
theorem dJxf58ca_isNaN_12338_1 : decode cJxf58ca_isNaN_12338 1 = .ok (.fload_n 0, 1) := by decide +kernel
theorem dJxf58ca_isNaN_12338_2 : decode cJxf58ca_isNaN_12338 2 = .ok (.fcmp .l, 1) := by decide +kernel
theorem dJxf58ca_isNaN_12338_3 : decode cJxf58ca_isNaN_12338 3 = .ok (.ifCond .eq 7, 3) := by decide +kernel
theorem dJxf58ca_isNaN_12338_6 : decode cJxf58ca_isNaN_12338 6 = .ok (.iconst 1, 1) := by decide +kernel
theorem dJxf58ca_isNaN_12338_7 : decode cJxf58ca_isNaN_12338 7 = .ok (.goto 4, 3) := by decide +kernel
theorem dJxf58ca_isNaN_12338_10 : decode cJxf58ca_isNaN_12338 10 = .ok (.iconst 0, 1) := by decide +kernel
theorem dJxf58ca_isNaN_12338_11 : decode cJxf58ca_isNaN_12338 11 = .ok (.ireturn, 1) := by decide +kernel
set_option maxRecDepth 20000 in
theorem ggJxf58ca_floatToIntBits_5c35a_Jxf58ca_isNaN_12338 : GoodIn wsJxf58ca_floatToIntBits_5c35a wsJxf58ca_isNaN_12338 := goodIn_r _ [9] (by decide +kernel) (by decide +kernel)
set_option maxRecDepth 20000 in
theorem gJxf58ca_floatToIntBits_5c35a_Jxf58ca_isNaN_12338 : GoodIn wsJxf58ca_floatToIntBits_5c35a (va_wsS RJxf58ca 59 yJxf58ca_isNaN_12338 wsJxf58ca_isNaN_12338) := goodIn_app (goodIn_of _ (by decide +kernel)) ggJxf58ca_floatToIntBits_5c35a_Jxf58ca_isNaN_12338
theorem dJxf58ca_floatToIntBits_5c35a_0 : decode cJxf58ca_floatToIntBits_5c35a 0 = .ok (.fload_n 0, 1) := by decide +kernel
theorem dJxf58ca_floatToIntBits_5c35a_1 : decode cJxf58ca_floatToIntBits_5c35a 1 = .ok (.invokestatic 59, 3) := by decide +kernel
theorem dJxf58ca_floatToIntBits_5c35a_4 : decode cJxf58ca_floatToIntBits_5c35a 4 = .ok (.ifCond .ne 8, 3) := by decide +kernel
theorem dJxf58ca_floatToIntBits_5c35a_7 : decode cJxf58ca_floatToIntBits_5c35a 7 = .ok (.fload_n 0, 1) := by decide +kernel
theorem dJxf58ca_floatToIntBits_5c35a_8 : decode cJxf58ca_floatToIntBits_5c35a 8 = .ok (.invokestatic 74, 3) := by decide +kernel
theorem dJxf58ca_floatToIntBits_5c35a_11 : decode cJxf58ca_floatToIntBits_5c35a 11 = .ok (.ireturn, 1) := by decide +kernel
theorem dJxf58ca_floatToIntBits_5c35a_12 : decode cJxf58ca_floatToIntBits_5c35a 12 = .ok (.ldc 77, 2) := by decide +kernel
theorem dJxf58ca_floatToIntBits_5c35a_14 : decode cJxf58ca_floatToIntBits_5c35a 14 = .ok (.ireturn, 1) := by decide +kernel
theorem dJ9_max_7cf53_0 : decode cJ9_max_7cf53 0 = .ok (.iload_n 0, 1) := by decide +kernel
theorem dJ9_max_7cf53_1 : decode cJ9_max_7cf53 1 = .ok (.iload_n 1, 1) := by decide +kernel
theorem dJ9_max_7cf53_2 : decode cJ9_max_7cf53 2 = .ok (.if_icmp .lt 7, 3) := by decide +kernel
theorem dJ9_max_7cf53_5 : decode cJ9_max_7cf53 5 = .ok (.iload_n 0, 1) := by decide +kernel
theorem dJ9_max_7cf53_6 : decode cJ9_max_7cf53 6 = .ok (.goto 4, 3) := by decide +kernel
theorem dJ9_max_7cf53_9 : decode cJ9_max_7cf53 9 = .ok (.iload_n 1, 1) := by decide +kernel
theorem dJ9_max_7cf53_10 : decode cJ9_max_7cf53 10 = .ok (.ireturn, 1) := by decide +kernel
theorem dJ9_min_7cf53_0 : decode cJ9_min_7cf53 0 = .ok (.iload_n 0, 1) := by decide +kernel
theorem dJ9_min_7cf53_1 : decode cJ9_min_7cf53 1 = .ok (.iload_n 1, 1) := by decide +kernel
theorem dJ9_min_7cf53_2 : decode cJ9_min_7cf53 2 = .ok (.if_icmp .gt 7, 3) := by decide +kernel
theorem dJ9_min_7cf53_5 : decode cJ9_min_7cf53 5 = .ok (.iload_n 0, 1) := by decide +kernel
theorem dJ9_min_7cf53_6 : decode cJ9_min_7cf53 6 = .ok (.goto 4, 3) := by decide +kernel
theorem dJ9_min_7cf53_9 : decode cJ9_min_7cf53 9 = .ok (.iload_n 1, 1) := by decide +kernel
theorem dJ9_min_7cf53_10 : decode cJ9_min_7cf53 10 = .ok (.ireturn, 1) := by decide +kernel
