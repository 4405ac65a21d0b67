theorem dX0_init_0 : decode cX0_init 0 = .ok (.aload_n 0, 1) := by decide +kernel
theorem dX0_init_1 : decode cX0_init 1 = .ok (.invokespecial 3, 3) := by decide +kernel
theorem dX0_init_4 : decode cX0_init 4 = .ok (.aload_n 0, 1) := by decide +kernel
theorem dX0_init_5 : decode cX0_init 5 = .ok (.bipush 60, 2) := by decide +kernel
theorem dX0_init_7 : decode cX0_init 7 = .ok (.iconst 4, 1) := by decide +kernel
theorem dX0_init_8 : decode cX0_init 8 = .ok (.multianewarray 9 2, 4) := by decide +kernel
theorem dX0_init_12 : decode cX0_init 12 = .ok (.putfield 11, 3) := by decide +kernel
theorem dX0_init_15 : decode cX0_init 15 = .ok (.aload_n 0, 1) := by decide +kernel
theorem dX0_init_16 : decode cX0_init 16 = .ok (.bipush 60, 2) := by decide +kernel
theorem dX0_init_18 : decode cX0_init 18 = .ok (.bipush 32, 2) := by decide +kernel
theorem dX0_init_20 : decode cX0_init 20 = .ok (.multianewarray 16 2, 4) := by decide +kernel
theorem dX0_init_24 : decode cX0_init 24 = .ok (.putfield 18, 3) := by decide +kernel
theorem dX0_init_27 : decode cX0_init 27 = .ok (.aload_n 0, 1) := by decide +kernel
theorem dX0_init_28 : decode cX0_init 28 = .ok (.iconst 0, 1) := by decide +kernel
theorem dX0_init_29 : decode cX0_init 29 = .ok (.putfield 21, 3) := by decide +kernel
theorem dX0_init_32 : decode cX0_init 32 = .ok (.aload_n 0, 1) := by decide +kernel
theorem dX0_init_33 : decode cX0_init 33 = .ok (.iconst 0, 1) := by decide +kernel
theorem dX0_init_34 : decode cX0_init 34 = .ok (.putfield 25, 3) := by decide +kernel
theorem dX0_init_37 : decode cX0_init 37 = .ok (.return_, 1) := by decide +kernel
theorem dX0_note_0 : decode cX0_note 0 = .ok (.aload_n 0, 1) := by decide +kernel
theorem dX0_note_1 : decode cX0_note 1 = .ok (.aload_n 0, 1) := by decide +kernel
theorem dX0_note_2 : decode cX0_note 2 = .ok (.getfield 21, 3) := by decide +kernel
theorem dX0_note_5 : decode cX0_note 5 = .ok (.iconst 1, 1) := by decide +kernel
theorem dX0_note_6 : decode cX0_note 6 = .ok (.iadd, 1) := by decide +kernel
theorem dX0_note_7 : decode cX0_note 7 = .ok (.bipush 60, 2) := by decide +kernel
theorem dX0_note_9 : decode cX0_note 9 = .ok (.irem, 1) := by decide +kernel
theorem dX0_note_10 : decode cX0_note 10 = .ok (.putfield 21, 3) := by decide +kernel
theorem dX0_note_13 : decode cX0_note 13 = .ok (.aload_n 0, 1) := by decide +kernel
theorem dX0_note_14 : decode cX0_note 14 = .ok (.aload_n 0, 1) := by decide +kernel
theorem dX0_note_15 : decode cX0_note 15 = .ok (.getfield 25, 3) := by decide +kernel
theorem dX0_note_18 : decode cX0_note 18 = .ok (.iconst 1, 1) := by decide +kernel
theorem dX0_note_19 : decode cX0_note 19 = .ok (.iadd, 1) := by decide +kernel
theorem dX0_note_20 : decode cX0_note 20 = .ok (.bipush 60, 2) := by decide +kernel
theorem dX0_note_22 : decode cX0_note 22 = .ok (.invokestatic 28, 3) := by decide +kernel
theorem dX0_note_25 : decode cX0_note 25 = .ok (.putfield 25, 3) := by decide +kernel
theorem dX0_note_28 : decode cX0_note 28 = .ok (.aload_n 0, 1) := by decide +kernel
theorem dX0_note_29 : decode cX0_note 29 = .ok (.getfield 11, 3) := by decide +kernel
theorem dX0_note_32 : decode cX0_note 32 = .ok (.aload_n 0, 1) := by decide +kernel
theorem dX0_note_33 : decode cX0_note 33 = .ok (.getfield 21, 3) := by decide +kernel
theorem dX0_note_36 : decode cX0_note 36 = .ok (.aaload, 1) := by decide +kernel
theorem dX0_note_37 : decode cX0_note 37 = .ok (.iconst 0, 1) := by decide +kernel
theorem dX0_note_38 : decode cX0_note 38 = .ok (.iload_n 1, 1) := by decide +kernel
theorem dX0_note_39 : decode cX0_note 39 = .ok (.iastore, 1) := by decide +kernel
theorem dX0_note_40 : decode cX0_note 40 = .ok (.aload_n 0, 1) := by decide +kernel
theorem dX0_note_41 : decode cX0_note 41 = .ok (.getfield 11, 3) := by decide +kernel
theorem dX0_note_44 : decode cX0_note 44 = .ok (.aload_n 0, 1) := by decide +kernel
theorem dX0_note_45 : decode cX0_note 45 = .ok (.getfield 21, 3) := by decide +kernel
theorem dX0_note_48 : decode cX0_note 48 = .ok (.aaload, 1) := by decide +kernel
theorem dX0_note_49 : decode cX0_note 49 = .ok (.iconst 1, 1) := by decide +kernel
theorem dX0_note_50 : decode cX0_note 50 = .ok (.iload_n 2, 1) := by decide +kernel
theorem dX0_note_51 : decode cX0_note 51 = .ok (.iastore, 1) := by decide +kernel
theorem dX0_note_52 : decode cX0_note 52 = .ok (.aload_n 0, 1) := by decide +kernel
theorem dX0_note_53 : decode cX0_note 53 = .ok (.getfield 11, 3) := by decide +kernel
theorem dX0_note_56 : decode cX0_note 56 = .ok (.aload_n 0, 1) := by decide +kernel
theorem dX0_note_57 : decode cX0_note 57 = .ok (.getfield 21, 3) := by decide +kernel
theorem dX0_note_60 : decode cX0_note 60 = .ok (.aaload, 1) := by decide +kernel
theorem dX0_note_61 : decode cX0_note 61 = .ok (.iconst 2, 1) := by decide +kernel
theorem dX0_note_62 : decode cX0_note 62 = .ok (.iload_n 3, 1) := by decide +kernel
theorem dX0_note_63 : decode cX0_note 63 = .ok (.iastore, 1) := by decide +kernel
theorem dX0_note_64 : decode cX0_note 64 = .ok (.aload_n 0, 1) := by decide +kernel
theorem dX0_note_65 : decode cX0_note 65 = .ok (.getfield 11, 3) := by decide +kernel
theorem dX0_note_68 : decode cX0_note 68 = .ok (.aload_n 0, 1) := by decide +kernel
theorem dX0_note_69 : decode cX0_note 69 = .ok (.getfield 21, 3) := by decide +kernel
theorem dX0_note_72 : decode cX0_note 72 = .ok (.aaload, 1) := by decide +kernel
theorem dX0_note_73 : decode cX0_note 73 = .ok (.iconst 3, 1) := by decide +kernel
theorem dX0_note_74 : decode cX0_note 74 = .ok (.iload 4, 2) := by decide +kernel
theorem dX0_note_76 : decode cX0_note 76 = .ok (.iastore, 1) := by decide +kernel
theorem dX0_note_77 : decode cX0_note 77 = .ok (.aload_n 0, 1) := by decide +kernel
theorem dX0_note_78 : decode cX0_note 78 = .ok (.getfield 18, 3) := by decide +kernel
theorem dX0_note_81 : decode cX0_note 81 = .ok (.aload_n 0, 1) := by decide +kernel
theorem dX0_note_82 : decode cX0_note 82 = .ok (.getfield 21, 3) := by decide +kernel
theorem dX0_note_85 : decode cX0_note 85 = .ok (.aaload, 1) := by decide +kernel
theorem dX0_note_86 : decode cX0_note 86 = .ok (.areturn, 1) := by decide +kernel
theorem dX0_latest_0 : decode cX0_latest 0 = .ok (.aload_n 0, 1) := by decide +kernel
theorem dX0_latest_1 : decode cX0_latest 1 = .ok (.getfield 11, 3) := by decide +kernel
theorem dX0_latest_4 : decode cX0_latest 4 = .ok (.aload_n 0, 1) := by decide +kernel
theorem dX0_latest_5 : decode cX0_latest 5 = .ok (.getfield 21, 3) := by decide +kernel
theorem dX0_latest_8 : decode cX0_latest 8 = .ok (.aaload, 1) := by decide +kernel
theorem dX0_latest_9 : decode cX0_latest 9 = .ok (.areturn, 1) := by decide +kernel
theorem dX0_keptOfLatest_0 : decode cX0_keptOfLatest 0 = .ok (.aload_n 0, 1) := by decide +kernel
theorem dX0_keptOfLatest_1 : decode cX0_keptOfLatest 1 = .ok (.getfield 18, 3) := by decide +kernel
theorem dX0_keptOfLatest_4 : decode cX0_keptOfLatest 4 = .ok (.aload_n 0, 1) := by decide +kernel
theorem dX0_keptOfLatest_5 : decode cX0_keptOfLatest 5 = .ok (.getfield 21, 3) := by decide +kernel
theorem dX0_keptOfLatest_8 : decode cX0_keptOfLatest 8 = .ok (.aaload, 1) := by decide +kernel
theorem dX0_keptOfLatest_9 : decode cX0_keptOfLatest 9 = .ok (.areturn, 1) := by decide +kernel
theorem dX0_drop_0 : decode cX0_drop 0 = .ok (.aload_n 0, 1) := by decide +kernel
theorem dX0_drop_1 : decode cX0_drop 1 = .ok (.aload_n 0, 1) := by decide +kernel
theorem dX0_drop_2 : decode cX0_drop 2 = .ok (.getfield 21, 3) := by decide +kernel
theorem dX0_drop_5 : decode cX0_drop 5 = .ok (.bipush 60, 2) := by decide +kernel
theorem dX0_drop_7 : decode cX0_drop 7 = .ok (.iadd, 1) := by decide +kernel
theorem dX0_drop_8 : decode cX0_drop 8 = .ok (.iconst 1, 1) := by decide +kernel
theorem dX0_drop_9 : decode cX0_drop 9 = .ok (.isub, 1) := by decide +kernel
theorem dX0_drop_10 : decode cX0_drop 10 = .ok (.bipush 60, 2) := by decide +kernel
theorem dX0_drop_12 : decode cX0_drop 12 = .ok (.irem, 1) := by decide +kernel
theorem dX0_drop_13 : decode cX0_drop 13 = .ok (.putfield 21, 3) := by decide +kernel
theorem dX0_drop_16 : decode cX0_drop 16 = .ok (.aload_n 0, 1) := by decide +kernel
theorem dX0_drop_17 : decode cX0_drop 17 = .ok (.dup, 1) := by decide +kernel
theorem dX0_drop_18 : decode cX0_drop 18 = .ok (.getfield 25, 3) := by decide +kernel
theorem dX0_drop_21 : decode cX0_drop 21 = .ok (.iconst 1, 1) := by decide +kernel
theorem dX0_drop_22 : decode cX0_drop 22 = .ok (.isub, 1) := by decide +kernel
theorem dX0_drop_23 : decode cX0_drop 23 = .ok (.putfield 25, 3) := by decide +kernel
theorem dX0_drop_26 : decode cX0_drop 26 = .ok (.return_, 1) := by decide +kernel
theorem dX1_init_0 : decode cX1_init 0 = .ok (.aload_n 0, 1) := by decide +kernel
theorem dX1_init_1 : decode cX1_init 1 = .ok (.invokespecial 3, 3) := by decide +kernel
theorem dX1_init_4 : decode cX1_init 4 = .ok (.aload_n 0, 1) := by decide +kernel
theorem dX1_init_5 : decode cX1_init 5 = .ok (.iconst 0, 1) := by decide +kernel
theorem dX1_init_6 : decode cX1_init 6 = .ok (.putfield 9, 3) := by decide +kernel
theorem dX1_init_9 : decode cX1_init 9 = .ok (.aload_n 0, 1) := by decide +kernel
theorem dX1_init_10 : decode cX1_init 10 = .ok (.iconst 1, 1) := by decide +kernel
theorem dX1_init_11 : decode cX1_init 11 = .ok (.putfield 15, 3) := by decide +kernel
theorem dX1_init_14 : decode cX1_init 14 = .ok (.aload_n 0, 1) := by decide +kernel
theorem dX1_init_15 : decode cX1_init 15 = .ok (.iconst 0, 1) := by decide +kernel
theorem dX1_init_16 : decode cX1_init 16 = .ok (.putfield 18, 3) := by decide +kernel
theorem dX1_init_19 : decode cX1_init 19 = .ok (.aload_n 0, 1) := by decide +kernel
theorem dX1_init_20 : decode cX1_init 20 = .ok (.bipush 8, 2) := by decide +kernel
theorem dX1_init_22 : decode cX1_init 22 = .ok (.newarray .int, 2) := by decide +kernel
theorem dX1_init_24 : decode cX1_init 24 = .ok (.putfield 21, 3) := by decide +kernel
theorem dX1_init_27 : decode cX1_init 27 = .ok (.aload_n 0, 1) := by decide +kernel
theorem dX1_init_28 : decode cX1_init 28 = .ok (.bipush 8, 2) := by decide +kernel
theorem dX1_init_30 : decode cX1_init 30 = .ok (.newarray .int, 2) := by decide +kernel
theorem dX1_init_32 : decode cX1_init 32 = .ok (.putfield 25, 3) := by decide +kernel
theorem dX1_init_35 : decode cX1_init 35 = .ok (.aload_n 0, 1) := by decide +kernel
theorem dX1_init_36 : decode cX1_init 36 = .ok (.iconst 0, 1) := by decide +kernel
theorem dX1_init_37 : decode cX1_init 37 = .ok (.putfield 28, 3) := by decide +kernel
theorem dX1_init_40 : decode cX1_init 40 = .ok (.aload_n 0, 1) := by decide +kernel
theorem dX1_init_41 : decode cX1_init 41 = .ok (.bipush 16, 2) := by decide +kernel
theorem dX1_init_43 : decode cX1_init 43 = .ok (.newarray .float, 2) := by decide +kernel
theorem dX1_init_45 : decode cX1_init 45 = .ok (.putfield 32, 3) := by decide +kernel
theorem dX1_init_48 : decode cX1_init 48 = .ok (.return_, 1) := by decide +kernel
theorem dX1_begin_0 : decode cX1_begin 0 = .ok (.aload_n 0, 1) := by decide +kernel
theorem dX1_begin_1 : decode cX1_begin 1 = .ok (.iload_n 1, 1) := by decide +kernel
theorem dX1_begin_2 : decode cX1_begin 2 = .ok (.putfield 9, 3) := by decide +kernel
theorem dX1_begin_5 : decode cX1_begin 5 = .ok (.aload_n 0, 1) := by decide +kernel
theorem dX1_begin_6 : decode cX1_begin 6 = .ok (.iload_n 2, 1) := by decide +kernel
theorem dX1_begin_7 : decode cX1_begin 7 = .ok (.putfield 15, 3) := by decide +kernel
theorem dX1_begin_10 : decode cX1_begin 10 = .ok (.aload_n 0, 1) := by decide +kernel
theorem dX1_begin_11 : decode cX1_begin 11 = .ok (.iconst 0, 1) := by decide +kernel
theorem dX1_begin_12 : decode cX1_begin 12 = .ok (.putfield 18, 3) := by decide +kernel
theorem dX1_begin_15 : decode cX1_begin 15 = .ok (.aload_n 0, 1) := by decide +kernel
theorem dX1_begin_16 : decode cX1_begin 16 = .ok (.iconst 0, 1) := by decide +kernel
theorem dX1_begin_17 : decode cX1_begin 17 = .ok (.putfield 28, 3) := by decide +kernel
theorem dX1_begin_20 : decode cX1_begin 20 = .ok (.return_, 1) := by decide +kernel
theorem dX1_placeOf_0 : decode cX1_placeOf 0 = .ok (.iconst 0, 1) := by decide +kernel
theorem dX1_placeOf_1 : decode cX1_placeOf 1 = .ok (.istore_n 2, 1) := by decide +kernel
theorem dX1_placeOf_2 : decode cX1_placeOf 2 = .ok (.iload_n 2, 1) := by decide +kernel
theorem dX1_placeOf_3 : decode cX1_placeOf 3 = .ok (.aload_n 0, 1) := by decide +kernel
theorem dX1_placeOf_4 : decode cX1_placeOf 4 = .ok (.getfield 18, 3) := by decide +kernel
theorem dX1_placeOf_7 : decode cX1_placeOf 7 = .ok (.if_icmp .ge 21, 3) := by decide +kernel
theorem dX1_placeOf_10 : decode cX1_placeOf 10 = .ok (.aload_n 0, 1) := by decide +kernel
theorem dX1_placeOf_11 : decode cX1_placeOf 11 = .ok (.getfield 21, 3) := by decide +kernel
theorem dX1_placeOf_14 : decode cX1_placeOf 14 = .ok (.iload_n 2, 1) := by decide +kernel
theorem dX1_placeOf_15 : decode cX1_placeOf 15 = .ok (.iaload, 1) := by decide +kernel
theorem dX1_placeOf_16 : decode cX1_placeOf 16 = .ok (.iload_n 1, 1) := by decide +kernel
theorem dX1_placeOf_17 : decode cX1_placeOf 17 = .ok (.if_icmp .ne 5, 3) := by decide +kernel
theorem dX1_placeOf_20 : decode cX1_placeOf 20 = .ok (.iload_n 2, 1) := by decide +kernel
theorem dX1_placeOf_21 : decode cX1_placeOf 21 = .ok (.ireturn, 1) := by decide +kernel
theorem dX1_placeOf_22 : decode cX1_placeOf 22 = .ok (.iinc 2 1, 3) := by decide +kernel
theorem dX1_placeOf_25 : decode cX1_placeOf 25 = .ok (.goto (-23), 3) := by decide +kernel
theorem dX1_placeOf_28 : decode cX1_placeOf 28 = .ok (.iconst (-1), 1) := by decide +kernel
theorem dX1_placeOf_29 : decode cX1_placeOf 29 = .ok (.ireturn, 1) := by decide +kernel
set_option maxRecDepth 20000 in
theorem ggX1_hasRoomFor_X1_placeOf : GoodIn wsX1_hasRoomFor wsX1_placeOf := goodIn_r _ [6, 1, 7, 8, 9, 10, 11, 12, 13, 14] (by decide +kernel) (by decide +kernel)
set_option maxRecDepth 20000 in
theorem gX1_hasRoomFor_X1_placeOf : GoodIn wsX1_hasRoomFor (wsV RX1 36 RX1 yX1_placeOf wsX1_placeOf) := goodIn_app (goodIn_of _ (by decide +kernel)) ggX1_hasRoomFor_X1_placeOf
theorem dX1_hasRoomFor_0 : decode cX1_hasRoomFor 0 = .ok (.aload_n 0, 1) := by decide +kernel
theorem dX1_hasRoomFor_1 : decode cX1_hasRoomFor 1 = .ok (.getfield 18, 3) := by decide +kernel
theorem dX1_hasRoomFor_4 : decode cX1_hasRoomFor 4 = .ok (.bipush 8, 2) := by decide +kernel
theorem dX1_hasRoomFor_6 : decode cX1_hasRoomFor 6 = .ok (.if_icmp .lt 12, 3) := by decide +kernel
theorem dX1_hasRoomFor_9 : decode cX1_hasRoomFor 9 = .ok (.aload_n 0, 1) := by decide +kernel
theorem dX1_hasRoomFor_10 : decode cX1_hasRoomFor 10 = .ok (.iload_n 1, 1) := by decide +kernel
theorem dX1_hasRoomFor_11 : decode cX1_hasRoomFor 11 = .ok (.invokevirtual 36, 3) := by decide +kernel
theorem dX1_hasRoomFor_14 : decode cX1_hasRoomFor 14 = .ok (.iconst (-1), 1) := by decide +kernel
theorem dX1_hasRoomFor_15 : decode cX1_hasRoomFor 15 = .ok (.if_icmp .eq 7, 3) := by decide +kernel
theorem dX1_hasRoomFor_18 : decode cX1_hasRoomFor 18 = .ok (.iconst 1, 1) := by decide +kernel
theorem dX1_hasRoomFor_19 : decode cX1_hasRoomFor 19 = .ok (.goto 4, 3) := by decide +kernel
theorem dX1_hasRoomFor_22 : decode cX1_hasRoomFor 22 = .ok (.iconst 0, 1) := by decide +kernel
theorem dX1_hasRoomFor_23 : decode cX1_hasRoomFor 23 = .ok (.ireturn, 1) := by decide +kernel
set_option maxRecDepth 20000 in
theorem ggX1_addGrams_X1_placeOf : GoodIn wsX1_addGrams wsX1_placeOf := goodIn_r _ [8, 1, 2, 9, 10, 11, 12, 13, 14, 15] (by decide +kernel) (by decide +kernel)
set_option maxRecDepth 20000 in
theorem gX1_addGrams_X1_placeOf : GoodIn wsX1_addGrams (wsV RX1 36 RX1 yX1_placeOf wsX1_placeOf) := goodIn_app (goodIn_of _ (by decide +kernel)) ggX1_addGrams_X1_placeOf
theorem dX1_addGrams_0 : decode cX1_addGrams 0 = .ok (.aload_n 0, 1) := by decide +kernel
theorem dX1_addGrams_1 : decode cX1_addGrams 1 = .ok (.iload_n 1, 1) := by decide +kernel
theorem dX1_addGrams_2 : decode cX1_addGrams 2 = .ok (.invokevirtual 36, 3) := by decide +kernel
theorem dX1_addGrams_5 : decode cX1_addGrams 5 = .ok (.istore_n 3, 1) := by decide +kernel
theorem dX1_addGrams_6 : decode cX1_addGrams 6 = .ok (.iload_n 3, 1) := by decide +kernel
theorem dX1_addGrams_7 : decode cX1_addGrams 7 = .ok (.iconst (-1), 1) := by decide +kernel
theorem dX1_addGrams_8 : decode cX1_addGrams 8 = .ok (.if_icmp .ne 32, 3) := by decide +kernel
theorem dX1_addGrams_11 : decode cX1_addGrams 11 = .ok (.aload_n 0, 1) := by decide +kernel
theorem dX1_addGrams_12 : decode cX1_addGrams 12 = .ok (.getfield 18, 3) := by decide +kernel
theorem dX1_addGrams_15 : decode cX1_addGrams 15 = .ok (.istore_n 3, 1) := by decide +kernel
theorem dX1_addGrams_16 : decode cX1_addGrams 16 = .ok (.aload_n 0, 1) := by decide +kernel
theorem dX1_addGrams_17 : decode cX1_addGrams 17 = .ok (.dup, 1) := by decide +kernel
theorem dX1_addGrams_18 : decode cX1_addGrams 18 = .ok (.getfield 18, 3) := by decide +kernel
theorem dX1_addGrams_21 : decode cX1_addGrams 21 = .ok (.iconst 1, 1) := by decide +kernel
theorem dX1_addGrams_22 : decode cX1_addGrams 22 = .ok (.iadd, 1) := by decide +kernel
theorem dX1_addGrams_23 : decode cX1_addGrams 23 = .ok (.putfield 18, 3) := by decide +kernel
theorem dX1_addGrams_26 : decode cX1_addGrams 26 = .ok (.aload_n 0, 1) := by decide +kernel
theorem dX1_addGrams_27 : decode cX1_addGrams 27 = .ok (.getfield 21, 3) := by decide +kernel
theorem dX1_addGrams_30 : decode cX1_addGrams 30 = .ok (.iload_n 3, 1) := by decide +kernel
theorem dX1_addGrams_31 : decode cX1_addGrams 31 = .ok (.iload_n 1, 1) := by decide +kernel
theorem dX1_addGrams_32 : decode cX1_addGrams 32 = .ok (.iastore, 1) := by decide +kernel
theorem dX1_addGrams_33 : decode cX1_addGrams 33 = .ok (.aload_n 0, 1) := by decide +kernel
theorem dX1_addGrams_34 : decode cX1_addGrams 34 = .ok (.getfield 25, 3) := by decide +kernel
theorem dX1_addGrams_37 : decode cX1_addGrams 37 = .ok (.iload_n 3, 1) := by decide +kernel
theorem dX1_addGrams_38 : decode cX1_addGrams 38 = .ok (.iconst 0, 1) := by decide +kernel
theorem dX1_addGrams_39 : decode cX1_addGrams 39 = .ok (.iastore, 1) := by decide +kernel
theorem dX1_addGrams_40 : decode cX1_addGrams 40 = .ok (.aload_n 0, 1) := by decide +kernel
theorem dX1_addGrams_41 : decode cX1_addGrams 41 = .ok (.getfield 25, 3) := by decide +kernel
theorem dX1_addGrams_44 : decode cX1_addGrams 44 = .ok (.iload_n 3, 1) := by decide +kernel
theorem dX1_addGrams_45 : decode cX1_addGrams 45 = .ok (.dup2, 1) := by decide +kernel
theorem dX1_addGrams_46 : decode cX1_addGrams 46 = .ok (.iaload, 1) := by decide +kernel
theorem dX1_addGrams_47 : decode cX1_addGrams 47 = .ok (.iload_n 2, 1) := by decide +kernel
theorem dX1_addGrams_48 : decode cX1_addGrams 48 = .ok (.iadd, 1) := by decide +kernel
theorem dX1_addGrams_49 : decode cX1_addGrams 49 = .ok (.iastore, 1) := by decide +kernel
theorem dX1_addGrams_50 : decode cX1_addGrams 50 = .ok (.aload_n 0, 1) := by decide +kernel
theorem dX1_addGrams_51 : decode cX1_addGrams 51 = .ok (.getfield 25, 3) := by decide +kernel
theorem dX1_addGrams_54 : decode cX1_addGrams 54 = .ok (.iload_n 3, 1) := by decide +kernel
theorem dX1_addGrams_55 : decode cX1_addGrams 55 = .ok (.iaload, 1) := by decide +kernel
theorem dX1_addGrams_56 : decode cX1_addGrams 56 = .ok (.ireturn, 1) := by decide +kernel
set_option maxRecDepth 20000 in
theorem ggX1_takeGrams_X1_placeOf : GoodIn wsX1_takeGrams wsX1_placeOf := goodIn_r _ [7, 2, 8, 9, 10, 11, 12, 13, 14, 15] (by decide +kernel) (by decide +kernel)
set_option maxRecDepth 20000 in
theorem gX1_takeGrams_X1_placeOf : GoodIn wsX1_takeGrams (wsV RX1 36 RX1 yX1_placeOf wsX1_placeOf) := goodIn_app (goodIn_of _ (by decide +kernel)) ggX1_takeGrams_X1_placeOf
theorem dX1_takeGrams_0 : decode cX1_takeGrams 0 = .ok (.aload_n 0, 1) := by decide +kernel
theorem dX1_takeGrams_1 : decode cX1_takeGrams 1 = .ok (.iload_n 1, 1) := by decide +kernel
theorem dX1_takeGrams_2 : decode cX1_takeGrams 2 = .ok (.invokevirtual 36, 3) := by decide +kernel
theorem dX1_takeGrams_5 : decode cX1_takeGrams 5 = .ok (.istore_n 3, 1) := by decide +kernel
theorem dX1_takeGrams_6 : decode cX1_takeGrams 6 = .ok (.iload_n 3, 1) := by decide +kernel
theorem dX1_takeGrams_7 : decode cX1_takeGrams 7 = .ok (.iconst (-1), 1) := by decide +kernel
theorem dX1_takeGrams_8 : decode cX1_takeGrams 8 = .ok (.if_icmp .ne 4, 3) := by decide +kernel
theorem dX1_takeGrams_11 : decode cX1_takeGrams 11 = .ok (.return_, 1) := by decide +kernel
theorem dX1_takeGrams_12 : decode cX1_takeGrams 12 = .ok (.aload_n 0, 1) := by decide +kernel
theorem dX1_takeGrams_13 : decode cX1_takeGrams 13 = .ok (.getfield 25, 3) := by decide +kernel
theorem dX1_takeGrams_16 : decode cX1_takeGrams 16 = .ok (.iload_n 3, 1) := by decide +kernel
theorem dX1_takeGrams_17 : decode cX1_takeGrams 17 = .ok (.dup2, 1) := by decide +kernel
theorem dX1_takeGrams_18 : decode cX1_takeGrams 18 = .ok (.iaload, 1) := by decide +kernel
theorem dX1_takeGrams_19 : decode cX1_takeGrams 19 = .ok (.iload_n 2, 1) := by decide +kernel
theorem dX1_takeGrams_20 : decode cX1_takeGrams 20 = .ok (.isub, 1) := by decide +kernel
theorem dX1_takeGrams_21 : decode cX1_takeGrams 21 = .ok (.iastore, 1) := by decide +kernel
theorem dX1_takeGrams_22 : decode cX1_takeGrams 22 = .ok (.aload_n 0, 1) := by decide +kernel
theorem dX1_takeGrams_23 : decode cX1_takeGrams 23 = .ok (.getfield 25, 3) := by decide +kernel
theorem dX1_takeGrams_26 : decode cX1_takeGrams 26 = .ok (.iload_n 3, 1) := by decide +kernel
theorem dX1_takeGrams_27 : decode cX1_takeGrams 27 = .ok (.iaload, 1) := by decide +kernel
theorem dX1_takeGrams_28 : decode cX1_takeGrams 28 = .ok (.ifCond .ne 13, 3) := by decide +kernel
theorem dX1_takeGrams_31 : decode cX1_takeGrams 31 = .ok (.aload_n 0, 1) := by decide +kernel
theorem dX1_takeGrams_32 : decode cX1_takeGrams 32 = .ok (.dup, 1) := by decide +kernel
theorem dX1_takeGrams_33 : decode cX1_takeGrams 33 = .ok (.getfield 18, 3) := by decide +kernel
theorem dX1_takeGrams_36 : decode cX1_takeGrams 36 = .ok (.iconst 1, 1) := by decide +kernel
theorem dX1_takeGrams_37 : decode cX1_takeGrams 37 = .ok (.isub, 1) := by decide +kernel
theorem dX1_takeGrams_38 : decode cX1_takeGrams 38 = .ok (.putfield 18, 3) := by decide +kernel
theorem dX1_takeGrams_41 : decode cX1_takeGrams 41 = .ok (.return_, 1) := by decide +kernel
theorem dX1_share_0 : decode cX1_share 0 = .ok (.iload_n 1, 1) := by decide +kernel
theorem dX1_share_1 : decode cX1_share 1 = .ok (.i2l, 1) := by decide +kernel
theorem dX1_share_2 : decode cX1_share 2 = .ok (.ldc2_w 40, 3) := by decide +kernel
theorem dX1_share_5 : decode cX1_share 5 = .ok (.lmul, 1) := by decide +kernel
theorem dX1_share_6 : decode cX1_share 6 = .ok (.aload_n 0, 1) := by decide +kernel
theorem dX1_share_7 : decode cX1_share 7 = .ok (.getfield 15, 3) := by decide +kernel
theorem dX1_share_10 : decode cX1_share 10 = .ok (.i2l, 1) := by decide +kernel
theorem dX1_share_11 : decode cX1_share 11 = .ok (.ldiv, 1) := by decide +kernel
theorem dX1_share_12 : decode cX1_share 12 = .ok (.lreturn, 1) := by decide +kernel
theorem dX1_gramsInAll_0 : decode cX1_gramsInAll 0 = .ok (.iconst 0, 1) := by decide +kernel
theorem dX1_gramsInAll_1 : decode cX1_gramsInAll 1 = .ok (.istore_n 1, 1) := by decide +kernel
theorem dX1_gramsInAll_2 : decode cX1_gramsInAll 2 = .ok (.iconst 0, 1) := by decide +kernel
theorem dX1_gramsInAll_3 : decode cX1_gramsInAll 3 = .ok (.istore_n 2, 1) := by decide +kernel
theorem dX1_gramsInAll_4 : decode cX1_gramsInAll 4 = .ok (.iload_n 2, 1) := by decide +kernel
theorem dX1_gramsInAll_5 : decode cX1_gramsInAll 5 = .ok (.aload_n 0, 1) := by decide +kernel
theorem dX1_gramsInAll_6 : decode cX1_gramsInAll 6 = .ok (.getfield 18, 3) := by decide +kernel
theorem dX1_gramsInAll_9 : decode cX1_gramsInAll 9 = .ok (.if_icmp .ge 18, 3) := by decide +kernel
theorem dX1_gramsInAll_12 : decode cX1_gramsInAll 12 = .ok (.iload_n 1, 1) := by decide +kernel
theorem dX1_gramsInAll_13 : decode cX1_gramsInAll 13 = .ok (.aload_n 0, 1) := by decide +kernel
theorem dX1_gramsInAll_14 : decode cX1_gramsInAll 14 = .ok (.getfield 25, 3) := by decide +kernel
theorem dX1_gramsInAll_17 : decode cX1_gramsInAll 17 = .ok (.iload_n 2, 1) := by decide +kernel
theorem dX1_gramsInAll_18 : decode cX1_gramsInAll 18 = .ok (.iaload, 1) := by decide +kernel
theorem dX1_gramsInAll_19 : decode cX1_gramsInAll 19 = .ok (.iadd, 1) := by decide +kernel
theorem dX1_gramsInAll_20 : decode cX1_gramsInAll 20 = .ok (.istore_n 1, 1) := by decide +kernel
theorem dX1_gramsInAll_21 : decode cX1_gramsInAll 21 = .ok (.iinc 2 1, 3) := by decide +kernel
theorem dX1_gramsInAll_24 : decode cX1_gramsInAll 24 = .ok (.goto (-20), 3) := by decide +kernel
theorem dX1_gramsInAll_27 : decode cX1_gramsInAll 27 = .ok (.iload_n 1, 1) := by decide +kernel
theorem dX1_gramsInAll_28 : decode cX1_gramsInAll 28 = .ok (.ireturn, 1) := by decide +kernel
set_option maxRecDepth 20000 in
theorem ggX1_tell_X1_gramsInAll : GoodIn wsX1_tell wsX1_gramsInAll := goodIn_r _ [9, 3, 10, 11, 12, 13, 14, 15, 16, 17] (by decide +kernel) (by decide +kernel)
set_option maxRecDepth 20000 in
theorem gX1_tell_X1_gramsInAll : GoodIn wsX1_tell (wsV RX1 42 RX1 yX1_gramsInAll wsX1_gramsInAll) := goodIn_app (goodIn_of _ (by decide +kernel)) ggX1_tell_X1_gramsInAll
theorem dX1_tell_0 : decode cX1_tell 0 = .ok (.iload_n 1, 1) := by decide +kernel
theorem dX1_tell_1 : decode cX1_tell 1 = .ok (.tableswitch 51 0 3 #[31, 36, 41, 46], 31) := by decide +kernel
theorem dX1_tell_32 : decode cX1_tell 32 = .ok (.aload_n 0, 1) := by decide +kernel
theorem dX1_tell_33 : decode cX1_tell 33 = .ok (.getfield 9, 3) := by decide +kernel
theorem dX1_tell_36 : decode cX1_tell 36 = .ok (.ireturn, 1) := by decide +kernel
theorem dX1_tell_37 : decode cX1_tell 37 = .ok (.aload_n 0, 1) := by decide +kernel
theorem dX1_tell_38 : decode cX1_tell 38 = .ok (.getfield 15, 3) := by decide +kernel
theorem dX1_tell_41 : decode cX1_tell 41 = .ok (.ireturn, 1) := by decide +kernel
theorem dX1_tell_42 : decode cX1_tell 42 = .ok (.aload_n 0, 1) := by decide +kernel
theorem dX1_tell_43 : decode cX1_tell 43 = .ok (.getfield 18, 3) := by decide +kernel
theorem dX1_tell_46 : decode cX1_tell 46 = .ok (.ireturn, 1) := by decide +kernel
theorem dX1_tell_47 : decode cX1_tell 47 = .ok (.aload_n 0, 1) := by decide +kernel
theorem dX1_tell_48 : decode cX1_tell 48 = .ok (.invokevirtual 42, 3) := by decide +kernel
theorem dX1_tell_51 : decode cX1_tell 51 = .ok (.ireturn, 1) := by decide +kernel
theorem dX1_tell_52 : decode cX1_tell 52 = .ok (.aload_n 0, 1) := by decide +kernel
theorem dX1_tell_53 : decode cX1_tell 53 = .ok (.getfield 28, 3) := by decide +kernel
theorem dX1_tell_56 : decode cX1_tell 56 = .ok (.ifCond .eq 7, 3) := by decide +kernel
theorem dX1_tell_59 : decode cX1_tell 59 = .ok (.iconst 1, 1) := by decide +kernel
theorem dX1_tell_60 : decode cX1_tell 60 = .ok (.goto 4, 3) := by decide +kernel
theorem dX1_tell_63 : decode cX1_tell 63 = .ok (.iconst 0, 1) := by decide +kernel
theorem dX1_tell_64 : decode cX1_tell 64 = .ok (.ireturn, 1) := by decide +kernel
theorem dX2_init_0 : decode cX2_init 0 = .ok (.aload_n 0, 1) := by decide +kernel
theorem dX2_init_1 : decode cX2_init 1 = .ok (.invokespecial 3, 3) := by decide +kernel
theorem dX2_init_4 : decode cX2_init 4 = .ok (.aload_n 0, 1) := by decide +kernel
theorem dX2_init_5 : decode cX2_init 5 = .ok (.bipush 16, 2) := by decide +kernel
theorem dX2_init_7 : decode cX2_init 7 = .ok (.newarray .float, 2) := by decide +kernel
theorem dX2_init_9 : decode cX2_init 9 = .ok (.putfield 9, 3) := by decide +kernel
theorem dX2_init_12 : decode cX2_init 12 = .ok (.aload_n 0, 1) := by decide +kernel
theorem dX2_init_13 : decode cX2_init 13 = .ok (.bipush 16, 2) := by decide +kernel
theorem dX2_init_15 : decode cX2_init 15 = .ok (.newarray .float, 2) := by decide +kernel
theorem dX2_init_17 : decode cX2_init 17 = .ok (.putfield 15, 3) := by decide +kernel
theorem dX2_init_20 : decode cX2_init 20 = .ok (.return_, 1) := by decide +kernel
theorem dX2_become_0 : decode cX2_become 0 = .ok (.iconst 0, 1) := by decide +kernel
theorem dX2_become_1 : decode cX2_become 1 = .ok (.istore 5, 2) := by decide +kernel
theorem dX2_become_3 : decode cX2_become 3 = .ok (.iload 5, 2) := by decide +kernel
theorem dX2_become_5 : decode cX2_become 5 = .ok (.bipush 16, 2) := by decide +kernel
theorem dX2_become_7 : decode cX2_become 7 = .ok (.if_icmp .ge 47, 3) := by decide +kernel
theorem dX2_become_10 : decode cX2_become 10 = .ok (.aload_n 0, 1) := by decide +kernel
theorem dX2_become_11 : decode cX2_become 11 = .ok (.getfield 9, 3) := by decide +kernel
theorem dX2_become_14 : decode cX2_become 14 = .ok (.iload 5, 2) := by decide +kernel
theorem dX2_become_16 : decode cX2_become 16 = .ok (.aload_n 1, 1) := by decide +kernel
theorem dX2_become_17 : decode cX2_become 17 = .ok (.getfield 9, 3) := by decide +kernel
theorem dX2_become_20 : decode cX2_become 20 = .ok (.iload 5, 2) := by decide +kernel
theorem dX2_become_22 : decode cX2_become 22 = .ok (.faload, 1) := by decide +kernel
theorem dX2_become_23 : decode cX2_become 23 = .ok (.f2d, 1) := by decide +kernel
theorem dX2_become_24 : decode cX2_become 24 = .ok (.iload_n 3, 1) := by decide +kernel
theorem dX2_become_25 : decode cX2_become 25 = .ok (.i2d, 1) := by decide +kernel
theorem dX2_become_26 : decode cX2_become 26 = .ok (.dmul, 1) := by decide +kernel
theorem dX2_become_27 : decode cX2_become 27 = .ok (.aload_n 2, 1) := by decide +kernel
theorem dX2_become_28 : decode cX2_become 28 = .ok (.getfield 9, 3) := by decide +kernel
theorem dX2_become_31 : decode cX2_become 31 = .ok (.iload 5, 2) := by decide +kernel
theorem dX2_become_33 : decode cX2_become 33 = .ok (.faload, 1) := by decide +kernel
theorem dX2_become_34 : decode cX2_become 34 = .ok (.f2d, 1) := by decide +kernel
theorem dX2_become_35 : decode cX2_become 35 = .ok (.iload 4, 2) := by decide +kernel
theorem dX2_become_37 : decode cX2_become 37 = .ok (.iload_n 3, 1) := by decide +kernel
theorem dX2_become_38 : decode cX2_become 38 = .ok (.isub, 1) := by decide +kernel
theorem dX2_become_39 : decode cX2_become 39 = .ok (.i2d, 1) := by decide +kernel
theorem dX2_become_40 : decode cX2_become 40 = .ok (.dmul, 1) := by decide +kernel
theorem dX2_become_41 : decode cX2_become 41 = .ok (.dadd, 1) := by decide +kernel
theorem dX2_become_42 : decode cX2_become 42 = .ok (.iload 4, 2) := by decide +kernel
theorem dX2_become_44 : decode cX2_become 44 = .ok (.i2d, 1) := by decide +kernel
theorem dX2_become_45 : decode cX2_become 45 = .ok (.ddiv, 1) := by decide +kernel
theorem dX2_become_46 : decode cX2_become 46 = .ok (.d2f, 1) := by decide +kernel
theorem dX2_become_47 : decode cX2_become 47 = .ok (.fastore, 1) := by decide +kernel
theorem dX2_become_48 : decode cX2_become 48 = .ok (.iinc 5 1, 3) := by decide +kernel
theorem dX2_become_51 : decode cX2_become 51 = .ok (.goto (-48), 3) := by decide +kernel
theorem dX2_become_54 : decode cX2_become 54 = .ok (.return_, 1) := by decide +kernel
theorem dX2_remeasureAs_0 : decode cX2_remeasureAs 0 = .ok (.iconst 0, 1) := by decide +kernel
theorem dX2_remeasureAs_1 : decode cX2_remeasureAs 1 = .ok (.istore_n 2, 1) := by decide +kernel
theorem dX2_remeasureAs_2 : decode cX2_remeasureAs 2 = .ok (.iload_n 2, 1) := by decide +kernel
theorem dX2_remeasureAs_3 : decode cX2_remeasureAs 3 = .ok (.bipush 16, 2) := by decide +kernel
theorem dX2_remeasureAs_5 : decode cX2_remeasureAs 5 = .ok (.if_icmp .ge 34, 3) := by decide +kernel
theorem dX2_remeasureAs_8 : decode cX2_remeasureAs 8 = .ok (.aload_n 0, 1) := by decide +kernel
theorem dX2_remeasureAs_9 : decode cX2_remeasureAs 9 = .ok (.getfield 15, 3) := by decide +kernel
theorem dX2_remeasureAs_12 : decode cX2_remeasureAs 12 = .ok (.iload_n 2, 1) := by decide +kernel
theorem dX2_remeasureAs_13 : decode cX2_remeasureAs 13 = .ok (.aload_n 1, 1) := by decide +kernel
theorem dX2_remeasureAs_14 : decode cX2_remeasureAs 14 = .ok (.iload_n 2, 1) := by decide +kernel
theorem dX2_remeasureAs_15 : decode cX2_remeasureAs 15 = .ok (.faload, 1) := by decide +kernel
theorem dX2_remeasureAs_16 : decode cX2_remeasureAs 16 = .ok (.aload_n 0, 1) := by decide +kernel
theorem dX2_remeasureAs_17 : decode cX2_remeasureAs 17 = .ok (.getfield 9, 3) := by decide +kernel
theorem dX2_remeasureAs_20 : decode cX2_remeasureAs 20 = .ok (.iload_n 2, 1) := by decide +kernel
theorem dX2_remeasureAs_21 : decode cX2_remeasureAs 21 = .ok (.faload, 1) := by decide +kernel
theorem dX2_remeasureAs_22 : decode cX2_remeasureAs 22 = .ok (.fsub, 1) := by decide +kernel
theorem dX2_remeasureAs_23 : decode cX2_remeasureAs 23 = .ok (.fastore, 1) := by decide +kernel
theorem dX2_remeasureAs_24 : decode cX2_remeasureAs 24 = .ok (.aload_n 0, 1) := by decide +kernel
theorem dX2_remeasureAs_25 : decode cX2_remeasureAs 25 = .ok (.getfield 9, 3) := by decide +kernel
theorem dX2_remeasureAs_28 : decode cX2_remeasureAs 28 = .ok (.iload_n 2, 1) := by decide +kernel
theorem dX2_remeasureAs_29 : decode cX2_remeasureAs 29 = .ok (.aload_n 1, 1) := by decide +kernel
theorem dX2_remeasureAs_30 : decode cX2_remeasureAs 30 = .ok (.iload_n 2, 1) := by decide +kernel
theorem dX2_remeasureAs_31 : decode cX2_remeasureAs 31 = .ok (.faload, 1) := by decide +kernel
theorem dX2_remeasureAs_32 : decode cX2_remeasureAs 32 = .ok (.fastore, 1) := by decide +kernel
theorem dX2_remeasureAs_33 : decode cX2_remeasureAs 33 = .ok (.iinc 2 1, 3) := by decide +kernel
theorem dX2_remeasureAs_36 : decode cX2_remeasureAs 36 = .ok (.goto (-34), 3) := by decide +kernel
theorem dX2_remeasureAs_39 : decode cX2_remeasureAs 39 = .ok (.return_, 1) := by decide +kernel
theorem dX2_keepIn_0 : decode cX2_keepIn 0 = .ok (.aload_n 0, 1) := by decide +kernel
theorem dX2_keepIn_1 : decode cX2_keepIn 1 = .ok (.getfield 9, 3) := by decide +kernel
theorem dX2_keepIn_4 : decode cX2_keepIn 4 = .ok (.iconst 0, 1) := by decide +kernel
theorem dX2_keepIn_5 : decode cX2_keepIn 5 = .ok (.aload_n 1, 1) := by decide +kernel
theorem dX2_keepIn_6 : decode cX2_keepIn 6 = .ok (.iconst 0, 1) := by decide +kernel
theorem dX2_keepIn_7 : decode cX2_keepIn 7 = .ok (.bipush 16, 2) := by decide +kernel
theorem dX2_keepIn_9 : decode cX2_keepIn 9 = .ok (.invokestatic 18, 3) := by decide +kernel
theorem dX2_keepIn_12 : decode cX2_keepIn 12 = .ok (.aload_n 0, 1) := by decide +kernel
theorem dX2_keepIn_13 : decode cX2_keepIn 13 = .ok (.getfield 15, 3) := by decide +kernel
theorem dX2_keepIn_16 : decode cX2_keepIn 16 = .ok (.iconst 0, 1) := by decide +kernel
theorem dX2_keepIn_17 : decode cX2_keepIn 17 = .ok (.aload_n 1, 1) := by decide +kernel
theorem dX2_keepIn_18 : decode cX2_keepIn 18 = .ok (.bipush 16, 2) := by decide +kernel
theorem dX2_keepIn_20 : decode cX2_keepIn 20 = .ok (.bipush 16, 2) := by decide +kernel
theorem dX2_keepIn_22 : decode cX2_keepIn 22 = .ok (.invokestatic 18, 3) := by decide +kernel
theorem dX2_keepIn_25 : decode cX2_keepIn 25 = .ok (.return_, 1) := by decide +kernel
theorem dX2_restoreFrom_0 : decode cX2_restoreFrom 0 = .ok (.aload_n 1, 1) := by decide +kernel
theorem dX2_restoreFrom_1 : decode cX2_restoreFrom 1 = .ok (.iconst 0, 1) := by decide +kernel
theorem dX2_restoreFrom_2 : decode cX2_restoreFrom 2 = .ok (.aload_n 0, 1) := by decide +kernel
theorem dX2_restoreFrom_3 : decode cX2_restoreFrom 3 = .ok (.getfield 9, 3) := by decide +kernel
theorem dX2_restoreFrom_6 : decode cX2_restoreFrom 6 = .ok (.iconst 0, 1) := by decide +kernel
theorem dX2_restoreFrom_7 : decode cX2_restoreFrom 7 = .ok (.bipush 16, 2) := by decide +kernel
theorem dX2_restoreFrom_9 : decode cX2_restoreFrom 9 = .ok (.invokestatic 18, 3) := by decide +kernel
theorem dX2_restoreFrom_12 : decode cX2_restoreFrom 12 = .ok (.aload_n 1, 1) := by decide +kernel
theorem dX2_restoreFrom_13 : decode cX2_restoreFrom 13 = .ok (.bipush 16, 2) := by decide +kernel
theorem dX2_restoreFrom_15 : decode cX2_restoreFrom 15 = .ok (.aload_n 0, 1) := by decide +kernel
theorem dX2_restoreFrom_16 : decode cX2_restoreFrom 16 = .ok (.getfield 15, 3) := by decide +kernel
theorem dX2_restoreFrom_19 : decode cX2_restoreFrom 19 = .ok (.iconst 0, 1) := by decide +kernel
theorem dX2_restoreFrom_20 : decode cX2_restoreFrom 20 = .ok (.bipush 16, 2) := by decide +kernel
theorem dX2_restoreFrom_22 : decode cX2_restoreFrom 22 = .ok (.invokestatic 18, 3) := by decide +kernel
theorem dX2_restoreFrom_25 : decode cX2_restoreFrom 25 = .ok (.return_, 1) := by decide +kernel
theorem dX3_init_0 : decode cX3_init 0 = .ok (.aload_n 0, 1) := by decide +kernel
theorem dX3_init_1 : decode cX3_init 1 = .ok (.invokespecial 3, 3) := by decide +kernel
theorem dX3_init_4 : decode cX3_init 4 = .ok (.aload_n 0, 1) := by decide +kernel
theorem dX3_init_5 : decode cX3_init 5 = .ok (.iconst 0, 1) := by decide +kernel
theorem dX3_init_6 : decode cX3_init 6 = .ok (.putfield 9, 3) := by decide +kernel
theorem dX3_init_9 : decode cX3_init 9 = .ok (.aload_n 0, 1) := by decide +kernel
theorem dX3_init_10 : decode cX3_init 10 = .ok (.iconst 0, 1) := by decide +kernel
theorem dX3_init_11 : decode cX3_init 11 = .ok (.putfield 15, 3) := by decide +kernel
theorem dX3_init_14 : decode cX3_init 14 = .ok (.aload_n 0, 1) := by decide +kernel
theorem dX3_init_15 : decode cX3_init 15 = .ok (.iconst 0, 1) := by decide +kernel
theorem dX3_init_16 : decode cX3_init 16 = .ok (.putfield 18, 3) := by decide +kernel
theorem dX3_init_19 : decode cX3_init 19 = .ok (.aload_n 0, 1) := by decide +kernel
theorem dX3_init_20 : decode cX3_init 20 = .ok (.bipush 6, 2) := by decide +kernel
theorem dX3_init_22 : decode cX3_init 22 = .ok (.newarray .int, 2) := by decide +kernel
theorem dX3_init_24 : decode cX3_init 24 = .ok (.putfield 21, 3) := by decide +kernel
theorem dX3_init_27 : decode cX3_init 27 = .ok (.aload_n 0, 1) := by decide +kernel
theorem dX3_init_28 : decode cX3_init 28 = .ok (.bipush 6, 2) := by decide +kernel
theorem dX3_init_30 : decode cX3_init 30 = .ok (.bipush 16, 2) := by decide +kernel
theorem dX3_init_32 : decode cX3_init 32 = .ok (.multianewarray 25 2, 4) := by decide +kernel
theorem dX3_init_36 : decode cX3_init 36 = .ok (.putfield 27, 3) := by decide +kernel
theorem dX3_init_39 : decode cX3_init 39 = .ok (.return_, 1) := by decide +kernel
theorem dX3_begin_0 : decode cX3_begin 0 = .ok (.aload_n 0, 1) := by decide +kernel
theorem dX3_begin_1 : decode cX3_begin 1 = .ok (.iload_n 1, 1) := by decide +kernel
theorem dX3_begin_2 : decode cX3_begin 2 = .ok (.putfield 9, 3) := by decide +kernel
theorem dX3_begin_5 : decode cX3_begin 5 = .ok (.aload_n 0, 1) := by decide +kernel
theorem dX3_begin_6 : decode cX3_begin 6 = .ok (.iconst 0, 1) := by decide +kernel
theorem dX3_begin_7 : decode cX3_begin 7 = .ok (.putfield 15, 3) := by decide +kernel
theorem dX3_begin_10 : decode cX3_begin 10 = .ok (.aload_n 0, 1) := by decide +kernel
theorem dX3_begin_11 : decode cX3_begin 11 = .ok (.iconst 0, 1) := by decide +kernel
theorem dX3_begin_12 : decode cX3_begin 12 = .ok (.putfield 18, 3) := by decide +kernel
theorem dX3_begin_15 : decode cX3_begin 15 = .ok (.return_, 1) := by decide +kernel
theorem dX3_lastGrams_0 : decode cX3_lastGrams 0 = .ok (.aload_n 0, 1) := by decide +kernel
theorem dX3_lastGrams_1 : decode cX3_lastGrams 1 = .ok (.getfield 18, 3) := by decide +kernel
theorem dX3_lastGrams_4 : decode cX3_lastGrams 4 = .ok (.ifCond .ne 7, 3) := by decide +kernel
theorem dX3_lastGrams_7 : decode cX3_lastGrams 7 = .ok (.iconst 0, 1) := by decide +kernel
theorem dX3_lastGrams_8 : decode cX3_lastGrams 8 = .ok (.goto 14, 3) := by decide +kernel
theorem dX3_lastGrams_11 : decode cX3_lastGrams 11 = .ok (.aload_n 0, 1) := by decide +kernel
theorem dX3_lastGrams_12 : decode cX3_lastGrams 12 = .ok (.getfield 21, 3) := by decide +kernel
theorem dX3_lastGrams_15 : decode cX3_lastGrams 15 = .ok (.aload_n 0, 1) := by decide +kernel
theorem dX3_lastGrams_16 : decode cX3_lastGrams 16 = .ok (.getfield 18, 3) := by decide +kernel
theorem dX3_lastGrams_19 : decode cX3_lastGrams 19 = .ok (.iconst 1, 1) := by decide +kernel
theorem dX3_lastGrams_20 : decode cX3_lastGrams 20 = .ok (.isub, 1) := by decide +kernel
theorem dX3_lastGrams_21 : decode cX3_lastGrams 21 = .ok (.iaload, 1) := by decide +kernel
theorem dX3_lastGrams_22 : decode cX3_lastGrams 22 = .ok (.ireturn, 1) := by decide +kernel
theorem dX3_firstFrom_0 : decode cX3_firstFrom 0 = .ok (.iconst 0, 1) := by decide +kernel
theorem dX3_firstFrom_1 : decode cX3_firstFrom 1 = .ok (.istore_n 3, 1) := by decide +kernel
theorem dX3_firstFrom_2 : decode cX3_firstFrom 2 = .ok (.iload_n 3, 1) := by decide +kernel
theorem dX3_firstFrom_3 : decode cX3_firstFrom 3 = .ok (.aload_n 0, 1) := by decide +kernel
theorem dX3_firstFrom_4 : decode cX3_firstFrom 4 = .ok (.getfield 18, 3) := by decide +kernel
theorem dX3_firstFrom_7 : decode cX3_firstFrom 7 = .ok (.if_icmp .ge 23, 3) := by decide +kernel
theorem dX3_firstFrom_10 : decode cX3_firstFrom 10 = .ok (.aload_n 0, 1) := by decide +kernel
theorem dX3_firstFrom_11 : decode cX3_firstFrom 11 = .ok (.getfield 21, 3) := by decide +kernel
theorem dX3_firstFrom_14 : decode cX3_firstFrom 14 = .ok (.iload_n 3, 1) := by decide +kernel
theorem dX3_firstFrom_15 : decode cX3_firstFrom 15 = .ok (.iaload, 1) := by decide +kernel
theorem dX3_firstFrom_16 : decode cX3_firstFrom 16 = .ok (.i2d, 1) := by decide +kernel
theorem dX3_firstFrom_17 : decode cX3_firstFrom 17 = .ok (.dload_n 1, 1) := by decide +kernel
theorem dX3_firstFrom_18 : decode cX3_firstFrom 18 = .ok (.dcmp .l, 1) := by decide +kernel
theorem dX3_firstFrom_19 : decode cX3_firstFrom 19 = .ok (.ifCond .lt 5, 3) := by decide +kernel
theorem dX3_firstFrom_22 : decode cX3_firstFrom 22 = .ok (.iload_n 3, 1) := by decide +kernel
theorem dX3_firstFrom_23 : decode cX3_firstFrom 23 = .ok (.ireturn, 1) := by decide +kernel
theorem dX3_firstFrom_24 : decode cX3_firstFrom 24 = .ok (.iinc 3 1, 3) := by decide +kernel
theorem dX3_firstFrom_27 : decode cX3_firstFrom 27 = .ok (.goto (-25), 3) := by decide +kernel
theorem dX3_firstFrom_30 : decode cX3_firstFrom 30 = .ok (.aload_n 0, 1) := by decide +kernel
theorem dX3_firstFrom_31 : decode cX3_firstFrom 31 = .ok (.getfield 18, 3) := by decide +kernel
theorem dX3_firstFrom_34 : decode cX3_firstFrom 34 = .ok (.ireturn, 1) := by decide +kernel
set_option maxRecDepth 20000 in
theorem ggX3_strengthen_X6_quotientOf : GoodIn wsX3_strengthen wsX6_quotientOf := goodIn_r _ [7, 8, 9] (by decide +kernel) (by decide +kernel)
set_option maxRecDepth 20000 in
theorem gX3_strengthen_X6_quotientOf : GoodIn wsX3_strengthen (va_wsS RX3 30 yX6_quotientOf wsX6_quotientOf) := goodIn_app (goodIn_of _ (by decide +kernel)) ggX3_strengthen_X6_quotientOf
theorem dX3_strengthen_0 : decode cX3_strengthen 0 = .ok (.iconst 0, 1) := by decide +kernel
theorem dX3_strengthen_1 : decode cX3_strengthen 1 = .ok (.istore 4, 2) := by decide +kernel
theorem dX3_strengthen_3 : decode cX3_strengthen 3 = .ok (.iload 4, 2) := by decide +kernel
theorem dX3_strengthen_5 : decode cX3_strengthen 5 = .ok (.bipush 16, 2) := by decide +kernel
theorem dX3_strengthen_7 : decode cX3_strengthen 7 = .ok (.if_icmp .ge 51, 3) := by decide +kernel
theorem dX3_strengthen_10 : decode cX3_strengthen 10 = .ok (.aload_n 2, 1) := by decide +kernel
theorem dX3_strengthen_11 : decode cX3_strengthen 11 = .ok (.iload 4, 2) := by decide +kernel
theorem dX3_strengthen_13 : decode cX3_strengthen 13 = .ok (.faload, 1) := by decide +kernel
theorem dX3_strengthen_14 : decode cX3_strengthen 14 = .ok (.invokestatic 30, 3) := by decide +kernel
theorem dX3_strengthen_17 : decode cX3_strengthen 17 = .ok (.aload_n 3, 1) := by decide +kernel
theorem dX3_strengthen_18 : decode cX3_strengthen 18 = .ok (.iload 4, 2) := by decide +kernel
theorem dX3_strengthen_20 : decode cX3_strengthen 20 = .ok (.faload, 1) := by decide +kernel
theorem dX3_strengthen_21 : decode cX3_strengthen 21 = .ok (.invokestatic 30, 3) := by decide +kernel
theorem dX3_strengthen_24 : decode cX3_strengthen 24 = .ok (.dsub, 1) := by decide +kernel
theorem dX3_strengthen_25 : decode cX3_strengthen 25 = .ok (.dstore 5, 2) := by decide +kernel
theorem dX3_strengthen_27 : decode cX3_strengthen 27 = .ok (.aload_n 0, 1) := by decide +kernel
theorem dX3_strengthen_28 : decode cX3_strengthen 28 = .ok (.getfield 27, 3) := by decide +kernel
theorem dX3_strengthen_31 : decode cX3_strengthen 31 = .ok (.aload_n 0, 1) := by decide +kernel
theorem dX3_strengthen_32 : decode cX3_strengthen 32 = .ok (.getfield 18, 3) := by decide +kernel
theorem dX3_strengthen_35 : decode cX3_strengthen 35 = .ok (.aaload, 1) := by decide +kernel
theorem dX3_strengthen_36 : decode cX3_strengthen 36 = .ok (.iload 4, 2) := by decide +kernel
theorem dX3_strengthen_38 : decode cX3_strengthen 38 = .ok (.dload 5, 2) := by decide +kernel
theorem dX3_strengthen_40 : decode cX3_strengthen 40 = .ok (.dconst 0, 1) := by decide +kernel
theorem dX3_strengthen_41 : decode cX3_strengthen 41 = .ok (.dcmp .g, 1) := by decide +kernel
theorem dX3_strengthen_42 : decode cX3_strengthen 42 = .ok (.ifCond .ge 7, 3) := by decide +kernel
theorem dX3_strengthen_45 : decode cX3_strengthen 45 = .ok (.dconst 0, 1) := by decide +kernel
theorem dX3_strengthen_46 : decode cX3_strengthen 46 = .ok (.goto 5, 3) := by decide +kernel
theorem dX3_strengthen_49 : decode cX3_strengthen 49 = .ok (.dload 5, 2) := by decide +kernel
theorem dX3_strengthen_51 : decode cX3_strengthen 51 = .ok (.dastore, 1) := by decide +kernel
theorem dX3_strengthen_52 : decode cX3_strengthen 52 = .ok (.iinc 4 1, 3) := by decide +kernel
theorem dX3_strengthen_55 : decode cX3_strengthen 55 = .ok (.goto (-52), 3) := by decide +kernel
theorem dX3_strengthen_58 : decode cX3_strengthen 58 = .ok (.aload_n 0, 1) := by decide +kernel
theorem dX3_strengthen_59 : decode cX3_strengthen 59 = .ok (.getfield 21, 3) := by decide +kernel
theorem dX3_strengthen_62 : decode cX3_strengthen 62 = .ok (.aload_n 0, 1) := by decide +kernel
theorem dX3_strengthen_63 : decode cX3_strengthen 63 = .ok (.getfield 18, 3) := by decide +kernel
theorem dX3_strengthen_66 : decode cX3_strengthen 66 = .ok (.iload_n 1, 1) := by decide +kernel
theorem dX3_strengthen_67 : decode cX3_strengthen 67 = .ok (.iastore, 1) := by decide +kernel
theorem dX3_strengthen_68 : decode cX3_strengthen 68 = .ok (.aload_n 0, 1) := by decide +kernel
theorem dX3_strengthen_69 : decode cX3_strengthen 69 = .ok (.dup, 1) := by decide +kernel
theorem dX3_strengthen_70 : decode cX3_strengthen 70 = .ok (.getfield 18, 3) := by decide +kernel
theorem dX3_strengthen_73 : decode cX3_strengthen 73 = .ok (.iconst 1, 1) := by decide +kernel
theorem dX3_strengthen_74 : decode cX3_strengthen 74 = .ok (.iadd, 1) := by decide +kernel
theorem dX3_strengthen_75 : decode cX3_strengthen 75 = .ok (.putfield 18, 3) := by decide +kernel
theorem dX3_strengthen_78 : decode cX3_strengthen 78 = .ok (.return_, 1) := by decide +kernel
theorem dX3_tell_0 : decode cX3_tell 0 = .ok (.iload_n 1, 1) := by decide +kernel
theorem dX3_tell_1 : decode cX3_tell 1 = .ok (.ifCond .ne 10, 3) := by decide +kernel
theorem dX3_tell_4 : decode cX3_tell 4 = .ok (.aload_n 0, 1) := by decide +kernel
theorem dX3_tell_5 : decode cX3_tell 5 = .ok (.getfield 9, 3) := by decide +kernel
theorem dX3_tell_8 : decode cX3_tell 8 = .ok (.goto 19, 3) := by decide +kernel
theorem dX3_tell_11 : decode cX3_tell 11 = .ok (.iload_n 1, 1) := by decide +kernel
theorem dX3_tell_12 : decode cX3_tell 12 = .ok (.iconst 1, 1) := by decide +kernel
theorem dX3_tell_13 : decode cX3_tell 13 = .ok (.if_icmp .ne 10, 3) := by decide +kernel
theorem dX3_tell_16 : decode cX3_tell 16 = .ok (.aload_n 0, 1) := by decide +kernel
theorem dX3_tell_17 : decode cX3_tell 17 = .ok (.getfield 18, 3) := by decide +kernel
theorem dX3_tell_20 : decode cX3_tell 20 = .ok (.goto 7, 3) := by decide +kernel
theorem dX3_tell_23 : decode cX3_tell 23 = .ok (.aload_n 0, 1) := by decide +kernel
theorem dX3_tell_24 : decode cX3_tell 24 = .ok (.getfield 15, 3) := by decide +kernel
theorem dX3_tell_27 : decode cX3_tell 27 = .ok (.ireturn, 1) := by decide +kernel
theorem dX4_init_0 : decode cX4_init 0 = .ok (.aload_n 0, 1) := by decide +kernel
theorem dX4_init_1 : decode cX4_init 1 = .ok (.invokespecial 1, 3) := by decide +kernel
theorem dX4_init_4 : decode cX4_init 4 = .ok (.aload_n 0, 1) := by decide +kernel
theorem dX4_init_5 : decode cX4_init 5 = .ok (.iconst 0, 1) := by decide +kernel
theorem dX4_init_6 : decode cX4_init 6 = .ok (.putfield 7, 3) := by decide +kernel
theorem dX4_init_9 : decode cX4_init 9 = .ok (.aload_n 0, 1) := by decide +kernel
theorem dX4_init_10 : decode cX4_init 10 = .ok (.iconst 1, 1) := by decide +kernel
theorem dX4_init_11 : decode cX4_init 11 = .ok (.putfield 13, 3) := by decide +kernel
theorem dX4_init_14 : decode cX4_init 14 = .ok (.aload_n 0, 1) := by decide +kernel
theorem dX4_init_15 : decode cX4_init 15 = .ok (.iconst 1, 1) := by decide +kernel
theorem dX4_init_16 : decode cX4_init 16 = .ok (.putfield 16, 3) := by decide +kernel
theorem dX4_init_19 : decode cX4_init 19 = .ok (.aload_n 0, 1) := by decide +kernel
theorem dX4_init_20 : decode cX4_init 20 = .ok (.iconst 0, 1) := by decide +kernel
theorem dX4_init_21 : decode cX4_init 21 = .ok (.putfield 19, 3) := by decide +kernel
theorem dX4_init_24 : decode cX4_init 24 = .ok (.aload_n 0, 1) := by decide +kernel
theorem dX4_init_25 : decode cX4_init 25 = .ok (.iconst 0, 1) := by decide +kernel
theorem dX4_init_26 : decode cX4_init 26 = .ok (.putfield 22, 3) := by decide +kernel
theorem dX4_init_29 : decode cX4_init 29 = .ok (.return_, 1) := by decide +kernel
theorem dX4_begin_0 : decode cX4_begin 0 = .ok (.aload_n 0, 1) := by decide +kernel
theorem dX4_begin_1 : decode cX4_begin 1 = .ok (.iload_n 1, 1) := by decide +kernel
theorem dX4_begin_2 : decode cX4_begin 2 = .ok (.putfield 7, 3) := by decide +kernel
theorem dX4_begin_5 : decode cX4_begin 5 = .ok (.aload_n 0, 1) := by decide +kernel
theorem dX4_begin_6 : decode cX4_begin 6 = .ok (.iload_n 2, 1) := by decide +kernel
theorem dX4_begin_7 : decode cX4_begin 7 = .ok (.putfield 13, 3) := by decide +kernel
theorem dX4_begin_10 : decode cX4_begin 10 = .ok (.aload_n 0, 1) := by decide +kernel
theorem dX4_begin_11 : decode cX4_begin 11 = .ok (.iload_n 3, 1) := by decide +kernel
theorem dX4_begin_12 : decode cX4_begin 12 = .ok (.putfield 16, 3) := by decide +kernel
theorem dX4_begin_15 : decode cX4_begin 15 = .ok (.aload_n 0, 1) := by decide +kernel
theorem dX4_begin_16 : decode cX4_begin 16 = .ok (.iload 4, 2) := by decide +kernel
theorem dX4_begin_18 : decode cX4_begin 18 = .ok (.putfield 19, 3) := by decide +kernel
theorem dX4_begin_21 : decode cX4_begin 21 = .ok (.aload_n 0, 1) := by decide +kernel
theorem dX4_begin_22 : decode cX4_begin 22 = .ok (.iload 4, 2) := by decide +kernel
theorem dX4_begin_24 : decode cX4_begin 24 = .ok (.putfield 22, 3) := by decide +kernel
theorem dX4_begin_27 : decode cX4_begin 27 = .ok (.return_, 1) := by decide +kernel
theorem dX4_worthOf_0 : decode cX4_worthOf 0 = .ok (.lload_n 1, 1) := by decide +kernel
theorem dX4_worthOf_1 : decode cX4_worthOf 1 = .ok (.l2d, 1) := by decide +kernel
theorem dX4_worthOf_2 : decode cX4_worthOf 2 = .ok (.aload_n 0, 1) := by decide +kernel
theorem dX4_worthOf_3 : decode cX4_worthOf 3 = .ok (.getfield 13, 3) := by decide +kernel
theorem dX4_worthOf_6 : decode cX4_worthOf 6 = .ok (.i2d, 1) := by decide +kernel
theorem dX4_worthOf_7 : decode cX4_worthOf 7 = .ok (.dmul, 1) := by decide +kernel
theorem dX4_worthOf_8 : decode cX4_worthOf 8 = .ok (.aload_n 0, 1) := by decide +kernel
theorem dX4_worthOf_9 : decode cX4_worthOf 9 = .ok (.getfield 16, 3) := by decide +kernel
theorem dX4_worthOf_12 : decode cX4_worthOf 12 = .ok (.i2d, 1) := by decide +kernel
theorem dX4_worthOf_13 : decode cX4_worthOf 13 = .ok (.ddiv, 1) := by decide +kernel
theorem dX4_worthOf_14 : decode cX4_worthOf 14 = .ok (.dreturn, 1) := by decide +kernel
theorem dX4_tell_0 : decode cX4_tell 0 = .ok (.iload_n 1, 1) := by decide +kernel
theorem dX4_tell_1 : decode cX4_tell 1 = .ok (.tableswitch 47 0 2 #[27, 32, 37], 27) := by decide +kernel
theorem dX4_tell_28 : decode cX4_tell 28 = .ok (.aload_n 0, 1) := by decide +kernel
theorem dX4_tell_29 : decode cX4_tell 29 = .ok (.getfield 7, 3) := by decide +kernel
theorem dX4_tell_32 : decode cX4_tell 32 = .ok (.ireturn, 1) := by decide +kernel
theorem dX4_tell_33 : decode cX4_tell 33 = .ok (.aload_n 0, 1) := by decide +kernel
theorem dX4_tell_34 : decode cX4_tell 34 = .ok (.getfield 22, 3) := by decide +kernel
theorem dX4_tell_37 : decode cX4_tell 37 = .ok (.ireturn, 1) := by decide +kernel
theorem dX4_tell_38 : decode cX4_tell 38 = .ok (.aload_n 0, 1) := by decide +kernel
theorem dX4_tell_39 : decode cX4_tell 39 = .ok (.getfield 19, 3) := by decide +kernel
theorem dX4_tell_42 : decode cX4_tell 42 = .ok (.aload_n 0, 1) := by decide +kernel
theorem dX4_tell_43 : decode cX4_tell 43 = .ok (.getfield 22, 3) := by decide +kernel
theorem dX4_tell_46 : decode cX4_tell 46 = .ok (.isub, 1) := by decide +kernel
theorem dX4_tell_47 : decode cX4_tell 47 = .ok (.ireturn, 1) := by decide +kernel
theorem dX4_tell_48 : decode cX4_tell 48 = .ok (.aload_n 0, 1) := by decide +kernel
theorem dX4_tell_49 : decode cX4_tell 49 = .ok (.getfield 19, 3) := by decide +kernel
theorem dX4_tell_52 : decode cX4_tell 52 = .ok (.ireturn, 1) := by decide +kernel
theorem dX5_init_0 : decode cX5_init 0 = .ok (.aload_n 0, 1) := by decide +kernel
theorem dX5_init_1 : decode cX5_init 1 = .ok (.invokespecial 3, 3) := by decide +kernel
theorem dX5_init_4 : decode cX5_init 4 = .ok (.aload_n 0, 1) := by decide +kernel
theorem dX5_init_5 : decode cX5_init 5 = .ok (.bipush 68, 2) := by decide +kernel
theorem dX5_init_7 : decode cX5_init 7 = .ok (.newarray .int, 2) := by decide +kernel
theorem dX5_init_9 : decode cX5_init 9 = .ok (.putfield 11, 3) := by decide +kernel
theorem dX5_init_12 : decode cX5_init 12 = .ok (.aload_n 0, 1) := by decide +kernel
theorem dX5_init_13 : decode cX5_init 13 = .ok (.iconst 0, 1) := by decide +kernel
theorem dX5_init_14 : decode cX5_init 14 = .ok (.putfield 15, 3) := by decide +kernel
theorem dX5_init_17 : decode cX5_init 17 = .ok (.aload_n 0, 1) := by decide +kernel
theorem dX5_init_18 : decode cX5_init 18 = .ok (.bipush 68, 2) := by decide +kernel
theorem dX5_init_20 : decode cX5_init 20 = .ok (.newarray .int, 2) := by decide +kernel
theorem dX5_init_22 : decode cX5_init 22 = .ok (.putfield 19, 3) := by decide +kernel
theorem dX5_init_25 : decode cX5_init 25 = .ok (.return_, 1) := by decide +kernel
set_option maxRecDepth 20000 in
theorem ggX5_write_X7_floatBits : GoodIn wsX5_write wsX7_floatBits := goodIn_r _ [6, 7, 8, 9, 10, 11] (by decide +kernel) (by decide +kernel)
set_option maxRecDepth 20000 in
theorem gX5_write_X7_floatBits : GoodIn wsX5_write (va_wsS RX5 22 yX7_floatBits wsX7_floatBits) := goodIn_app (goodIn_of _ (by decide +kernel)) ggX5_write_X7_floatBits
set_option maxRecDepth 20000 in
theorem ggX5_write_X5_put : GoodIn wsX5_write wsX5_put := goodIn_r _ [16, 1, 20, 21, 22] (by decide +kernel) (by decide +kernel)
set_option maxRecDepth 20000 in
theorem gX5_write_X5_put : GoodIn wsX5_write (wsV RX5 28 RX5 yX5_put wsX5_put) := goodIn_app (goodIn_of _ (by decide +kernel)) ggX5_write_X5_put
set_option maxRecDepth 20000 in
theorem ggX5_write_X5_sumOf : GoodIn wsX5_write wsX5_sumOf := goodIn_r _ [19] (by decide +kernel) (by decide +kernel)
set_option maxRecDepth 20000 in
theorem gX5_write_X5_sumOf : GoodIn wsX5_write (va_wsS RX5 32 yX5_sumOf wsX5_sumOf) := goodIn_app (goodIn_of _ (by decide +kernel)) ggX5_write_X5_sumOf
theorem dX5_write_0 : decode cX5_write 0 = .ok (.iconst 0, 1) := by decide +kernel
theorem dX5_write_1 : decode cX5_write 1 = .ok (.istore_n 2, 1) := by decide +kernel
theorem dX5_write_2 : decode cX5_write 2 = .ok (.iload_n 2, 1) := by decide +kernel
theorem dX5_write_3 : decode cX5_write 3 = .ok (.bipush 16, 2) := by decide +kernel
theorem dX5_write_5 : decode cX5_write 5 = .ok (.if_icmp .ge 23, 3) := by decide +kernel
theorem dX5_write_8 : decode cX5_write 8 = .ok (.aload_n 0, 1) := by decide +kernel
theorem dX5_write_9 : decode cX5_write 9 = .ok (.iconst 4, 1) := by decide +kernel
theorem dX5_write_10 : decode cX5_write 10 = .ok (.iload_n 2, 1) := by decide +kernel
theorem dX5_write_11 : decode cX5_write 11 = .ok (.imul, 1) := by decide +kernel
theorem dX5_write_12 : decode cX5_write 12 = .ok (.aload_n 1, 1) := by decide +kernel
theorem dX5_write_13 : decode cX5_write 13 = .ok (.iload_n 2, 1) := by decide +kernel
theorem dX5_write_14 : decode cX5_write 14 = .ok (.faload, 1) := by decide +kernel
theorem dX5_write_15 : decode cX5_write 15 = .ok (.f2d, 1) := by decide +kernel
theorem dX5_write_16 : decode cX5_write 16 = .ok (.invokestatic 22, 3) := by decide +kernel
theorem dX5_write_19 : decode cX5_write 19 = .ok (.invokevirtual 28, 3) := by decide +kernel
theorem dX5_write_22 : decode cX5_write 22 = .ok (.iinc 2 1, 3) := by decide +kernel
theorem dX5_write_25 : decode cX5_write 25 = .ok (.goto (-23), 3) := by decide +kernel
theorem dX5_write_28 : decode cX5_write 28 = .ok (.aload_n 0, 1) := by decide +kernel
theorem dX5_write_29 : decode cX5_write 29 = .ok (.bipush 64, 2) := by decide +kernel
theorem dX5_write_31 : decode cX5_write 31 = .ok (.aload_n 0, 1) := by decide +kernel
theorem dX5_write_32 : decode cX5_write 32 = .ok (.getfield 11, 3) := by decide +kernel
theorem dX5_write_35 : decode cX5_write 35 = .ok (.invokestatic 32, 3) := by decide +kernel
theorem dX5_write_38 : decode cX5_write 38 = .ok (.invokevirtual 28, 3) := by decide +kernel
theorem dX5_write_41 : decode cX5_write 41 = .ok (.aload_n 0, 1) := by decide +kernel
theorem dX5_write_42 : decode cX5_write 42 = .ok (.bipush 68, 2) := by decide +kernel
theorem dX5_write_44 : decode cX5_write 44 = .ok (.putfield 15, 3) := by decide +kernel
theorem dX5_write_47 : decode cX5_write 47 = .ok (.bipush 68, 2) := by decide +kernel
theorem dX5_write_49 : decode cX5_write 49 = .ok (.ireturn, 1) := by decide +kernel
set_option maxRecDepth 20000 in
theorem ggX5_hasRightSum_X5_wordAt : GoodIn wsX5_hasRightSum wsX5_wordAt := goodIn_r _ [6, 1, 10, 11, 12] (by decide +kernel) (by decide +kernel)
set_option maxRecDepth 20000 in
theorem gX5_hasRightSum_X5_wordAt : GoodIn wsX5_hasRightSum (wsV RX5 36 RX5 yX5_wordAt wsX5_wordAt) := goodIn_app (goodIn_of _ (by decide +kernel)) ggX5_hasRightSum_X5_wordAt
set_option maxRecDepth 20000 in
theorem ggX5_hasRightSum_X5_sumOf : GoodIn wsX5_hasRightSum wsX5_sumOf := goodIn_r _ [9] (by decide +kernel) (by decide +kernel)
set_option maxRecDepth 20000 in
theorem gX5_hasRightSum_X5_sumOf : GoodIn wsX5_hasRightSum (va_wsS RX5 32 yX5_sumOf wsX5_sumOf) := goodIn_app (goodIn_of _ (by decide +kernel)) ggX5_hasRightSum_X5_sumOf
theorem dX5_hasRightSum_0 : decode cX5_hasRightSum 0 = .ok (.aload_n 0, 1) := by decide +kernel
theorem dX5_hasRightSum_1 : decode cX5_hasRightSum 1 = .ok (.bipush 64, 2) := by decide +kernel
theorem dX5_hasRightSum_3 : decode cX5_hasRightSum 3 = .ok (.invokevirtual 36, 3) := by decide +kernel
theorem dX5_hasRightSum_6 : decode cX5_hasRightSum 6 = .ok (.aload_n 0, 1) := by decide +kernel
theorem dX5_hasRightSum_7 : decode cX5_hasRightSum 7 = .ok (.getfield 19, 3) := by decide +kernel
theorem dX5_hasRightSum_10 : decode cX5_hasRightSum 10 = .ok (.invokestatic 32, 3) := by decide +kernel
theorem dX5_hasRightSum_13 : decode cX5_hasRightSum 13 = .ok (.if_icmp .ne 7, 3) := by decide +kernel
theorem dX5_hasRightSum_16 : decode cX5_hasRightSum 16 = .ok (.iconst 1, 1) := by decide +kernel
theorem dX5_hasRightSum_17 : decode cX5_hasRightSum 17 = .ok (.goto 4, 3) := by decide +kernel
theorem dX5_hasRightSum_20 : decode cX5_hasRightSum 20 = .ok (.iconst 0, 1) := by decide +kernel
theorem dX5_hasRightSum_21 : decode cX5_hasRightSum 21 = .ok (.ireturn, 1) := by decide +kernel
set_option maxRecDepth 20000 in
theorem ggX5_isTakenAll_X5_wordAt : GoodIn wsX5_isTakenAll wsX5_wordAt := goodIn_r _ [5, 6, 12, 13, 14] (by decide +kernel) (by decide +kernel)
set_option maxRecDepth 20000 in
theorem gX5_isTakenAll_X5_wordAt : GoodIn wsX5_isTakenAll (wsV RX5 36 RX5 yX5_wordAt wsX5_wordAt) := goodIn_app (goodIn_of _ (by decide +kernel)) ggX5_isTakenAll_X5_wordAt
set_option maxRecDepth 20000 in
theorem ggX5_isTakenAll_X7_isTaken : GoodIn wsX5_isTakenAll wsX7_isTaken := goodIn_r _ [10, 11] (by decide +kernel) (by decide +kernel)
set_option maxRecDepth 20000 in
theorem gX5_isTakenAll_X7_isTaken : GoodIn wsX5_isTakenAll (va_wsS RX5 40 yX7_isTaken wsX7_isTaken) := goodIn_app (goodIn_of _ (by decide +kernel)) ggX5_isTakenAll_X7_isTaken
theorem dX5_isTakenAll_0 : decode cX5_isTakenAll 0 = .ok (.iconst 0, 1) := by decide +kernel
theorem dX5_isTakenAll_1 : decode cX5_isTakenAll 1 = .ok (.istore_n 1, 1) := by decide +kernel
theorem dX5_isTakenAll_2 : decode cX5_isTakenAll 2 = .ok (.iload_n 1, 1) := by decide +kernel
theorem dX5_isTakenAll_3 : decode cX5_isTakenAll 3 = .ok (.bipush 16, 2) := by decide +kernel
theorem dX5_isTakenAll_5 : decode cX5_isTakenAll 5 = .ok (.if_icmp .ge 24, 3) := by decide +kernel
theorem dX5_isTakenAll_8 : decode cX5_isTakenAll 8 = .ok (.aload_n 0, 1) := by decide +kernel
theorem dX5_isTakenAll_9 : decode cX5_isTakenAll 9 = .ok (.iconst 4, 1) := by decide +kernel
theorem dX5_isTakenAll_10 : decode cX5_isTakenAll 10 = .ok (.iload_n 1, 1) := by decide +kernel
theorem dX5_isTakenAll_11 : decode cX5_isTakenAll 11 = .ok (.imul, 1) := by decide +kernel
theorem dX5_isTakenAll_12 : decode cX5_isTakenAll 12 = .ok (.invokevirtual 36, 3) := by decide +kernel
theorem dX5_isTakenAll_15 : decode cX5_isTakenAll 15 = .ok (.invokestatic 40, 3) := by decide +kernel
theorem dX5_isTakenAll_18 : decode cX5_isTakenAll 18 = .ok (.ifCond .ne 5, 3) := by decide +kernel
theorem dX5_isTakenAll_21 : decode cX5_isTakenAll 21 = .ok (.iconst 0, 1) := by decide +kernel
theorem dX5_isTakenAll_22 : decode cX5_isTakenAll 22 = .ok (.ireturn, 1) := by decide +kernel
theorem dX5_isTakenAll_23 : decode cX5_isTakenAll 23 = .ok (.iinc 1 1, 3) := by decide +kernel
theorem dX5_isTakenAll_26 : decode cX5_isTakenAll 26 = .ok (.goto (-24), 3) := by decide +kernel
theorem dX5_isTakenAll_29 : decode cX5_isTakenAll 29 = .ok (.iconst 1, 1) := by decide +kernel
theorem dX5_isTakenAll_30 : decode cX5_isTakenAll 30 = .ok (.ireturn, 1) := by decide +kernel
set_option maxRecDepth 20000 in
theorem ggX5_read_X5_wordAt : GoodIn wsX5_read wsX5_wordAt := goodIn_r _ [5, 6, 18, 19, 20] (by decide +kernel) (by decide +kernel)
set_option maxRecDepth 20000 in
theorem gX5_read_X5_wordAt : GoodIn wsX5_read (wsV RX5 36 RX5 yX5_wordAt wsX5_wordAt) := goodIn_app (goodIn_of _ (by decide +kernel)) ggX5_read_X5_wordAt
set_option maxRecDepth 20000 in
theorem ggX5_read_X7_floatOf : GoodIn wsX5_read wsX7_floatOf := goodIn_r _ [10, 11, 12, 13, 14, 15, 16, 17] (by decide +kernel) (by decide +kernel)
set_option maxRecDepth 20000 in
theorem gX5_read_X7_floatOf : GoodIn wsX5_read (va_wsS RX5 44 yX7_floatOf wsX7_floatOf) := goodIn_app (goodIn_of _ (by decide +kernel)) ggX5_read_X7_floatOf
theorem dX5_read_0 : decode cX5_read 0 = .ok (.iconst 0, 1) := by decide +kernel
theorem dX5_read_1 : decode cX5_read 1 = .ok (.istore_n 2, 1) := by decide +kernel
theorem dX5_read_2 : decode cX5_read 2 = .ok (.iload_n 2, 1) := by decide +kernel
theorem dX5_read_3 : decode cX5_read 3 = .ok (.bipush 16, 2) := by decide +kernel
theorem dX5_read_5 : decode cX5_read 5 = .ok (.if_icmp .ge 22, 3) := by decide +kernel
theorem dX5_read_8 : decode cX5_read 8 = .ok (.aload_n 1, 1) := by decide +kernel
theorem dX5_read_9 : decode cX5_read 9 = .ok (.iload_n 2, 1) := by decide +kernel
theorem dX5_read_10 : decode cX5_read 10 = .ok (.aload_n 0, 1) := by decide +kernel
theorem dX5_read_11 : decode cX5_read 11 = .ok (.iconst 4, 1) := by decide +kernel
theorem dX5_read_12 : decode cX5_read 12 = .ok (.iload_n 2, 1) := by decide +kernel
theorem dX5_read_13 : decode cX5_read 13 = .ok (.imul, 1) := by decide +kernel
theorem dX5_read_14 : decode cX5_read 14 = .ok (.invokevirtual 36, 3) := by decide +kernel
theorem dX5_read_17 : decode cX5_read 17 = .ok (.invokestatic 44, 3) := by decide +kernel
theorem dX5_read_20 : decode cX5_read 20 = .ok (.fastore, 1) := by decide +kernel
theorem dX5_read_21 : decode cX5_read 21 = .ok (.iinc 2 1, 3) := by decide +kernel
theorem dX5_read_24 : decode cX5_read 24 = .ok (.goto (-22), 3) := by decide +kernel
theorem dX5_read_27 : decode cX5_read 27 = .ok (.return_, 1) := by decide +kernel
theorem dX5_sumOf_0 : decode cX5_sumOf 0 = .ok (.bipush 17, 2) := by decide +kernel
theorem dX5_sumOf_2 : decode cX5_sumOf 2 = .ok (.istore_n 1, 1) := by decide +kernel
theorem dX5_sumOf_3 : decode cX5_sumOf 3 = .ok (.iconst 0, 1) := by decide +kernel
theorem dX5_sumOf_4 : decode cX5_sumOf 4 = .ok (.istore_n 2, 1) := by decide +kernel
theorem dX5_sumOf_5 : decode cX5_sumOf 5 = .ok (.iload_n 2, 1) := by decide +kernel
theorem dX5_sumOf_6 : decode cX5_sumOf 6 = .ok (.bipush 64, 2) := by decide +kernel
theorem dX5_sumOf_8 : decode cX5_sumOf 8 = .ok (.if_icmp .ge 18, 3) := by decide +kernel
theorem dX5_sumOf_11 : decode cX5_sumOf 11 = .ok (.iload_n 1, 1) := by decide +kernel
theorem dX5_sumOf_12 : decode cX5_sumOf 12 = .ok (.bipush 31, 2) := by decide +kernel
theorem dX5_sumOf_14 : decode cX5_sumOf 14 = .ok (.imul, 1) := by decide +kernel
theorem dX5_sumOf_15 : decode cX5_sumOf 15 = .ok (.aload_n 0, 1) := by decide +kernel
theorem dX5_sumOf_16 : decode cX5_sumOf 16 = .ok (.iload_n 2, 1) := by decide +kernel
theorem dX5_sumOf_17 : decode cX5_sumOf 17 = .ok (.iaload, 1) := by decide +kernel
theorem dX5_sumOf_18 : decode cX5_sumOf 18 = .ok (.iadd, 1) := by decide +kernel
theorem dX5_sumOf_19 : decode cX5_sumOf 19 = .ok (.istore_n 1, 1) := by decide +kernel
theorem dX5_sumOf_20 : decode cX5_sumOf 20 = .ok (.iinc 2 1, 3) := by decide +kernel
theorem dX5_sumOf_23 : decode cX5_sumOf 23 = .ok (.goto (-18), 3) := by decide +kernel
theorem dX5_sumOf_26 : decode cX5_sumOf 26 = .ok (.iload_n 1, 1) := by decide +kernel
theorem dX5_sumOf_27 : decode cX5_sumOf 27 = .ok (.ireturn, 1) := by decide +kernel
theorem dX5_put_0 : decode cX5_put 0 = .ok (.iconst 0, 1) := by decide +kernel
theorem dX5_put_1 : decode cX5_put 1 = .ok (.istore_n 3, 1) := by decide +kernel
theorem dX5_put_2 : decode cX5_put 2 = .ok (.iload_n 3, 1) := by decide +kernel
theorem dX5_put_3 : decode cX5_put 3 = .ok (.iconst 4, 1) := by decide +kernel
theorem dX5_put_4 : decode cX5_put 4 = .ok (.if_icmp .ge 30, 3) := by decide +kernel
theorem dX5_put_7 : decode cX5_put 7 = .ok (.aload_n 0, 1) := by decide +kernel
theorem dX5_put_8 : decode cX5_put 8 = .ok (.getfield 11, 3) := by decide +kernel
theorem dX5_put_11 : decode cX5_put 11 = .ok (.iload_n 1, 1) := by decide +kernel
theorem dX5_put_12 : decode cX5_put 12 = .ok (.iload_n 3, 1) := by decide +kernel
theorem dX5_put_13 : decode cX5_put 13 = .ok (.iadd, 1) := by decide +kernel
theorem dX5_put_14 : decode cX5_put 14 = .ok (.iload_n 2, 1) := by decide +kernel
theorem dX5_put_15 : decode cX5_put 15 = .ok (.bipush 24, 2) := by decide +kernel
theorem dX5_put_17 : decode cX5_put 17 = .ok (.bipush 8, 2) := by decide +kernel
theorem dX5_put_19 : decode cX5_put 19 = .ok (.iload_n 3, 1) := by decide +kernel
theorem dX5_put_20 : decode cX5_put 20 = .ok (.imul, 1) := by decide +kernel
theorem dX5_put_21 : decode cX5_put 21 = .ok (.isub, 1) := by decide +kernel
theorem dX5_put_22 : decode cX5_put 22 = .ok (.iushr, 1) := by decide +kernel
theorem dX5_put_23 : decode cX5_put 23 = .ok (.sipush 255, 3) := by decide +kernel
theorem dX5_put_26 : decode cX5_put 26 = .ok (.iand, 1) := by decide +kernel
theorem dX5_put_27 : decode cX5_put 27 = .ok (.iastore, 1) := by decide +kernel
theorem dX5_put_28 : decode cX5_put 28 = .ok (.iinc 3 1, 3) := by decide +kernel
theorem dX5_put_31 : decode cX5_put 31 = .ok (.goto (-29), 3) := by decide +kernel
theorem dX5_put_34 : decode cX5_put 34 = .ok (.return_, 1) := by decide +kernel
theorem dX5_wordAt_0 : decode cX5_wordAt 0 = .ok (.iconst 0, 1) := by decide +kernel
theorem dX5_wordAt_1 : decode cX5_wordAt 1 = .ok (.istore_n 2, 1) := by decide +kernel
theorem dX5_wordAt_2 : decode cX5_wordAt 2 = .ok (.iconst 0, 1) := by decide +kernel
theorem dX5_wordAt_3 : decode cX5_wordAt 3 = .ok (.istore_n 3, 1) := by decide +kernel
theorem dX5_wordAt_4 : decode cX5_wordAt 4 = .ok (.iload_n 3, 1) := by decide +kernel
theorem dX5_wordAt_5 : decode cX5_wordAt 5 = .ok (.iconst 4, 1) := by decide +kernel
theorem dX5_wordAt_6 : decode cX5_wordAt 6 = .ok (.if_icmp .ge 23, 3) := by decide +kernel
theorem dX5_wordAt_9 : decode cX5_wordAt 9 = .ok (.iload_n 2, 1) := by decide +kernel
theorem dX5_wordAt_10 : decode cX5_wordAt 10 = .ok (.bipush 8, 2) := by decide +kernel
theorem dX5_wordAt_12 : decode cX5_wordAt 12 = .ok (.ishl, 1) := by decide +kernel
theorem dX5_wordAt_13 : decode cX5_wordAt 13 = .ok (.aload_n 0, 1) := by decide +kernel
theorem dX5_wordAt_14 : decode cX5_wordAt 14 = .ok (.getfield 19, 3) := by decide +kernel
theorem dX5_wordAt_17 : decode cX5_wordAt 17 = .ok (.iload_n 1, 1) := by decide +kernel
theorem dX5_wordAt_18 : decode cX5_wordAt 18 = .ok (.iload_n 3, 1) := by decide +kernel
theorem dX5_wordAt_19 : decode cX5_wordAt 19 = .ok (.iadd, 1) := by decide +kernel
theorem dX5_wordAt_20 : decode cX5_wordAt 20 = .ok (.iaload, 1) := by decide +kernel
theorem dX5_wordAt_21 : decode cX5_wordAt 21 = .ok (.ior, 1) := by decide +kernel
theorem dX5_wordAt_22 : decode cX5_wordAt 22 = .ok (.istore_n 2, 1) := by decide +kernel
theorem dX5_wordAt_23 : decode cX5_wordAt 23 = .ok (.iinc 3 1, 3) := by decide +kernel
theorem dX5_wordAt_26 : decode cX5_wordAt 26 = .ok (.goto (-22), 3) := by decide +kernel
theorem dX5_wordAt_29 : decode cX5_wordAt 29 = .ok (.iload_n 2, 1) := by decide +kernel
theorem dX5_wordAt_30 : decode cX5_wordAt 30 = .ok (.ireturn, 1) := by decide +kernel
theorem dX6_init_0 : decode cX6_init 0 = .ok (.aload_n 0, 1) := by decide +kernel
theorem dX6_init_1 : decode cX6_init 1 = .ok (.invokespecial 3, 3) := by decide +kernel
theorem dX6_init_4 : decode cX6_init 4 = .ok (.aload_n 0, 1) := by decide +kernel
theorem dX6_init_5 : decode cX6_init 5 = .ok (.bipush 16, 2) := by decide +kernel
theorem dX6_init_7 : decode cX6_init 7 = .ok (.newarray .double, 2) := by decide +kernel
theorem dX6_init_9 : decode cX6_init 9 = .ok (.putfield 9, 3) := by decide +kernel
theorem dX6_init_12 : decode cX6_init 12 = .ok (.aload_n 0, 1) := by decide +kernel
theorem dX6_init_13 : decode cX6_init 13 = .ok (.bipush 16, 2) := by decide +kernel
theorem dX6_init_15 : decode cX6_init 15 = .ok (.newarray .float, 2) := by decide +kernel
theorem dX6_init_17 : decode cX6_init 17 = .ok (.putfield 15, 3) := by decide +kernel
theorem dX6_init_20 : decode cX6_init 20 = .ok (.return_, 1) := by decide +kernel
theorem dX6_quotientOf_0 : decode cX6_quotientOf 0 = .ok (.fload_n 0, 1) := by decide +kernel
theorem dX6_quotientOf_1 : decode cX6_quotientOf 1 = .ok (.f2d, 1) := by decide +kernel
theorem dX6_quotientOf_2 : decode cX6_quotientOf 2 = .ok (.dstore_n 1, 1) := by decide +kernel
theorem dX6_quotientOf_3 : decode cX6_quotientOf 3 = .ok (.dload_n 1, 1) := by decide +kernel
theorem dX6_quotientOf_4 : decode cX6_quotientOf 4 = .ok (.ldc2_w 19, 3) := by decide +kernel
theorem dX6_quotientOf_7 : decode cX6_quotientOf 7 = .ok (.dcmp .l, 1) := by decide +kernel
theorem dX6_quotientOf_8 : decode cX6_quotientOf 8 = .ok (.ifCond .le 7, 3) := by decide +kernel
theorem dX6_quotientOf_11 : decode cX6_quotientOf 11 = .ok (.dload_n 1, 1) := by decide +kernel
theorem dX6_quotientOf_12 : decode cX6_quotientOf 12 = .ok (.goto 6, 3) := by decide +kernel
theorem dX6_quotientOf_15 : decode cX6_quotientOf 15 = .ok (.ldc2_w 19, 3) := by decide +kernel
theorem dX6_quotientOf_18 : decode cX6_quotientOf 18 = .ok (.dstore_n 3, 1) := by decide +kernel
theorem dX6_quotientOf_19 : decode cX6_quotientOf 19 = .ok (.dconst 1, 1) := by decide +kernel
theorem dX6_quotientOf_20 : decode cX6_quotientOf 20 = .ok (.dload_n 3, 1) := by decide +kernel
theorem dX6_quotientOf_21 : decode cX6_quotientOf 21 = .ok (.dsub, 1) := by decide +kernel
theorem dX6_quotientOf_22 : decode cX6_quotientOf 22 = .ok (.dconst 1, 1) := by decide +kernel
theorem dX6_quotientOf_23 : decode cX6_quotientOf 23 = .ok (.dload_n 3, 1) := by decide +kernel
theorem dX6_quotientOf_24 : decode cX6_quotientOf 24 = .ok (.dsub, 1) := by decide +kernel
theorem dX6_quotientOf_25 : decode cX6_quotientOf 25 = .ok (.dmul, 1) := by decide +kernel
theorem dX6_quotientOf_26 : decode cX6_quotientOf 26 = .ok (.ldc2_w 21, 3) := by decide +kernel
theorem dX6_quotientOf_29 : decode cX6_quotientOf 29 = .ok (.dload_n 3, 1) := by decide +kernel
theorem dX6_quotientOf_30 : decode cX6_quotientOf 30 = .ok (.dmul, 1) := by decide +kernel
theorem dX6_quotientOf_31 : decode cX6_quotientOf 31 = .ok (.ddiv, 1) := by decide +kernel
theorem dX6_quotientOf_32 : decode cX6_quotientOf 32 = .ok (.dreturn, 1) := by decide +kernel
set_option maxRecDepth 20000 in
theorem ggX6_begin_X6_quotientOf : GoodIn wsX6_begin wsX6_quotientOf := goodIn_r _ [5, 6, 7] (by decide +kernel) (by decide +kernel)
set_option maxRecDepth 20000 in
theorem gX6_begin_X6_quotientOf : GoodIn wsX6_begin (va_wsS RX6 23 yX6_quotientOf wsX6_quotientOf) := goodIn_app (goodIn_of _ (by decide +kernel)) ggX6_begin_X6_quotientOf
theorem dX6_begin_0 : decode cX6_begin 0 = .ok (.iconst 0, 1) := by decide +kernel
theorem dX6_begin_1 : decode cX6_begin 1 = .ok (.istore_n 2, 1) := by decide +kernel
theorem dX6_begin_2 : decode cX6_begin 2 = .ok (.iload_n 2, 1) := by decide +kernel
theorem dX6_begin_3 : decode cX6_begin 3 = .ok (.bipush 16, 2) := by decide +kernel
theorem dX6_begin_5 : decode cX6_begin 5 = .ok (.if_icmp .ge 21, 3) := by decide +kernel
theorem dX6_begin_8 : decode cX6_begin 8 = .ok (.aload_n 0, 1) := by decide +kernel
theorem dX6_begin_9 : decode cX6_begin 9 = .ok (.getfield 9, 3) := by decide +kernel
theorem dX6_begin_12 : decode cX6_begin 12 = .ok (.iload_n 2, 1) := by decide +kernel
theorem dX6_begin_13 : decode cX6_begin 13 = .ok (.aload_n 1, 1) := by decide +kernel
theorem dX6_begin_14 : decode cX6_begin 14 = .ok (.iload_n 2, 1) := by decide +kernel
theorem dX6_begin_15 : decode cX6_begin 15 = .ok (.faload, 1) := by decide +kernel
theorem dX6_begin_16 : decode cX6_begin 16 = .ok (.invokestatic 23, 3) := by decide +kernel
theorem dX6_begin_19 : decode cX6_begin 19 = .ok (.dastore, 1) := by decide +kernel
theorem dX6_begin_20 : decode cX6_begin 20 = .ok (.iinc 2 1, 3) := by decide +kernel
theorem dX6_begin_23 : decode cX6_begin 23 = .ok (.goto (-21), 3) := by decide +kernel
theorem dX6_begin_26 : decode cX6_begin 26 = .ok (.return_, 1) := by decide +kernel
set_option maxRecDepth 20000 in
theorem ggX6_add_X3_firstFrom : GoodIn wsX6_add wsX3_firstFrom := goodIn_r _ [8, 9, 10, 21, 22, 23, 24, 25] (by decide +kernel) (by decide +kernel)
set_option maxRecDepth 20000 in
theorem gX6_add_X3_firstFrom : GoodIn wsX6_add (wsV RX6 33 RX3 yX3_firstFrom wsX3_firstFrom) := goodIn_app (goodIn_of _ (by decide +kernel)) ggX6_add_X3_firstFrom
set_option maxRecDepth 20000 in
theorem ggX6_add_X6_addInRatio : GoodIn wsX6_add wsX6_addInRatio := goodIn_r _ [15, 16, 26, 27] (by decide +kernel) (by decide +kernel)
set_option maxRecDepth 20000 in
theorem gX6_add_X6_addInRatio : GoodIn wsX6_add (wsV RX6 45 RX6 yX6_addInRatio wsX6_addInRatio) := goodIn_app (goodIn_of _ (by decide +kernel)) ggX6_add_X6_addInRatio
set_option maxRecDepth 20000 in
theorem ggX6_add_X6_addBetween : GoodIn wsX6_add wsX6_addBetween := goodIn_r _ [20, 16, 26, 27] (by decide +kernel) (by decide +kernel)
set_option maxRecDepth 20000 in
theorem gX6_add_X6_addBetween : GoodIn wsX6_add (wsV RX6 49 RX6 yX6_addBetween wsX6_addBetween) := goodIn_app (goodIn_of _ (by decide +kernel)) ggX6_add_X6_addBetween
theorem dX6_add_0 : decode cX6_add 0 = .ok (.aload_n 1, 1) := by decide +kernel
theorem dX6_add_1 : decode cX6_add 1 = .ok (.getfield 27, 3) := by decide +kernel
theorem dX6_add_4 : decode cX6_add 4 = .ok (.ifCond .eq 9, 3) := by decide +kernel
theorem dX6_add_7 : decode cX6_add 7 = .ok (.dload_n 2, 1) := by decide +kernel
theorem dX6_add_8 : decode cX6_add 8 = .ok (.dconst 0, 1) := by decide +kernel
theorem dX6_add_9 : decode cX6_add 9 = .ok (.dcmp .g, 1) := by decide +kernel
theorem dX6_add_10 : decode cX6_add 10 = .ok (.ifCond .gt 4, 3) := by decide +kernel
theorem dX6_add_13 : decode cX6_add 13 = .ok (.return_, 1) := by decide +kernel
theorem dX6_add_14 : decode cX6_add 14 = .ok (.aload_n 1, 1) := by decide +kernel
theorem dX6_add_15 : decode cX6_add 15 = .ok (.dload_n 2, 1) := by decide +kernel
theorem dX6_add_16 : decode cX6_add 16 = .ok (.invokevirtual 33, 3) := by decide +kernel
theorem dX6_add_19 : decode cX6_add 19 = .ok (.istore 4, 2) := by decide +kernel
theorem dX6_add_21 : decode cX6_add 21 = .ok (.iload 4, 2) := by decide +kernel
theorem dX6_add_23 : decode cX6_add 23 = .ok (.ifCond .ne 25, 3) := by decide +kernel
theorem dX6_add_26 : decode cX6_add 26 = .ok (.aload_n 0, 1) := by decide +kernel
theorem dX6_add_27 : decode cX6_add 27 = .ok (.aload_n 1, 1) := by decide +kernel
theorem dX6_add_28 : decode cX6_add 28 = .ok (.getfield 37, 3) := by decide +kernel
theorem dX6_add_31 : decode cX6_add 31 = .ok (.iconst 0, 1) := by decide +kernel
theorem dX6_add_32 : decode cX6_add 32 = .ok (.aaload, 1) := by decide +kernel
theorem dX6_add_33 : decode cX6_add 33 = .ok (.dload_n 2, 1) := by decide +kernel
theorem dX6_add_34 : decode cX6_add 34 = .ok (.aload_n 1, 1) := by decide +kernel
theorem dX6_add_35 : decode cX6_add 35 = .ok (.getfield 41, 3) := by decide +kernel
theorem dX6_add_38 : decode cX6_add 38 = .ok (.iconst 0, 1) := by decide +kernel
theorem dX6_add_39 : decode cX6_add 39 = .ok (.iaload, 1) := by decide +kernel
theorem dX6_add_40 : decode cX6_add 40 = .ok (.i2d, 1) := by decide +kernel
theorem dX6_add_41 : decode cX6_add 41 = .ok (.ddiv, 1) := by decide +kernel
theorem dX6_add_42 : decode cX6_add 42 = .ok (.invokevirtual 45, 3) := by decide +kernel
theorem dX6_add_45 : decode cX6_add 45 = .ok (.goto 92, 3) := by decide +kernel
theorem dX6_add_48 : decode cX6_add 48 = .ok (.iload 4, 2) := by decide +kernel
theorem dX6_add_50 : decode cX6_add 50 = .ok (.aload_n 1, 1) := by decide +kernel
theorem dX6_add_51 : decode cX6_add 51 = .ok (.getfield 27, 3) := by decide +kernel
theorem dX6_add_54 : decode cX6_add 54 = .ok (.if_icmp .ne 31, 3) := by decide +kernel
theorem dX6_add_57 : decode cX6_add 57 = .ok (.aload_n 0, 1) := by decide +kernel
theorem dX6_add_58 : decode cX6_add 58 = .ok (.aload_n 1, 1) := by decide +kernel
theorem dX6_add_59 : decode cX6_add 59 = .ok (.getfield 37, 3) := by decide +kernel
theorem dX6_add_62 : decode cX6_add 62 = .ok (.iload 4, 2) := by decide +kernel
theorem dX6_add_64 : decode cX6_add 64 = .ok (.iconst 1, 1) := by decide +kernel
theorem dX6_add_65 : decode cX6_add 65 = .ok (.isub, 1) := by decide +kernel
theorem dX6_add_66 : decode cX6_add 66 = .ok (.aaload, 1) := by decide +kernel
theorem dX6_add_67 : decode cX6_add 67 = .ok (.dload_n 2, 1) := by decide +kernel
theorem dX6_add_68 : decode cX6_add 68 = .ok (.aload_n 1, 1) := by decide +kernel
theorem dX6_add_69 : decode cX6_add 69 = .ok (.getfield 41, 3) := by decide +kernel
theorem dX6_add_72 : decode cX6_add 72 = .ok (.iload 4, 2) := by decide +kernel
theorem dX6_add_74 : decode cX6_add 74 = .ok (.iconst 1, 1) := by decide +kernel
theorem dX6_add_75 : decode cX6_add 75 = .ok (.isub, 1) := by decide +kernel
theorem dX6_add_76 : decode cX6_add 76 = .ok (.iaload, 1) := by decide +kernel
theorem dX6_add_77 : decode cX6_add 77 = .ok (.i2d, 1) := by decide +kernel
theorem dX6_add_78 : decode cX6_add 78 = .ok (.ddiv, 1) := by decide +kernel
theorem dX6_add_79 : decode cX6_add 79 = .ok (.invokevirtual 45, 3) := by decide +kernel
theorem dX6_add_82 : decode cX6_add 82 = .ok (.goto 55, 3) := by decide +kernel
theorem dX6_add_85 : decode cX6_add 85 = .ok (.aload_n 1, 1) := by decide +kernel
theorem dX6_add_86 : decode cX6_add 86 = .ok (.getfield 41, 3) := by decide +kernel
theorem dX6_add_89 : decode cX6_add 89 = .ok (.iload 4, 2) := by decide +kernel
theorem dX6_add_91 : decode cX6_add 91 = .ok (.iconst 1, 1) := by decide +kernel
theorem dX6_add_92 : decode cX6_add 92 = .ok (.isub, 1) := by decide +kernel
theorem dX6_add_93 : decode cX6_add 93 = .ok (.iaload, 1) := by decide +kernel
theorem dX6_add_94 : decode cX6_add 94 = .ok (.i2d, 1) := by decide +kernel
theorem dX6_add_95 : decode cX6_add 95 = .ok (.dstore 5, 2) := by decide +kernel
theorem dX6_add_97 : decode cX6_add 97 = .ok (.aload_n 1, 1) := by decide +kernel
theorem dX6_add_98 : decode cX6_add 98 = .ok (.getfield 41, 3) := by decide +kernel
theorem dX6_add_101 : decode cX6_add 101 = .ok (.iload 4, 2) := by decide +kernel
theorem dX6_add_103 : decode cX6_add 103 = .ok (.iaload, 1) := by decide +kernel
theorem dX6_add_104 : decode cX6_add 104 = .ok (.i2d, 1) := by decide +kernel
theorem dX6_add_105 : decode cX6_add 105 = .ok (.dstore 7, 2) := by decide +kernel
theorem dX6_add_107 : decode cX6_add 107 = .ok (.aload_n 0, 1) := by decide +kernel
theorem dX6_add_108 : decode cX6_add 108 = .ok (.aload_n 1, 1) := by decide +kernel
theorem dX6_add_109 : decode cX6_add 109 = .ok (.getfield 37, 3) := by decide +kernel
theorem dX6_add_112 : decode cX6_add 112 = .ok (.iload 4, 2) := by decide +kernel
theorem dX6_add_114 : decode cX6_add 114 = .ok (.iconst 1, 1) := by decide +kernel
theorem dX6_add_115 : decode cX6_add 115 = .ok (.isub, 1) := by decide +kernel
theorem dX6_add_116 : decode cX6_add 116 = .ok (.aaload, 1) := by decide +kernel
theorem dX6_add_117 : decode cX6_add 117 = .ok (.aload_n 1, 1) := by decide +kernel
theorem dX6_add_118 : decode cX6_add 118 = .ok (.getfield 37, 3) := by decide +kernel
theorem dX6_add_121 : decode cX6_add 121 = .ok (.iload 4, 2) := by decide +kernel
theorem dX6_add_123 : decode cX6_add 123 = .ok (.aaload, 1) := by decide +kernel
theorem dX6_add_124 : decode cX6_add 124 = .ok (.dload_n 2, 1) := by decide +kernel
theorem dX6_add_125 : decode cX6_add 125 = .ok (.dload 5, 2) := by decide +kernel
theorem dX6_add_127 : decode cX6_add 127 = .ok (.dsub, 1) := by decide +kernel
theorem dX6_add_128 : decode cX6_add 128 = .ok (.dload 7, 2) := by decide +kernel
theorem dX6_add_130 : decode cX6_add 130 = .ok (.dload 5, 2) := by decide +kernel
theorem dX6_add_132 : decode cX6_add 132 = .ok (.dsub, 1) := by decide +kernel
theorem dX6_add_133 : decode cX6_add 133 = .ok (.ddiv, 1) := by decide +kernel
theorem dX6_add_134 : decode cX6_add 134 = .ok (.invokevirtual 49, 3) := by decide +kernel
theorem dX6_add_137 : decode cX6_add 137 = .ok (.return_, 1) := by decide +kernel
theorem dX6_addInRatio_0 : decode cX6_addInRatio 0 = .ok (.iconst 0, 1) := by decide +kernel
theorem dX6_addInRatio_1 : decode cX6_addInRatio 1 = .ok (.istore 4, 2) := by decide +kernel
theorem dX6_addInRatio_3 : decode cX6_addInRatio 3 = .ok (.iload 4, 2) := by decide +kernel
theorem dX6_addInRatio_5 : decode cX6_addInRatio 5 = .ok (.bipush 16, 2) := by decide +kernel
theorem dX6_addInRatio_7 : decode cX6_addInRatio 7 = .ok (.if_icmp .ge 30, 3) := by decide +kernel
theorem dX6_addInRatio_10 : decode cX6_addInRatio 10 = .ok (.aload_n 0, 1) := by decide +kernel
theorem dX6_addInRatio_11 : decode cX6_addInRatio 11 = .ok (.getfield 9, 3) := by decide +kernel
theorem dX6_addInRatio_14 : decode cX6_addInRatio 14 = .ok (.iload 4, 2) := by decide +kernel
theorem dX6_addInRatio_16 : decode cX6_addInRatio 16 = .ok (.aload_n 0, 1) := by decide +kernel
theorem dX6_addInRatio_17 : decode cX6_addInRatio 17 = .ok (.getfield 9, 3) := by decide +kernel
theorem dX6_addInRatio_20 : decode cX6_addInRatio 20 = .ok (.iload 4, 2) := by decide +kernel
theorem dX6_addInRatio_22 : decode cX6_addInRatio 22 = .ok (.daload, 1) := by decide +kernel
theorem dX6_addInRatio_23 : decode cX6_addInRatio 23 = .ok (.aload_n 1, 1) := by decide +kernel
theorem dX6_addInRatio_24 : decode cX6_addInRatio 24 = .ok (.iload 4, 2) := by decide +kernel
theorem dX6_addInRatio_26 : decode cX6_addInRatio 26 = .ok (.daload, 1) := by decide +kernel
theorem dX6_addInRatio_27 : decode cX6_addInRatio 27 = .ok (.dload_n 2, 1) := by decide +kernel
theorem dX6_addInRatio_28 : decode cX6_addInRatio 28 = .ok (.dmul, 1) := by decide +kernel
theorem dX6_addInRatio_29 : decode cX6_addInRatio 29 = .ok (.dadd, 1) := by decide +kernel
theorem dX6_addInRatio_30 : decode cX6_addInRatio 30 = .ok (.dastore, 1) := by decide +kernel
theorem dX6_addInRatio_31 : decode cX6_addInRatio 31 = .ok (.iinc 4 1, 3) := by decide +kernel
theorem dX6_addInRatio_34 : decode cX6_addInRatio 34 = .ok (.goto (-31), 3) := by decide +kernel
theorem dX6_addInRatio_37 : decode cX6_addInRatio 37 = .ok (.return_, 1) := by decide +kernel
theorem dX6_addBetween_0 : decode cX6_addBetween 0 = .ok (.iconst 0, 1) := by decide +kernel
theorem dX6_addBetween_1 : decode cX6_addBetween 1 = .ok (.istore 5, 2) := by decide +kernel
theorem dX6_addBetween_3 : decode cX6_addBetween 3 = .ok (.iload 5, 2) := by decide +kernel
theorem dX6_addBetween_5 : decode cX6_addBetween 5 = .ok (.bipush 16, 2) := by decide +kernel
theorem dX6_addBetween_7 : decode cX6_addBetween 7 = .ok (.if_icmp .ge 40, 3) := by decide +kernel
theorem dX6_addBetween_10 : decode cX6_addBetween 10 = .ok (.aload_n 0, 1) := by decide +kernel
theorem dX6_addBetween_11 : decode cX6_addBetween 11 = .ok (.getfield 9, 3) := by decide +kernel
theorem dX6_addBetween_14 : decode cX6_addBetween 14 = .ok (.iload 5, 2) := by decide +kernel
theorem dX6_addBetween_16 : decode cX6_addBetween 16 = .ok (.aload_n 0, 1) := by decide +kernel
theorem dX6_addBetween_17 : decode cX6_addBetween 17 = .ok (.getfield 9, 3) := by decide +kernel
theorem dX6_addBetween_20 : decode cX6_addBetween 20 = .ok (.iload 5, 2) := by decide +kernel
theorem dX6_addBetween_22 : decode cX6_addBetween 22 = .ok (.daload, 1) := by decide +kernel
theorem dX6_addBetween_23 : decode cX6_addBetween 23 = .ok (.aload_n 1, 1) := by decide +kernel
theorem dX6_addBetween_24 : decode cX6_addBetween 24 = .ok (.iload 5, 2) := by decide +kernel
theorem dX6_addBetween_26 : decode cX6_addBetween 26 = .ok (.daload, 1) := by decide +kernel
theorem dX6_addBetween_27 : decode cX6_addBetween 27 = .ok (.aload_n 2, 1) := by decide +kernel
theorem dX6_addBetween_28 : decode cX6_addBetween 28 = .ok (.iload 5, 2) := by decide +kernel
theorem dX6_addBetween_30 : decode cX6_addBetween 30 = .ok (.daload, 1) := by decide +kernel
theorem dX6_addBetween_31 : decode cX6_addBetween 31 = .ok (.aload_n 1, 1) := by decide +kernel
theorem dX6_addBetween_32 : decode cX6_addBetween 32 = .ok (.iload 5, 2) := by decide +kernel
theorem dX6_addBetween_34 : decode cX6_addBetween 34 = .ok (.daload, 1) := by decide +kernel
theorem dX6_addBetween_35 : decode cX6_addBetween 35 = .ok (.dsub, 1) := by decide +kernel
theorem dX6_addBetween_36 : decode cX6_addBetween 36 = .ok (.dload_n 3, 1) := by decide +kernel
theorem dX6_addBetween_37 : decode cX6_addBetween 37 = .ok (.dmul, 1) := by decide +kernel
theorem dX6_addBetween_38 : decode cX6_addBetween 38 = .ok (.dadd, 1) := by decide +kernel
theorem dX6_addBetween_39 : decode cX6_addBetween 39 = .ok (.dadd, 1) := by decide +kernel
theorem dX6_addBetween_40 : decode cX6_addBetween 40 = .ok (.dastore, 1) := by decide +kernel
theorem dX6_addBetween_41 : decode cX6_addBetween 41 = .ok (.iinc 5 1, 3) := by decide +kernel
theorem dX6_addBetween_44 : decode cX6_addBetween 44 = .ok (.goto (-41), 3) := by decide +kernel
theorem dX6_addBetween_47 : decode cX6_addBetween 47 = .ok (.return_, 1) := by decide +kernel
set_option maxRecDepth 20000 in
theorem ggX6_result_X7_rootOf : GoodIn wsX6_result wsX7_rootOf := goodIn_r _ [7, 8, 9, 10, 11, 12, 13, 14, 15, 16, 6, 17] (by decide +kernel) (by decide +kernel)
set_option maxRecDepth 20000 in
theorem gX6_result_X7_rootOf : GoodIn wsX6_result (va_wsS RX6 53 yX7_rootOf wsX7_rootOf) := goodIn_app (goodIn_of _ (by decide +kernel)) ggX6_result_X7_rootOf
theorem dX6_result_0 : decode cX6_result 0 = .ok (.iconst 0, 1) := by decide +kernel
theorem dX6_result_1 : decode cX6_result 1 = .ok (.istore_n 1, 1) := by decide +kernel
theorem dX6_result_2 : decode cX6_result 2 = .ok (.iload_n 1, 1) := by decide +kernel
theorem dX6_result_3 : decode cX6_result 3 = .ok (.bipush 16, 2) := by decide +kernel
theorem dX6_result_5 : decode cX6_result 5 = .ok (.if_icmp .ge 54, 3) := by decide +kernel
theorem dX6_result_8 : decode cX6_result 8 = .ok (.aload_n 0, 1) := by decide +kernel
theorem dX6_result_9 : decode cX6_result 9 = .ok (.getfield 9, 3) := by decide +kernel
theorem dX6_result_12 : decode cX6_result 12 = .ok (.iload_n 1, 1) := by decide +kernel
theorem dX6_result_13 : decode cX6_result 13 = .ok (.daload, 1) := by decide +kernel
theorem dX6_result_14 : decode cX6_result 14 = .ok (.dstore_n 2, 1) := by decide +kernel
theorem dX6_result_15 : decode cX6_result 15 = .ok (.dconst 1, 1) := by decide +kernel
theorem dX6_result_16 : decode cX6_result 16 = .ok (.dload_n 2, 1) := by decide +kernel
theorem dX6_result_17 : decode cX6_result 17 = .ok (.dadd, 1) := by decide +kernel
theorem dX6_result_18 : decode cX6_result 18 = .ok (.dload_n 2, 1) := by decide +kernel
theorem dX6_result_19 : decode cX6_result 19 = .ok (.dload_n 2, 1) := by decide +kernel
theorem dX6_result_20 : decode cX6_result 20 = .ok (.dmul, 1) := by decide +kernel
theorem dX6_result_21 : decode cX6_result 21 = .ok (.ldc2_w 21, 3) := by decide +kernel
theorem dX6_result_24 : decode cX6_result 24 = .ok (.dload_n 2, 1) := by decide +kernel
theorem dX6_result_25 : decode cX6_result 25 = .ok (.dmul, 1) := by decide +kernel
theorem dX6_result_26 : decode cX6_result 26 = .ok (.dadd, 1) := by decide +kernel
theorem dX6_result_27 : decode cX6_result 27 = .ok (.invokestatic 53, 3) := by decide +kernel
theorem dX6_result_30 : decode cX6_result 30 = .ok (.dsub, 1) := by decide +kernel
theorem dX6_result_31 : decode cX6_result 31 = .ok (.dstore 4, 2) := by decide +kernel
theorem dX6_result_33 : decode cX6_result 33 = .ok (.aload_n 0, 1) := by decide +kernel
theorem dX6_result_34 : decode cX6_result 34 = .ok (.getfield 15, 3) := by decide +kernel
theorem dX6_result_37 : decode cX6_result 37 = .ok (.iload_n 1, 1) := by decide +kernel
theorem dX6_result_38 : decode cX6_result 38 = .ok (.dload 4, 2) := by decide +kernel
theorem dX6_result_40 : decode cX6_result 40 = .ok (.dconst 0, 1) := by decide +kernel
theorem dX6_result_41 : decode cX6_result 41 = .ok (.dcmp .g, 1) := by decide +kernel
theorem dX6_result_42 : decode cX6_result 42 = .ok (.ifCond .ge 7, 3) := by decide +kernel
theorem dX6_result_45 : decode cX6_result 45 = .ok (.dconst 0, 1) := by decide +kernel
theorem dX6_result_46 : decode cX6_result 46 = .ok (.goto 5, 3) := by decide +kernel
theorem dX6_result_49 : decode cX6_result 49 = .ok (.dload 4, 2) := by decide +kernel
theorem dX6_result_51 : decode cX6_result 51 = .ok (.d2f, 1) := by decide +kernel
theorem dX6_result_52 : decode cX6_result 52 = .ok (.fastore, 1) := by decide +kernel
theorem dX6_result_53 : decode cX6_result 53 = .ok (.iinc 1 1, 3) := by decide +kernel
theorem dX6_result_56 : decode cX6_result 56 = .ok (.goto (-54), 3) := by decide +kernel
theorem dX6_result_59 : decode cX6_result 59 = .ok (.aload_n 0, 1) := by decide +kernel
theorem dX6_result_60 : decode cX6_result 60 = .ok (.getfield 15, 3) := by decide +kernel
theorem dX6_result_63 : decode cX6_result 63 = .ok (.areturn, 1) := by decide +kernel
theorem dX7_isTaken_0 : decode cX7_isTaken 0 = .ok (.iload_n 0, 1) := by decide +kernel
theorem dX7_isTaken_1 : decode cX7_isTaken 1 = .ok (.ifCond .lt 13, 3) := by decide +kernel
theorem dX7_isTaken_4 : decode cX7_isTaken 4 = .ok (.iload_n 0, 1) := by decide +kernel
theorem dX7_isTaken_5 : decode cX7_isTaken 5 = .ok (.ldc 9, 2) := by decide +kernel
theorem dX7_isTaken_7 : decode cX7_isTaken 7 = .ok (.if_icmp .gt 7, 3) := by decide +kernel
theorem dX7_isTaken_10 : decode cX7_isTaken 10 = .ok (.iconst 1, 1) := by decide +kernel
theorem dX7_isTaken_11 : decode cX7_isTaken 11 = .ok (.goto 4, 3) := by decide +kernel
theorem dX7_isTaken_14 : decode cX7_isTaken 14 = .ok (.iconst 0, 1) := by decide +kernel
theorem dX7_isTaken_15 : decode cX7_isTaken 15 = .ok (.ireturn, 1) := by decide +kernel
theorem dX7_floatOf_0 : decode cX7_floatOf 0 = .ok (.iload_n 0, 1) := by decide +kernel
theorem dX7_floatOf_1 : decode cX7_floatOf 1 = .ok (.bipush 23, 2) := by decide +kernel
theorem dX7_floatOf_3 : decode cX7_floatOf 3 = .ok (.iushr, 1) := by decide +kernel
theorem dX7_floatOf_4 : decode cX7_floatOf 4 = .ok (.istore_n 1, 1) := by decide +kernel
theorem dX7_floatOf_5 : decode cX7_floatOf 5 = .ok (.iload_n 0, 1) := by decide +kernel
theorem dX7_floatOf_6 : decode cX7_floatOf 6 = .ok (.ldc 10, 2) := by decide +kernel
theorem dX7_floatOf_8 : decode cX7_floatOf 8 = .ok (.iand, 1) := by decide +kernel
theorem dX7_floatOf_9 : decode cX7_floatOf 9 = .ok (.istore_n 2, 1) := by decide +kernel
theorem dX7_floatOf_10 : decode cX7_floatOf 10 = .ok (.iload_n 1, 1) := by decide +kernel
theorem dX7_floatOf_11 : decode cX7_floatOf 11 = .ok (.ifCond .ne 8, 3) := by decide +kernel
theorem dX7_floatOf_14 : decode cX7_floatOf 14 = .ok (.iload_n 2, 1) := by decide +kernel
theorem dX7_floatOf_15 : decode cX7_floatOf 15 = .ok (.i2d, 1) := by decide +kernel
theorem dX7_floatOf_16 : decode cX7_floatOf 16 = .ok (.goto 8, 3) := by decide +kernel
theorem dX7_floatOf_19 : decode cX7_floatOf 19 = .ok (.iload_n 2, 1) := by decide +kernel
theorem dX7_floatOf_20 : decode cX7_floatOf 20 = .ok (.ldc 11, 2) := by decide +kernel
theorem dX7_floatOf_22 : decode cX7_floatOf 22 = .ok (.iadd, 1) := by decide +kernel
theorem dX7_floatOf_23 : decode cX7_floatOf 23 = .ok (.i2d, 1) := by decide +kernel
theorem dX7_floatOf_24 : decode cX7_floatOf 24 = .ok (.dstore_n 3, 1) := by decide +kernel
theorem dX7_floatOf_25 : decode cX7_floatOf 25 = .ok (.sipush 150, 3) := by decide +kernel
theorem dX7_floatOf_28 : decode cX7_floatOf 28 = .ok (.iload_n 1, 1) := by decide +kernel
theorem dX7_floatOf_29 : decode cX7_floatOf 29 = .ok (.iconst 1, 1) := by decide +kernel
theorem dX7_floatOf_30 : decode cX7_floatOf 30 = .ok (.invokestatic 12, 3) := by decide +kernel
theorem dX7_floatOf_33 : decode cX7_floatOf 33 = .ok (.isub, 1) := by decide +kernel
theorem dX7_floatOf_34 : decode cX7_floatOf 34 = .ok (.istore 5, 2) := by decide +kernel
theorem dX7_floatOf_36 : decode cX7_floatOf 36 = .ok (.iconst 0, 1) := by decide +kernel
theorem dX7_floatOf_37 : decode cX7_floatOf 37 = .ok (.istore 6, 2) := by decide +kernel
theorem dX7_floatOf_39 : decode cX7_floatOf 39 = .ok (.iload 6, 2) := by decide +kernel
theorem dX7_floatOf_41 : decode cX7_floatOf 41 = .ok (.iload 5, 2) := by decide +kernel
theorem dX7_floatOf_43 : decode cX7_floatOf 43 = .ok (.if_icmp .ge 15, 3) := by decide +kernel
theorem dX7_floatOf_46 : decode cX7_floatOf 46 = .ok (.dload_n 3, 1) := by decide +kernel
theorem dX7_floatOf_47 : decode cX7_floatOf 47 = .ok (.ldc2_w 18, 3) := by decide +kernel
theorem dX7_floatOf_50 : decode cX7_floatOf 50 = .ok (.dmul, 1) := by decide +kernel
theorem dX7_floatOf_51 : decode cX7_floatOf 51 = .ok (.dstore_n 3, 1) := by decide +kernel
theorem dX7_floatOf_52 : decode cX7_floatOf 52 = .ok (.iinc 6 1, 3) := by decide +kernel
theorem dX7_floatOf_55 : decode cX7_floatOf 55 = .ok (.goto (-16), 3) := by decide +kernel
theorem dX7_floatOf_58 : decode cX7_floatOf 58 = .ok (.dload_n 3, 1) := by decide +kernel
theorem dX7_floatOf_59 : decode cX7_floatOf 59 = .ok (.d2f, 1) := by decide +kernel
theorem dX7_floatOf_60 : decode cX7_floatOf 60 = .ok (.freturn, 1) := by decide +kernel
theorem dX7_floatBits_0 : decode cX7_floatBits 0 = .ok (.dload_n 0, 1) := by decide +kernel
theorem dX7_floatBits_1 : decode cX7_floatBits 1 = .ok (.dconst 0, 1) := by decide +kernel
theorem dX7_floatBits_2 : decode cX7_floatBits 2 = .ok (.dcmp .g, 1) := by decide +kernel
theorem dX7_floatBits_3 : decode cX7_floatBits 3 = .ok (.ifCond .ge 8, 3) := by decide +kernel
theorem dX7_floatBits_6 : decode cX7_floatBits 6 = .ok (.ldc 20, 2) := by decide +kernel
theorem dX7_floatBits_8 : decode cX7_floatBits 8 = .ok (.goto 4, 3) := by decide +kernel
theorem dX7_floatBits_11 : decode cX7_floatBits 11 = .ok (.iconst 0, 1) := by decide +kernel
theorem dX7_floatBits_12 : decode cX7_floatBits 12 = .ok (.istore_n 2, 1) := by decide +kernel
theorem dX7_floatBits_13 : decode cX7_floatBits 13 = .ok (.dload_n 0, 1) := by decide +kernel
theorem dX7_floatBits_14 : decode cX7_floatBits 14 = .ok (.dconst 0, 1) := by decide +kernel
theorem dX7_floatBits_15 : decode cX7_floatBits 15 = .ok (.dcmp .g, 1) := by decide +kernel
theorem dX7_floatBits_16 : decode cX7_floatBits 16 = .ok (.ifCond .ge 8, 3) := by decide +kernel
theorem dX7_floatBits_19 : decode cX7_floatBits 19 = .ok (.dload_n 0, 1) := by decide +kernel
theorem dX7_floatBits_20 : decode cX7_floatBits 20 = .ok (.dneg, 1) := by decide +kernel
theorem dX7_floatBits_21 : decode cX7_floatBits 21 = .ok (.goto 4, 3) := by decide +kernel
theorem dX7_floatBits_24 : decode cX7_floatBits 24 = .ok (.dload_n 0, 1) := by decide +kernel
theorem dX7_floatBits_25 : decode cX7_floatBits 25 = .ok (.d2f, 1) := by decide +kernel
theorem dX7_floatBits_26 : decode cX7_floatBits 26 = .ok (.fstore_n 3, 1) := by decide +kernel
theorem dX7_floatBits_27 : decode cX7_floatBits 27 = .ok (.fload_n 3, 1) := by decide +kernel
theorem dX7_floatBits_28 : decode cX7_floatBits 28 = .ok (.fconst 0, 1) := by decide +kernel
theorem dX7_floatBits_29 : decode cX7_floatBits 29 = .ok (.fcmp .l, 1) := by decide +kernel
theorem dX7_floatBits_30 : decode cX7_floatBits 30 = .ok (.ifCond .ne 5, 3) := by decide +kernel
theorem dX7_floatBits_33 : decode cX7_floatBits 33 = .ok (.iload_n 2, 1) := by decide +kernel
theorem dX7_floatBits_34 : decode cX7_floatBits 34 = .ok (.ireturn, 1) := by decide +kernel
theorem dX7_floatBits_35 : decode cX7_floatBits 35 = .ok (.fload_n 3, 1) := by decide +kernel
theorem dX7_floatBits_36 : decode cX7_floatBits 36 = .ok (.f2d, 1) := by decide +kernel
theorem dX7_floatBits_37 : decode cX7_floatBits 37 = .ok (.ldc2_w 21, 3) := by decide +kernel
theorem dX7_floatBits_40 : decode cX7_floatBits 40 = .ok (.dmul, 1) := by decide +kernel
theorem dX7_floatBits_41 : decode cX7_floatBits 41 = .ok (.dstore 4, 2) := by decide +kernel
theorem dX7_floatBits_43 : decode cX7_floatBits 43 = .ok (.bipush 127, 2) := by decide +kernel
theorem dX7_floatBits_45 : decode cX7_floatBits 45 = .ok (.istore 6, 2) := by decide +kernel
theorem dX7_floatBits_47 : decode cX7_floatBits 47 = .ok (.iconst 0, 1) := by decide +kernel
theorem dX7_floatBits_48 : decode cX7_floatBits 48 = .ok (.istore 7, 2) := by decide +kernel
theorem dX7_floatBits_50 : decode cX7_floatBits 50 = .ok (.iload 7, 2) := by decide +kernel
theorem dX7_floatBits_52 : decode cX7_floatBits 52 = .ok (.sipush 1100, 3) := by decide +kernel
theorem dX7_floatBits_55 : decode cX7_floatBits 55 = .ok (.if_icmp .ge 29, 3) := by decide +kernel
theorem dX7_floatBits_58 : decode cX7_floatBits 58 = .ok (.dload 4, 2) := by decide +kernel
theorem dX7_floatBits_60 : decode cX7_floatBits 60 = .ok (.ldc2_w 23, 3) := by decide +kernel
theorem dX7_floatBits_63 : decode cX7_floatBits 63 = .ok (.dcmp .l, 1) := by decide +kernel
theorem dX7_floatBits_64 : decode cX7_floatBits 64 = .ok (.ifCond .lt 20, 3) := by decide +kernel
theorem dX7_floatBits_67 : decode cX7_floatBits 67 = .ok (.dload 4, 2) := by decide +kernel
theorem dX7_floatBits_69 : decode cX7_floatBits 69 = .ok (.ldc2_w 18, 3) := by decide +kernel
theorem dX7_floatBits_72 : decode cX7_floatBits 72 = .ok (.dmul, 1) := by decide +kernel
theorem dX7_floatBits_73 : decode cX7_floatBits 73 = .ok (.dstore 4, 2) := by decide +kernel
theorem dX7_floatBits_75 : decode cX7_floatBits 75 = .ok (.iinc 6 1, 3) := by decide +kernel
theorem dX7_floatBits_78 : decode cX7_floatBits 78 = .ok (.iinc 7 1, 3) := by decide +kernel
theorem dX7_floatBits_81 : decode cX7_floatBits 81 = .ok (.goto (-31), 3) := by decide +kernel
theorem dX7_floatBits_84 : decode cX7_floatBits 84 = .ok (.iconst 0, 1) := by decide +kernel
theorem dX7_floatBits_85 : decode cX7_floatBits 85 = .ok (.istore 7, 2) := by decide +kernel
theorem dX7_floatBits_87 : decode cX7_floatBits 87 = .ok (.iload 7, 2) := by decide +kernel
theorem dX7_floatBits_89 : decode cX7_floatBits 89 = .ok (.sipush 1100, 3) := by decide +kernel
theorem dX7_floatBits_92 : decode cX7_floatBits 92 = .ok (.if_icmp .ge 35, 3) := by decide +kernel
theorem dX7_floatBits_95 : decode cX7_floatBits 95 = .ok (.dload 4, 2) := by decide +kernel
theorem dX7_floatBits_97 : decode cX7_floatBits 97 = .ok (.ldc2_w 21, 3) := by decide +kernel
theorem dX7_floatBits_100 : decode cX7_floatBits 100 = .ok (.dcmp .g, 1) := by decide +kernel
theorem dX7_floatBits_101 : decode cX7_floatBits 101 = .ok (.ifCond .ge 26, 3) := by decide +kernel
theorem dX7_floatBits_104 : decode cX7_floatBits 104 = .ok (.iload 6, 2) := by decide +kernel
theorem dX7_floatBits_106 : decode cX7_floatBits 106 = .ok (.iconst 1, 1) := by decide +kernel
theorem dX7_floatBits_107 : decode cX7_floatBits 107 = .ok (.if_icmp .le 20, 3) := by decide +kernel
theorem dX7_floatBits_110 : decode cX7_floatBits 110 = .ok (.dload 4, 2) := by decide +kernel
theorem dX7_floatBits_112 : decode cX7_floatBits 112 = .ok (.ldc2_w 25, 3) := by decide +kernel
theorem dX7_floatBits_115 : decode cX7_floatBits 115 = .ok (.dmul, 1) := by decide +kernel
theorem dX7_floatBits_116 : decode cX7_floatBits 116 = .ok (.dstore 4, 2) := by decide +kernel
theorem dX7_floatBits_118 : decode cX7_floatBits 118 = .ok (.iinc 6 (-1), 3) := by decide +kernel
theorem dX7_floatBits_121 : decode cX7_floatBits 121 = .ok (.iinc 7 1, 3) := by decide +kernel
theorem dX7_floatBits_124 : decode cX7_floatBits 124 = .ok (.goto (-37), 3) := by decide +kernel
theorem dX7_floatBits_127 : decode cX7_floatBits 127 = .ok (.iload_n 2, 1) := by decide +kernel
theorem dX7_floatBits_128 : decode cX7_floatBits 128 = .ok (.iload 6, 2) := by decide +kernel
theorem dX7_floatBits_130 : decode cX7_floatBits 130 = .ok (.iconst 1, 1) := by decide +kernel
theorem dX7_floatBits_131 : decode cX7_floatBits 131 = .ok (.isub, 1) := by decide +kernel
theorem dX7_floatBits_132 : decode cX7_floatBits 132 = .ok (.bipush 23, 2) := by decide +kernel
theorem dX7_floatBits_134 : decode cX7_floatBits 134 = .ok (.ishl, 1) := by decide +kernel
theorem dX7_floatBits_135 : decode cX7_floatBits 135 = .ok (.dload 4, 2) := by decide +kernel
theorem dX7_floatBits_137 : decode cX7_floatBits 137 = .ok (.d2i, 1) := by decide +kernel
theorem dX7_floatBits_138 : decode cX7_floatBits 138 = .ok (.iadd, 1) := by decide +kernel
theorem dX7_floatBits_139 : decode cX7_floatBits 139 = .ok (.ior, 1) := by decide +kernel
theorem dX7_floatBits_140 : decode cX7_floatBits 140 = .ok (.ireturn, 1) := by decide +kernel
theorem dX7_doubleBits_0 : decode cX7_doubleBits 0 = .ok (.dload_n 0, 1) := by decide +kernel
theorem dX7_doubleBits_1 : decode cX7_doubleBits 1 = .ok (.dconst 0, 1) := by decide +kernel
theorem dX7_doubleBits_2 : decode cX7_doubleBits 2 = .ok (.dcmp .l, 1) := by decide +kernel
theorem dX7_doubleBits_3 : decode cX7_doubleBits 3 = .ok (.ifCond .ne 5, 3) := by decide +kernel
theorem dX7_doubleBits_6 : decode cX7_doubleBits 6 = .ok (.lconst 0, 1) := by decide +kernel
theorem dX7_doubleBits_7 : decode cX7_doubleBits 7 = .ok (.lreturn, 1) := by decide +kernel
theorem dX7_doubleBits_8 : decode cX7_doubleBits 8 = .ok (.dload_n 0, 1) := by decide +kernel
theorem dX7_doubleBits_9 : decode cX7_doubleBits 9 = .ok (.dconst 0, 1) := by decide +kernel
theorem dX7_doubleBits_10 : decode cX7_doubleBits 10 = .ok (.dcmp .g, 1) := by decide +kernel
theorem dX7_doubleBits_11 : decode cX7_doubleBits 11 = .ok (.ifCond .ge 9, 3) := by decide +kernel
theorem dX7_doubleBits_14 : decode cX7_doubleBits 14 = .ok (.ldc2_w 27, 3) := by decide +kernel
theorem dX7_doubleBits_17 : decode cX7_doubleBits 17 = .ok (.goto 4, 3) := by decide +kernel
theorem dX7_doubleBits_20 : decode cX7_doubleBits 20 = .ok (.lconst 0, 1) := by decide +kernel
theorem dX7_doubleBits_21 : decode cX7_doubleBits 21 = .ok (.lstore_n 2, 1) := by decide +kernel
theorem dX7_doubleBits_22 : decode cX7_doubleBits 22 = .ok (.dload_n 0, 1) := by decide +kernel
theorem dX7_doubleBits_23 : decode cX7_doubleBits 23 = .ok (.dconst 0, 1) := by decide +kernel
theorem dX7_doubleBits_24 : decode cX7_doubleBits 24 = .ok (.dcmp .g, 1) := by decide +kernel
theorem dX7_doubleBits_25 : decode cX7_doubleBits 25 = .ok (.ifCond .ge 8, 3) := by decide +kernel
theorem dX7_doubleBits_28 : decode cX7_doubleBits 28 = .ok (.dload_n 0, 1) := by decide +kernel
theorem dX7_doubleBits_29 : decode cX7_doubleBits 29 = .ok (.dneg, 1) := by decide +kernel
theorem dX7_doubleBits_30 : decode cX7_doubleBits 30 = .ok (.goto 4, 3) := by decide +kernel
theorem dX7_doubleBits_33 : decode cX7_doubleBits 33 = .ok (.dload_n 0, 1) := by decide +kernel
theorem dX7_doubleBits_34 : decode cX7_doubleBits 34 = .ok (.ldc2_w 29, 3) := by decide +kernel
theorem dX7_doubleBits_37 : decode cX7_doubleBits 37 = .ok (.dmul, 1) := by decide +kernel
theorem dX7_doubleBits_38 : decode cX7_doubleBits 38 = .ok (.dstore 4, 2) := by decide +kernel
theorem dX7_doubleBits_40 : decode cX7_doubleBits 40 = .ok (.ldc2_w 31, 3) := by decide +kernel
theorem dX7_doubleBits_43 : decode cX7_doubleBits 43 = .ok (.lstore 6, 2) := by decide +kernel
theorem dX7_doubleBits_45 : decode cX7_doubleBits 45 = .ok (.iconst 0, 1) := by decide +kernel
theorem dX7_doubleBits_46 : decode cX7_doubleBits 46 = .ok (.istore 8, 2) := by decide +kernel
theorem dX7_doubleBits_48 : decode cX7_doubleBits 48 = .ok (.iload 8, 2) := by decide +kernel
theorem dX7_doubleBits_50 : decode cX7_doubleBits 50 = .ok (.sipush 1100, 3) := by decide +kernel
theorem dX7_doubleBits_53 : decode cX7_doubleBits 53 = .ok (.if_icmp .ge 32, 3) := by decide +kernel
theorem dX7_doubleBits_56 : decode cX7_doubleBits 56 = .ok (.dload 4, 2) := by decide +kernel
theorem dX7_doubleBits_58 : decode cX7_doubleBits 58 = .ok (.ldc2_w 33, 3) := by decide +kernel
theorem dX7_doubleBits_61 : decode cX7_doubleBits 61 = .ok (.dcmp .l, 1) := by decide +kernel
theorem dX7_doubleBits_62 : decode cX7_doubleBits 62 = .ok (.ifCond .lt 23, 3) := by decide +kernel
theorem dX7_doubleBits_65 : decode cX7_doubleBits 65 = .ok (.dload 4, 2) := by decide +kernel
theorem dX7_doubleBits_67 : decode cX7_doubleBits 67 = .ok (.ldc2_w 18, 3) := by decide +kernel
theorem dX7_doubleBits_70 : decode cX7_doubleBits 70 = .ok (.dmul, 1) := by decide +kernel
theorem dX7_doubleBits_71 : decode cX7_doubleBits 71 = .ok (.dstore 4, 2) := by decide +kernel
theorem dX7_doubleBits_73 : decode cX7_doubleBits 73 = .ok (.lload 6, 2) := by decide +kernel
theorem dX7_doubleBits_75 : decode cX7_doubleBits 75 = .ok (.lconst 1, 1) := by decide +kernel
theorem dX7_doubleBits_76 : decode cX7_doubleBits 76 = .ok (.ladd, 1) := by decide +kernel
theorem dX7_doubleBits_77 : decode cX7_doubleBits 77 = .ok (.lstore 6, 2) := by decide +kernel
theorem dX7_doubleBits_79 : decode cX7_doubleBits 79 = .ok (.iinc 8 1, 3) := by decide +kernel
theorem dX7_doubleBits_82 : decode cX7_doubleBits 82 = .ok (.goto (-34), 3) := by decide +kernel
theorem dX7_doubleBits_85 : decode cX7_doubleBits 85 = .ok (.iconst 0, 1) := by decide +kernel
theorem dX7_doubleBits_86 : decode cX7_doubleBits 86 = .ok (.istore 8, 2) := by decide +kernel
theorem dX7_doubleBits_88 : decode cX7_doubleBits 88 = .ok (.iload 8, 2) := by decide +kernel
theorem dX7_doubleBits_90 : decode cX7_doubleBits 90 = .ok (.sipush 1100, 3) := by decide +kernel
theorem dX7_doubleBits_93 : decode cX7_doubleBits 93 = .ok (.if_icmp .ge 39, 3) := by decide +kernel
theorem dX7_doubleBits_96 : decode cX7_doubleBits 96 = .ok (.dload 4, 2) := by decide +kernel
theorem dX7_doubleBits_98 : decode cX7_doubleBits 98 = .ok (.ldc2_w 29, 3) := by decide +kernel
theorem dX7_doubleBits_101 : decode cX7_doubleBits 101 = .ok (.dcmp .g, 1) := by decide +kernel
theorem dX7_doubleBits_102 : decode cX7_doubleBits 102 = .ok (.ifCond .ge 30, 3) := by decide +kernel
theorem dX7_doubleBits_105 : decode cX7_doubleBits 105 = .ok (.lload 6, 2) := by decide +kernel
theorem dX7_doubleBits_107 : decode cX7_doubleBits 107 = .ok (.lconst 1, 1) := by decide +kernel
theorem dX7_doubleBits_108 : decode cX7_doubleBits 108 = .ok (.lcmp, 1) := by decide +kernel
theorem dX7_doubleBits_109 : decode cX7_doubleBits 109 = .ok (.ifCond .le 23, 3) := by decide +kernel
theorem dX7_doubleBits_112 : decode cX7_doubleBits 112 = .ok (.dload 4, 2) := by decide +kernel
theorem dX7_doubleBits_114 : decode cX7_doubleBits 114 = .ok (.ldc2_w 25, 3) := by decide +kernel
theorem dX7_doubleBits_117 : decode cX7_doubleBits 117 = .ok (.dmul, 1) := by decide +kernel
theorem dX7_doubleBits_118 : decode cX7_doubleBits 118 = .ok (.dstore 4, 2) := by decide +kernel
theorem dX7_doubleBits_120 : decode cX7_doubleBits 120 = .ok (.lload 6, 2) := by decide +kernel
theorem dX7_doubleBits_122 : decode cX7_doubleBits 122 = .ok (.lconst 1, 1) := by decide +kernel
theorem dX7_doubleBits_123 : decode cX7_doubleBits 123 = .ok (.lsub, 1) := by decide +kernel
theorem dX7_doubleBits_124 : decode cX7_doubleBits 124 = .ok (.lstore 6, 2) := by decide +kernel
theorem dX7_doubleBits_126 : decode cX7_doubleBits 126 = .ok (.iinc 8 1, 3) := by decide +kernel
theorem dX7_doubleBits_129 : decode cX7_doubleBits 129 = .ok (.goto (-41), 3) := by decide +kernel
theorem dX7_doubleBits_132 : decode cX7_doubleBits 132 = .ok (.lload_n 2, 1) := by decide +kernel
theorem dX7_doubleBits_133 : decode cX7_doubleBits 133 = .ok (.lload 6, 2) := by decide +kernel
theorem dX7_doubleBits_135 : decode cX7_doubleBits 135 = .ok (.lconst 1, 1) := by decide +kernel
theorem dX7_doubleBits_136 : decode cX7_doubleBits 136 = .ok (.lsub, 1) := by decide +kernel
theorem dX7_doubleBits_137 : decode cX7_doubleBits 137 = .ok (.bipush 52, 2) := by decide +kernel
theorem dX7_doubleBits_139 : decode cX7_doubleBits 139 = .ok (.lshl, 1) := by decide +kernel
theorem dX7_doubleBits_140 : decode cX7_doubleBits 140 = .ok (.dload 4, 2) := by decide +kernel
theorem dX7_doubleBits_142 : decode cX7_doubleBits 142 = .ok (.d2l, 1) := by decide +kernel
theorem dX7_doubleBits_143 : decode cX7_doubleBits 143 = .ok (.ladd, 1) := by decide +kernel
theorem dX7_doubleBits_144 : decode cX7_doubleBits 144 = .ok (.lor, 1) := by decide +kernel
theorem dX7_doubleBits_145 : decode cX7_doubleBits 145 = .ok (.lreturn, 1) := by decide +kernel
set_option maxRecDepth 20000 in
theorem ggX7_rootOf_X7_nearestRoot : GoodIn wsX7_rootOf wsX7_nearestRoot := goodIn_r _ [11] (by decide +kernel) (by decide +kernel)
set_option maxRecDepth 20000 in
theorem gX7_rootOf_X7_nearestRoot : GoodIn wsX7_rootOf (va_wsS RX7 43 yX7_nearestRoot wsX7_nearestRoot) := goodIn_app (goodIn_of _ (by decide +kernel)) ggX7_rootOf_X7_nearestRoot
theorem dX7_rootOf_0 : decode cX7_rootOf 0 = .ok (.dload_n 0, 1) := by decide +kernel
theorem dX7_rootOf_1 : decode cX7_rootOf 1 = .ok (.dconst 0, 1) := by decide +kernel
theorem dX7_rootOf_2 : decode cX7_rootOf 2 = .ok (.dcmp .l, 1) := by decide +kernel
theorem dX7_rootOf_3 : decode cX7_rootOf 3 = .ok (.ifCond .gt 5, 3) := by decide +kernel
theorem dX7_rootOf_6 : decode cX7_rootOf 6 = .ok (.dconst 0, 1) := by decide +kernel
theorem dX7_rootOf_7 : decode cX7_rootOf 7 = .ok (.dreturn, 1) := by decide +kernel
theorem dX7_rootOf_8 : decode cX7_rootOf 8 = .ok (.dload_n 0, 1) := by decide +kernel
theorem dX7_rootOf_9 : decode cX7_rootOf 9 = .ok (.dstore_n 2, 1) := by decide +kernel
theorem dX7_rootOf_10 : decode cX7_rootOf 10 = .ok (.dconst 1, 1) := by decide +kernel
theorem dX7_rootOf_11 : decode cX7_rootOf 11 = .ok (.dstore 4, 2) := by decide +kernel
theorem dX7_rootOf_13 : decode cX7_rootOf 13 = .ok (.iconst 0, 1) := by decide +kernel
theorem dX7_rootOf_14 : decode cX7_rootOf 14 = .ok (.istore 6, 2) := by decide +kernel
theorem dX7_rootOf_16 : decode cX7_rootOf 16 = .ok (.iload 6, 2) := by decide +kernel
theorem dX7_rootOf_18 : decode cX7_rootOf 18 = .ok (.sipush 1100, 3) := by decide +kernel
theorem dX7_rootOf_21 : decode cX7_rootOf 21 = .ok (.if_icmp .ge 31, 3) := by decide +kernel
theorem dX7_rootOf_24 : decode cX7_rootOf 24 = .ok (.dload_n 2, 1) := by decide +kernel
theorem dX7_rootOf_25 : decode cX7_rootOf 25 = .ok (.ldc2_w 35, 3) := by decide +kernel
theorem dX7_rootOf_28 : decode cX7_rootOf 28 = .ok (.dcmp .l, 1) := by decide +kernel
theorem dX7_rootOf_29 : decode cX7_rootOf 29 = .ok (.ifCond .lt 23, 3) := by decide +kernel
theorem dX7_rootOf_32 : decode cX7_rootOf 32 = .ok (.dload_n 2, 1) := by decide +kernel
theorem dX7_rootOf_33 : decode cX7_rootOf 33 = .ok (.ldc2_w 37, 3) := by decide +kernel
theorem dX7_rootOf_36 : decode cX7_rootOf 36 = .ok (.dmul, 1) := by decide +kernel
theorem dX7_rootOf_37 : decode cX7_rootOf 37 = .ok (.dstore_n 2, 1) := by decide +kernel
theorem dX7_rootOf_38 : decode cX7_rootOf 38 = .ok (.dload 4, 2) := by decide +kernel
theorem dX7_rootOf_40 : decode cX7_rootOf 40 = .ok (.ldc2_w 25, 3) := by decide +kernel
theorem dX7_rootOf_43 : decode cX7_rootOf 43 = .ok (.dmul, 1) := by decide +kernel
theorem dX7_rootOf_44 : decode cX7_rootOf 44 = .ok (.dstore 4, 2) := by decide +kernel
theorem dX7_rootOf_46 : decode cX7_rootOf 46 = .ok (.iinc 6 1, 3) := by decide +kernel
theorem dX7_rootOf_49 : decode cX7_rootOf 49 = .ok (.goto (-33), 3) := by decide +kernel
theorem dX7_rootOf_52 : decode cX7_rootOf 52 = .ok (.iconst 0, 1) := by decide +kernel
theorem dX7_rootOf_53 : decode cX7_rootOf 53 = .ok (.istore 6, 2) := by decide +kernel
theorem dX7_rootOf_55 : decode cX7_rootOf 55 = .ok (.iload 6, 2) := by decide +kernel
theorem dX7_rootOf_57 : decode cX7_rootOf 57 = .ok (.sipush 1100, 3) := by decide +kernel
theorem dX7_rootOf_60 : decode cX7_rootOf 60 = .ok (.if_icmp .ge 29, 3) := by decide +kernel
theorem dX7_rootOf_63 : decode cX7_rootOf 63 = .ok (.dload_n 2, 1) := by decide +kernel
theorem dX7_rootOf_64 : decode cX7_rootOf 64 = .ok (.dconst 1, 1) := by decide +kernel
theorem dX7_rootOf_65 : decode cX7_rootOf 65 = .ok (.dcmp .g, 1) := by decide +kernel
theorem dX7_rootOf_66 : decode cX7_rootOf 66 = .ok (.ifCond .ge 23, 3) := by decide +kernel
theorem dX7_rootOf_69 : decode cX7_rootOf 69 = .ok (.dload_n 2, 1) := by decide +kernel
theorem dX7_rootOf_70 : decode cX7_rootOf 70 = .ok (.ldc2_w 35, 3) := by decide +kernel
theorem dX7_rootOf_73 : decode cX7_rootOf 73 = .ok (.dmul, 1) := by decide +kernel
theorem dX7_rootOf_74 : decode cX7_rootOf 74 = .ok (.dstore_n 2, 1) := by decide +kernel
theorem dX7_rootOf_75 : decode cX7_rootOf 75 = .ok (.dload 4, 2) := by decide +kernel
theorem dX7_rootOf_77 : decode cX7_rootOf 77 = .ok (.ldc2_w 18, 3) := by decide +kernel
theorem dX7_rootOf_80 : decode cX7_rootOf 80 = .ok (.dmul, 1) := by decide +kernel
theorem dX7_rootOf_81 : decode cX7_rootOf 81 = .ok (.dstore 4, 2) := by decide +kernel
theorem dX7_rootOf_83 : decode cX7_rootOf 83 = .ok (.iinc 6 1, 3) := by decide +kernel
theorem dX7_rootOf_86 : decode cX7_rootOf 86 = .ok (.goto (-31), 3) := by decide +kernel
theorem dX7_rootOf_89 : decode cX7_rootOf 89 = .ok (.ldc2_w 39, 3) := by decide +kernel
theorem dX7_rootOf_92 : decode cX7_rootOf 92 = .ok (.dload_n 2, 1) := by decide +kernel
theorem dX7_rootOf_93 : decode cX7_rootOf 93 = .ok (.ldc2_w 41, 3) := by decide +kernel
theorem dX7_rootOf_96 : decode cX7_rootOf 96 = .ok (.dmul, 1) := by decide +kernel
theorem dX7_rootOf_97 : decode cX7_rootOf 97 = .ok (.dadd, 1) := by decide +kernel
theorem dX7_rootOf_98 : decode cX7_rootOf 98 = .ok (.dstore 6, 2) := by decide +kernel
theorem dX7_rootOf_100 : decode cX7_rootOf 100 = .ok (.iconst 0, 1) := by decide +kernel
theorem dX7_rootOf_101 : decode cX7_rootOf 101 = .ok (.istore 8, 2) := by decide +kernel
theorem dX7_rootOf_103 : decode cX7_rootOf 103 = .ok (.iload 8, 2) := by decide +kernel
theorem dX7_rootOf_105 : decode cX7_rootOf 105 = .ok (.iconst 4, 1) := by decide +kernel
theorem dX7_rootOf_106 : decode cX7_rootOf 106 = .ok (.if_icmp .ge 22, 3) := by decide +kernel
theorem dX7_rootOf_109 : decode cX7_rootOf 109 = .ok (.dload 6, 2) := by decide +kernel
theorem dX7_rootOf_111 : decode cX7_rootOf 111 = .ok (.dload_n 2, 1) := by decide +kernel
theorem dX7_rootOf_112 : decode cX7_rootOf 112 = .ok (.dload 6, 2) := by decide +kernel
theorem dX7_rootOf_114 : decode cX7_rootOf 114 = .ok (.ddiv, 1) := by decide +kernel
theorem dX7_rootOf_115 : decode cX7_rootOf 115 = .ok (.dadd, 1) := by decide +kernel
theorem dX7_rootOf_116 : decode cX7_rootOf 116 = .ok (.ldc2_w 18, 3) := by decide +kernel
theorem dX7_rootOf_119 : decode cX7_rootOf 119 = .ok (.dmul, 1) := by decide +kernel
theorem dX7_rootOf_120 : decode cX7_rootOf 120 = .ok (.dstore 6, 2) := by decide +kernel
theorem dX7_rootOf_122 : decode cX7_rootOf 122 = .ok (.iinc 8 1, 3) := by decide +kernel
theorem dX7_rootOf_125 : decode cX7_rootOf 125 = .ok (.goto (-22), 3) := by decide +kernel
theorem dX7_rootOf_128 : decode cX7_rootOf 128 = .ok (.dload_n 2, 1) := by decide +kernel
theorem dX7_rootOf_129 : decode cX7_rootOf 129 = .ok (.ldc2_w 29, 3) := by decide +kernel
theorem dX7_rootOf_132 : decode cX7_rootOf 132 = .ok (.dmul, 1) := by decide +kernel
theorem dX7_rootOf_133 : decode cX7_rootOf 133 = .ok (.d2l, 1) := by decide +kernel
theorem dX7_rootOf_134 : decode cX7_rootOf 134 = .ok (.dload 6, 2) := by decide +kernel
theorem dX7_rootOf_136 : decode cX7_rootOf 136 = .ok (.ldc2_w 29, 3) := by decide +kernel
theorem dX7_rootOf_139 : decode cX7_rootOf 139 = .ok (.dmul, 1) := by decide +kernel
theorem dX7_rootOf_140 : decode cX7_rootOf 140 = .ok (.d2l, 1) := by decide +kernel
theorem dX7_rootOf_141 : decode cX7_rootOf 141 = .ok (.invokestatic 43, 3) := by decide +kernel
theorem dX7_rootOf_144 : decode cX7_rootOf 144 = .ok (.lstore 8, 2) := by decide +kernel
theorem dX7_rootOf_146 : decode cX7_rootOf 146 = .ok (.lload 8, 2) := by decide +kernel
theorem dX7_rootOf_148 : decode cX7_rootOf 148 = .ok (.l2d, 1) := by decide +kernel
theorem dX7_rootOf_149 : decode cX7_rootOf 149 = .ok (.ldc2_w 29, 3) := by decide +kernel
theorem dX7_rootOf_152 : decode cX7_rootOf 152 = .ok (.ddiv, 1) := by decide +kernel
theorem dX7_rootOf_153 : decode cX7_rootOf 153 = .ok (.dload 4, 2) := by decide +kernel
theorem dX7_rootOf_155 : decode cX7_rootOf 155 = .ok (.dmul, 1) := by decide +kernel
theorem dX7_rootOf_156 : decode cX7_rootOf 156 = .ok (.dreturn, 1) := by decide +kernel
theorem dX7_nearestRoot_0 : decode cX7_nearestRoot 0 = .ok (.lload_n 2, 1) := by decide +kernel
theorem dX7_nearestRoot_1 : decode cX7_nearestRoot 1 = .ok (.lstore 4, 2) := by decide +kernel
theorem dX7_nearestRoot_3 : decode cX7_nearestRoot 3 = .ok (.iconst 0, 1) := by decide +kernel
theorem dX7_nearestRoot_4 : decode cX7_nearestRoot 4 = .ok (.istore 6, 2) := by decide +kernel
theorem dX7_nearestRoot_6 : decode cX7_nearestRoot 6 = .ok (.iload 6, 2) := by decide +kernel
theorem dX7_nearestRoot_8 : decode cX7_nearestRoot 8 = .ok (.bipush 16, 2) := by decide +kernel
theorem dX7_nearestRoot_10 : decode cX7_nearestRoot 10 = .ok (.if_icmp .ge 59, 3) := by decide +kernel
theorem dX7_nearestRoot_13 : decode cX7_nearestRoot 13 = .ok (.lload_n 0, 1) := by decide +kernel
theorem dX7_nearestRoot_14 : decode cX7_nearestRoot 14 = .ok (.bipush 52, 2) := by decide +kernel
theorem dX7_nearestRoot_16 : decode cX7_nearestRoot 16 = .ok (.lshl, 1) := by decide +kernel
theorem dX7_nearestRoot_17 : decode cX7_nearestRoot 17 = .ok (.lload 4, 2) := by decide +kernel
theorem dX7_nearestRoot_19 : decode cX7_nearestRoot 19 = .ok (.lload 4, 2) := by decide +kernel
theorem dX7_nearestRoot_21 : decode cX7_nearestRoot 21 = .ok (.lmul, 1) := by decide +kernel
theorem dX7_nearestRoot_22 : decode cX7_nearestRoot 22 = .ok (.lsub, 1) := by decide +kernel
theorem dX7_nearestRoot_23 : decode cX7_nearestRoot 23 = .ok (.lstore 7, 2) := by decide +kernel
theorem dX7_nearestRoot_25 : decode cX7_nearestRoot 25 = .ok (.lload 7, 2) := by decide +kernel
theorem dX7_nearestRoot_27 : decode cX7_nearestRoot 27 = .ok (.lload 4, 2) := by decide +kernel
theorem dX7_nearestRoot_29 : decode cX7_nearestRoot 29 = .ok (.lcmp, 1) := by decide +kernel
theorem dX7_nearestRoot_30 : decode cX7_nearestRoot 30 = .ok (.ifCond .le 12, 3) := by decide +kernel
theorem dX7_nearestRoot_33 : decode cX7_nearestRoot 33 = .ok (.lload 4, 2) := by decide +kernel
theorem dX7_nearestRoot_35 : decode cX7_nearestRoot 35 = .ok (.lconst 1, 1) := by decide +kernel
theorem dX7_nearestRoot_36 : decode cX7_nearestRoot 36 = .ok (.ladd, 1) := by decide +kernel
theorem dX7_nearestRoot_37 : decode cX7_nearestRoot 37 = .ok (.lstore 4, 2) := by decide +kernel
theorem dX7_nearestRoot_39 : decode cX7_nearestRoot 39 = .ok (.goto 24, 3) := by decide +kernel
theorem dX7_nearestRoot_42 : decode cX7_nearestRoot 42 = .ok (.lload 7, 2) := by decide +kernel
theorem dX7_nearestRoot_44 : decode cX7_nearestRoot 44 = .ok (.lload 4, 2) := by decide +kernel
theorem dX7_nearestRoot_46 : decode cX7_nearestRoot 46 = .ok (.lneg, 1) := by decide +kernel
theorem dX7_nearestRoot_47 : decode cX7_nearestRoot 47 = .ok (.lcmp, 1) := by decide +kernel
theorem dX7_nearestRoot_48 : decode cX7_nearestRoot 48 = .ok (.ifCond .gt 12, 3) := by decide +kernel
theorem dX7_nearestRoot_51 : decode cX7_nearestRoot 51 = .ok (.lload 4, 2) := by decide +kernel
theorem dX7_nearestRoot_53 : decode cX7_nearestRoot 53 = .ok (.lconst 1, 1) := by decide +kernel
theorem dX7_nearestRoot_54 : decode cX7_nearestRoot 54 = .ok (.lsub, 1) := by decide +kernel
theorem dX7_nearestRoot_55 : decode cX7_nearestRoot 55 = .ok (.lstore 4, 2) := by decide +kernel
theorem dX7_nearestRoot_57 : decode cX7_nearestRoot 57 = .ok (.goto 6, 3) := by decide +kernel
theorem dX7_nearestRoot_60 : decode cX7_nearestRoot 60 = .ok (.lload 4, 2) := by decide +kernel
theorem dX7_nearestRoot_62 : decode cX7_nearestRoot 62 = .ok (.lreturn, 1) := by decide +kernel
theorem dX7_nearestRoot_63 : decode cX7_nearestRoot 63 = .ok (.iinc 6 1, 3) := by decide +kernel
theorem dX7_nearestRoot_66 : decode cX7_nearestRoot 66 = .ok (.goto (-60), 3) := by decide +kernel
theorem dX7_nearestRoot_69 : decode cX7_nearestRoot 69 = .ok (.lload 4, 2) := by decide +kernel
theorem dX7_nearestRoot_71 : decode cX7_nearestRoot 71 = .ok (.lreturn, 1) := by decide +kernel
theorem dX8_init_0 : decode cX8_init 0 = .ok (.aload_n 0, 1) := by decide +kernel
theorem dX8_init_1 : decode cX8_init 1 = .ok (.invokespecial 3, 3) := by decide +kernel
theorem dX8_init_4 : decode cX8_init 4 = .ok (.aload_n 0, 1) := by decide +kernel
theorem dX8_init_5 : decode cX8_init 5 = .ok (.bipush 20, 2) := by decide +kernel
theorem dX8_init_7 : decode cX8_init 7 = .ok (.newarray .int, 2) := by decide +kernel
theorem dX8_init_9 : decode cX8_init 9 = .ok (.putfield 9, 3) := by decide +kernel
theorem dX8_init_12 : decode cX8_init 12 = .ok (.aload_n 0, 1) := by decide +kernel
theorem dX8_init_13 : decode cX8_init 13 = .ok (.bipush 20, 2) := by decide +kernel
theorem dX8_init_15 : decode cX8_init 15 = .ok (.newarray .int, 2) := by decide +kernel
theorem dX8_init_17 : decode cX8_init 17 = .ok (.putfield 15, 3) := by decide +kernel
theorem dX8_init_20 : decode cX8_init 20 = .ok (.aload_n 0, 1) := by decide +kernel
theorem dX8_init_21 : decode cX8_init 21 = .ok (.bipush 20, 2) := by decide +kernel
theorem dX8_init_23 : decode cX8_init 23 = .ok (.newarray .int, 2) := by decide +kernel
theorem dX8_init_25 : decode cX8_init 25 = .ok (.putfield 18, 3) := by decide +kernel
theorem dX8_init_28 : decode cX8_init 28 = .ok (.aload_n 0, 1) := by decide +kernel
theorem dX8_init_29 : decode cX8_init 29 = .ok (.iconst 0, 1) := by decide +kernel
theorem dX8_init_30 : decode cX8_init 30 = .ok (.putfield 21, 3) := by decide +kernel
theorem dX8_init_33 : decode cX8_init 33 = .ok (.aload_n 0, 1) := by decide +kernel
theorem dX8_init_34 : decode cX8_init 34 = .ok (.iconst 0, 1) := by decide +kernel
theorem dX8_init_35 : decode cX8_init 35 = .ok (.putfield 25, 3) := by decide +kernel
theorem dX8_init_38 : decode cX8_init 38 = .ok (.aload_n 0, 1) := by decide +kernel
theorem dX8_init_39 : decode cX8_init 39 = .ok (.iconst 0, 1) := by decide +kernel
theorem dX8_init_40 : decode cX8_init 40 = .ok (.putfield 28, 3) := by decide +kernel
theorem dX8_init_43 : decode cX8_init 43 = .ok (.aload_n 0, 1) := by decide +kernel
theorem dX8_init_44 : decode cX8_init 44 = .ok (.iconst 0, 1) := by decide +kernel
theorem dX8_init_45 : decode cX8_init 45 = .ok (.putfield 31, 3) := by decide +kernel
theorem dX8_init_48 : decode cX8_init 48 = .ok (.aload_n 0, 1) := by decide +kernel
theorem dX8_init_49 : decode cX8_init 49 = .ok (.iconst 3, 1) := by decide +kernel
theorem dX8_init_50 : decode cX8_init 50 = .ok (.newarray .int, 2) := by decide +kernel
theorem dX8_init_52 : decode cX8_init 52 = .ok (.putfield 34, 3) := by decide +kernel
theorem dX8_init_55 : decode cX8_init 55 = .ok (.aload_n 0, 1) := by decide +kernel
theorem dX8_init_56 : decode cX8_init 56 = .ok (.iconst 3, 1) := by decide +kernel
theorem dX8_init_57 : decode cX8_init 57 = .ok (.newarray .int, 2) := by decide +kernel
theorem dX8_init_59 : decode cX8_init 59 = .ok (.putfield 37, 3) := by decide +kernel
theorem dX8_init_62 : decode cX8_init 62 = .ok (.aload_n 0, 1) := by decide +kernel
theorem dX8_init_63 : decode cX8_init 63 = .ok (.iconst 0, 1) := by decide +kernel
theorem dX8_init_64 : decode cX8_init 64 = .ok (.putfield 40, 3) := by decide +kernel
theorem dX8_init_67 : decode cX8_init 67 = .ok (.aload_n 0, 1) := by decide +kernel
theorem dX8_init_68 : decode cX8_init 68 = .ok (.iconst 0, 1) := by decide +kernel
theorem dX8_init_69 : decode cX8_init 69 = .ok (.putfield 43, 3) := by decide +kernel
theorem dX8_init_72 : decode cX8_init 72 = .ok (.aload_n 0, 1) := by decide +kernel
theorem dX8_init_73 : decode cX8_init 73 = .ok (.iconst 0, 1) := by decide +kernel
theorem dX8_init_74 : decode cX8_init 74 = .ok (.putfield 46, 3) := by decide +kernel
theorem dX8_init_77 : decode cX8_init 77 = .ok (.aload_n 0, 1) := by decide +kernel
theorem dX8_init_78 : decode cX8_init 78 = .ok (.iconst 0, 1) := by decide +kernel
theorem dX8_init_79 : decode cX8_init 79 = .ok (.putfield 50, 3) := by decide +kernel
theorem dX8_init_82 : decode cX8_init 82 = .ok (.aload_n 0, 1) := by decide +kernel
theorem dX8_init_83 : decode cX8_init 83 = .ok (.iconst 0, 1) := by decide +kernel
theorem dX8_init_84 : decode cX8_init 84 = .ok (.putfield 53, 3) := by decide +kernel
theorem dX8_init_87 : decode cX8_init 87 = .ok (.aload_n 0, 1) := by decide +kernel
theorem dX8_init_88 : decode cX8_init 88 = .ok (.iconst 3, 1) := by decide +kernel
theorem dX8_init_89 : decode cX8_init 89 = .ok (.newarray .int, 2) := by decide +kernel
theorem dX8_init_91 : decode cX8_init 91 = .ok (.putfield 56, 3) := by decide +kernel
theorem dX8_init_94 : decode cX8_init 94 = .ok (.aload_n 0, 1) := by decide +kernel
theorem dX8_init_95 : decode cX8_init 95 = .ok (.iconst 3, 1) := by decide +kernel
theorem dX8_init_96 : decode cX8_init 96 = .ok (.newarray .int, 2) := by decide +kernel
theorem dX8_init_98 : decode cX8_init 98 = .ok (.putfield 59, 3) := by decide +kernel
theorem dX8_init_101 : decode cX8_init 101 = .ok (.aload_n 0, 1) := by decide +kernel
theorem dX8_init_102 : decode cX8_init 102 = .ok (.iconst 0, 1) := by decide +kernel
theorem dX8_init_103 : decode cX8_init 103 = .ok (.putfield 62, 3) := by decide +kernel
theorem dX8_init_106 : decode cX8_init 106 = .ok (.aload_n 0, 1) := by decide +kernel
theorem dX8_init_107 : decode cX8_init 107 = .ok (.dconst 0, 1) := by decide +kernel
theorem dX8_init_108 : decode cX8_init 108 = .ok (.putfield 65, 3) := by decide +kernel
theorem dX8_init_111 : decode cX8_init 111 = .ok (.aload_n 0, 1) := by decide +kernel
theorem dX8_init_112 : decode cX8_init 112 = .ok (.lconst 0, 1) := by decide +kernel
theorem dX8_init_113 : decode cX8_init 113 = .ok (.putfield 69, 3) := by decide +kernel
theorem dX8_init_116 : decode cX8_init 116 = .ok (.return_, 1) := by decide +kernel
theorem dX8_begin_0 : decode cX8_begin 0 = .ok (.aload_n 0, 1) := by decide +kernel
theorem dX8_begin_1 : decode cX8_begin 1 = .ok (.iconst 0, 1) := by decide +kernel
theorem dX8_begin_2 : decode cX8_begin 2 = .ok (.putfield 21, 3) := by decide +kernel
theorem dX8_begin_5 : decode cX8_begin 5 = .ok (.aload_n 0, 1) := by decide +kernel
theorem dX8_begin_6 : decode cX8_begin 6 = .ok (.iload_n 1, 1) := by decide +kernel
theorem dX8_begin_7 : decode cX8_begin 7 = .ok (.putfield 25, 3) := by decide +kernel
theorem dX8_begin_10 : decode cX8_begin 10 = .ok (.aload_n 0, 1) := by decide +kernel
theorem dX8_begin_11 : decode cX8_begin 11 = .ok (.iload_n 2, 1) := by decide +kernel
theorem dX8_begin_12 : decode cX8_begin 12 = .ok (.putfield 28, 3) := by decide +kernel
theorem dX8_begin_15 : decode cX8_begin 15 = .ok (.aload_n 0, 1) := by decide +kernel
theorem dX8_begin_16 : decode cX8_begin 16 = .ok (.iload_n 3, 1) := by decide +kernel
theorem dX8_begin_17 : decode cX8_begin 17 = .ok (.putfield 31, 3) := by decide +kernel
theorem dX8_begin_20 : decode cX8_begin 20 = .ok (.aload_n 0, 1) := by decide +kernel
theorem dX8_begin_21 : decode cX8_begin 21 = .ok (.iconst 0, 1) := by decide +kernel
theorem dX8_begin_22 : decode cX8_begin 22 = .ok (.putfield 40, 3) := by decide +kernel
theorem dX8_begin_25 : decode cX8_begin 25 = .ok (.aload_n 0, 1) := by decide +kernel
theorem dX8_begin_26 : decode cX8_begin 26 = .ok (.iconst 0, 1) := by decide +kernel
theorem dX8_begin_27 : decode cX8_begin 27 = .ok (.putfield 43, 3) := by decide +kernel
theorem dX8_begin_30 : decode cX8_begin 30 = .ok (.aload_n 0, 1) := by decide +kernel
theorem dX8_begin_31 : decode cX8_begin 31 = .ok (.iconst 0, 1) := by decide +kernel
theorem dX8_begin_32 : decode cX8_begin 32 = .ok (.putfield 53, 3) := by decide +kernel
theorem dX8_begin_35 : decode cX8_begin 35 = .ok (.return_, 1) := by decide +kernel
theorem dX8_offer_0 : decode cX8_offer 0 = .ok (.iload_n 2, 1) := by decide +kernel
theorem dX8_offer_1 : decode cX8_offer 1 = .ok (.iconst 1, 1) := by decide +kernel
theorem dX8_offer_2 : decode cX8_offer 2 = .ok (.if_icmp .lt 12, 3) := by decide +kernel
theorem dX8_offer_5 : decode cX8_offer 5 = .ok (.aload_n 0, 1) := by decide +kernel
theorem dX8_offer_6 : decode cX8_offer 6 = .ok (.getfield 21, 3) := by decide +kernel
theorem dX8_offer_9 : decode cX8_offer 9 = .ok (.bipush 20, 2) := by decide +kernel
theorem dX8_offer_11 : decode cX8_offer 11 = .ok (.if_icmp .lt 4, 3) := by decide +kernel
theorem dX8_offer_14 : decode cX8_offer 14 = .ok (.return_, 1) := by decide +kernel
theorem dX8_offer_15 : decode cX8_offer 15 = .ok (.aload_n 0, 1) := by decide +kernel
theorem dX8_offer_16 : decode cX8_offer 16 = .ok (.getfield 9, 3) := by decide +kernel
theorem dX8_offer_19 : decode cX8_offer 19 = .ok (.aload_n 0, 1) := by decide +kernel
theorem dX8_offer_20 : decode cX8_offer 20 = .ok (.getfield 21, 3) := by decide +kernel
theorem dX8_offer_23 : decode cX8_offer 23 = .ok (.iload_n 1, 1) := by decide +kernel
theorem dX8_offer_24 : decode cX8_offer 24 = .ok (.iastore, 1) := by decide +kernel
theorem dX8_offer_25 : decode cX8_offer 25 = .ok (.aload_n 0, 1) := by decide +kernel
theorem dX8_offer_26 : decode cX8_offer 26 = .ok (.getfield 15, 3) := by decide +kernel
theorem dX8_offer_29 : decode cX8_offer 29 = .ok (.aload_n 0, 1) := by decide +kernel
theorem dX8_offer_30 : decode cX8_offer 30 = .ok (.getfield 21, 3) := by decide +kernel
theorem dX8_offer_33 : decode cX8_offer 33 = .ok (.iload_n 2, 1) := by decide +kernel
theorem dX8_offer_34 : decode cX8_offer 34 = .ok (.iastore, 1) := by decide +kernel
theorem dX8_offer_35 : decode cX8_offer 35 = .ok (.aload_n 0, 1) := by decide +kernel
theorem dX8_offer_36 : decode cX8_offer 36 = .ok (.getfield 18, 3) := by decide +kernel
theorem dX8_offer_39 : decode cX8_offer 39 = .ok (.aload_n 0, 1) := by decide +kernel
theorem dX8_offer_40 : decode cX8_offer 40 = .ok (.getfield 21, 3) := by decide +kernel
theorem dX8_offer_43 : decode cX8_offer 43 = .ok (.iload_n 3, 1) := by decide +kernel
theorem dX8_offer_44 : decode cX8_offer 44 = .ok (.iastore, 1) := by decide +kernel
theorem dX8_offer_45 : decode cX8_offer 45 = .ok (.aload_n 0, 1) := by decide +kernel
theorem dX8_offer_46 : decode cX8_offer 46 = .ok (.dup, 1) := by decide +kernel
theorem dX8_offer_47 : decode cX8_offer 47 = .ok (.getfield 21, 3) := by decide +kernel
theorem dX8_offer_50 : decode cX8_offer 50 = .ok (.iconst 1, 1) := by decide +kernel
theorem dX8_offer_51 : decode cX8_offer 51 = .ok (.iadd, 1) := by decide +kernel
theorem dX8_offer_52 : decode cX8_offer 52 = .ok (.putfield 21, 3) := by decide +kernel
theorem dX8_offer_55 : decode cX8_offer 55 = .ok (.return_, 1) := by decide +kernel
theorem dX8_nameAt_0 : decode cX8_nameAt 0 = .ok (.aload_n 0, 1) := by decide +kernel
theorem dX8_nameAt_1 : decode cX8_nameAt 1 = .ok (.getfield 9, 3) := by decide +kernel
theorem dX8_nameAt_4 : decode cX8_nameAt 4 = .ok (.aload_n 0, 1) := by decide +kernel
theorem dX8_nameAt_5 : decode cX8_nameAt 5 = .ok (.getfield 34, 3) := by decide +kernel
theorem dX8_nameAt_8 : decode cX8_nameAt 8 = .ok (.iload_n 1, 1) := by decide +kernel
theorem dX8_nameAt_9 : decode cX8_nameAt 9 = .ok (.iaload, 1) := by decide +kernel
theorem dX8_nameAt_10 : decode cX8_nameAt 10 = .ok (.iaload, 1) := by decide +kernel
theorem dX8_nameAt_11 : decode cX8_nameAt 11 = .ok (.ireturn, 1) := by decide +kernel
theorem dX8_gramsAt_0 : decode cX8_gramsAt 0 = .ok (.aload_n 0, 1) := by decide +kernel
theorem dX8_gramsAt_1 : decode cX8_gramsAt 1 = .ok (.getfield 37, 3) := by decide +kernel
theorem dX8_gramsAt_4 : decode cX8_gramsAt 4 = .ok (.iload_n 1, 1) := by decide +kernel
theorem dX8_gramsAt_5 : decode cX8_gramsAt 5 = .ok (.iaload, 1) := by decide +kernel
theorem dX8_gramsAt_6 : decode cX8_gramsAt 6 = .ok (.aload_n 0, 1) := by decide +kernel
theorem dX8_gramsAt_7 : decode cX8_gramsAt 7 = .ok (.getfield 28, 3) := by decide +kernel
theorem dX8_gramsAt_10 : decode cX8_gramsAt 10 = .ok (.imul, 1) := by decide +kernel
theorem dX8_gramsAt_11 : decode cX8_gramsAt 11 = .ok (.ireturn, 1) := by decide +kernel
set_option maxRecDepth 20000 in
theorem ggX8_gramsOf_X8_nameAt : GoodIn wsX8_gramsOf wsX8_nameAt := goodIn_r _ [6, 7, 8, 15, 16, 17, 18, 19, 20, 21, 22, 23, 24, 25, 26, 27, 28, 29, 30, 31, 32, 33] (by decide +kernel) (by decide +kernel)
set_option maxRecDepth 20000 in
theorem gX8_gramsOf_X8_nameAt : GoodIn wsX8_gramsOf (wsV RX8 73 RX8 yX8_nameAt wsX8_nameAt) := goodIn_app (goodIn_of _ (by decide +kernel)) ggX8_gramsOf_X8_nameAt
set_option maxRecDepth 20000 in
theorem ggX8_gramsOf_X8_gramsAt : GoodIn wsX8_gramsOf wsX8_gramsAt := goodIn_r _ [12, 13, 14, 15, 16, 17, 18, 19, 20, 21, 22, 23, 24, 25, 26, 27, 28, 29, 30, 31, 32, 33] (by decide +kernel) (by decide +kernel)
set_option maxRecDepth 20000 in
theorem gX8_gramsOf_X8_gramsAt : GoodIn wsX8_gramsOf (wsV RX8 77 RX8 yX8_gramsAt wsX8_gramsAt) := goodIn_app (goodIn_of _ (by decide +kernel)) ggX8_gramsOf_X8_gramsAt
theorem dX8_gramsOf_0 : decode cX8_gramsOf 0 = .ok (.iconst 0, 1) := by decide +kernel
theorem dX8_gramsOf_1 : decode cX8_gramsOf 1 = .ok (.istore_n 2, 1) := by decide +kernel
theorem dX8_gramsOf_2 : decode cX8_gramsOf 2 = .ok (.iload_n 2, 1) := by decide +kernel
theorem dX8_gramsOf_3 : decode cX8_gramsOf 3 = .ok (.aload_n 0, 1) := by decide +kernel
theorem dX8_gramsOf_4 : decode cX8_gramsOf 4 = .ok (.getfield 40, 3) := by decide +kernel
theorem dX8_gramsOf_7 : decode cX8_gramsOf 7 = .ok (.if_icmp .ge 24, 3) := by decide +kernel
theorem dX8_gramsOf_10 : decode cX8_gramsOf 10 = .ok (.aload_n 0, 1) := by decide +kernel
theorem dX8_gramsOf_11 : decode cX8_gramsOf 11 = .ok (.iload_n 2, 1) := by decide +kernel
theorem dX8_gramsOf_12 : decode cX8_gramsOf 12 = .ok (.invokevirtual 73, 3) := by decide +kernel
theorem dX8_gramsOf_15 : decode cX8_gramsOf 15 = .ok (.iload_n 1, 1) := by decide +kernel
theorem dX8_gramsOf_16 : decode cX8_gramsOf 16 = .ok (.if_icmp .ne 9, 3) := by decide +kernel
theorem dX8_gramsOf_19 : decode cX8_gramsOf 19 = .ok (.aload_n 0, 1) := by decide +kernel
theorem dX8_gramsOf_20 : decode cX8_gramsOf 20 = .ok (.iload_n 2, 1) := by decide +kernel
theorem dX8_gramsOf_21 : decode cX8_gramsOf 21 = .ok (.invokevirtual 77, 3) := by decide +kernel
theorem dX8_gramsOf_24 : decode cX8_gramsOf 24 = .ok (.ireturn, 1) := by decide +kernel
theorem dX8_gramsOf_25 : decode cX8_gramsOf 25 = .ok (.iinc 2 1, 3) := by decide +kernel
theorem dX8_gramsOf_28 : decode cX8_gramsOf 28 = .ok (.goto (-26), 3) := by decide +kernel
theorem dX8_gramsOf_31 : decode cX8_gramsOf 31 = .ok (.iconst 0, 1) := by decide +kernel
theorem dX8_gramsOf_32 : decode cX8_gramsOf 32 = .ok (.ireturn, 1) := by decide +kernel
set_option maxRecDepth 20000 in
theorem ggX8_advance_X8_nextSet : GoodIn wsX8_advance wsX8_nextSet := goodIn_r _ [9, 1, 4, 10, 11, 12, 13, 14, 8, 15, 2, 22, 23, 24, 25, 26, 27, 28, 29, 30, 31, 32, 33, 34, 35, 36, 37, 38, 39, 40] (by decide +kernel) (by decide +kernel)
set_option maxRecDepth 20000 in
theorem gX8_advance_X8_nextSet : GoodIn wsX8_advance (wsV RX8 80 RX8 yX8_nextSet wsX8_nextSet) := goodIn_app (goodIn_of _ (by decide +kernel)) ggX8_advance_X8_nextSet
set_option maxRecDepth 20000 in
theorem ggX8_advance_X8_hasRoom : GoodIn wsX8_advance wsX8_hasRoom := goodIn_r _ [19, 1, 20, 4, 21, 22, 23, 24, 25, 26, 27, 28, 29, 30, 31, 32, 33, 34, 35, 36, 37, 38, 39, 40] (by decide +kernel) (by decide +kernel)
set_option maxRecDepth 20000 in
theorem gX8_advance_X8_hasRoom : GoodIn wsX8_advance (wsV RX8 84 RX8 yX8_hasRoom wsX8_hasRoom) := goodIn_app (goodIn_of _ (by decide +kernel)) ggX8_advance_X8_hasRoom
theorem dX8_advance_0 : decode cX8_advance 0 = .ok (.aload_n 0, 1) := by decide +kernel
theorem dX8_advance_1 : decode cX8_advance 1 = .ok (.getfield 40, 3) := by decide +kernel
theorem dX8_advance_4 : decode cX8_advance 4 = .ok (.iconst 1, 1) := by decide +kernel
theorem dX8_advance_5 : decode cX8_advance 5 = .ok (.isub, 1) := by decide +kernel
theorem dX8_advance_6 : decode cX8_advance 6 = .ok (.istore_n 1, 1) := by decide +kernel
theorem dX8_advance_7 : decode cX8_advance 7 = .ok (.iload_n 1, 1) := by decide +kernel
theorem dX8_advance_8 : decode cX8_advance 8 = .ok (.ifCond .lt 48, 3) := by decide +kernel
theorem dX8_advance_11 : decode cX8_advance 11 = .ok (.aload_n 0, 1) := by decide +kernel
theorem dX8_advance_12 : decode cX8_advance 12 = .ok (.getfield 37, 3) := by decide +kernel
theorem dX8_advance_15 : decode cX8_advance 15 = .ok (.iload_n 1, 1) := by decide +kernel
theorem dX8_advance_16 : decode cX8_advance 16 = .ok (.iaload, 1) := by decide +kernel
theorem dX8_advance_17 : decode cX8_advance 17 = .ok (.aload_n 0, 1) := by decide +kernel
theorem dX8_advance_18 : decode cX8_advance 18 = .ok (.getfield 15, 3) := by decide +kernel
theorem dX8_advance_21 : decode cX8_advance 21 = .ok (.aload_n 0, 1) := by decide +kernel
theorem dX8_advance_22 : decode cX8_advance 22 = .ok (.getfield 34, 3) := by decide +kernel
theorem dX8_advance_25 : decode cX8_advance 25 = .ok (.iload_n 1, 1) := by decide +kernel
theorem dX8_advance_26 : decode cX8_advance 26 = .ok (.iaload, 1) := by decide +kernel
theorem dX8_advance_27 : decode cX8_advance 27 = .ok (.iaload, 1) := by decide +kernel
theorem dX8_advance_28 : decode cX8_advance 28 = .ok (.if_icmp .ge 15, 3) := by decide +kernel
theorem dX8_advance_31 : decode cX8_advance 31 = .ok (.aload_n 0, 1) := by decide +kernel
theorem dX8_advance_32 : decode cX8_advance 32 = .ok (.getfield 37, 3) := by decide +kernel
theorem dX8_advance_35 : decode cX8_advance 35 = .ok (.iload_n 1, 1) := by decide +kernel
theorem dX8_advance_36 : decode cX8_advance 36 = .ok (.dup2, 1) := by decide +kernel
theorem dX8_advance_37 : decode cX8_advance 37 = .ok (.iaload, 1) := by decide +kernel
theorem dX8_advance_38 : decode cX8_advance 38 = .ok (.iconst 1, 1) := by decide +kernel
theorem dX8_advance_39 : decode cX8_advance 39 = .ok (.iadd, 1) := by decide +kernel
theorem dX8_advance_40 : decode cX8_advance 40 = .ok (.iastore, 1) := by decide +kernel
theorem dX8_advance_41 : decode cX8_advance 41 = .ok (.iconst 1, 1) := by decide +kernel
theorem dX8_advance_42 : decode cX8_advance 42 = .ok (.ireturn, 1) := by decide +kernel
theorem dX8_advance_43 : decode cX8_advance 43 = .ok (.aload_n 0, 1) := by decide +kernel
theorem dX8_advance_44 : decode cX8_advance 44 = .ok (.getfield 37, 3) := by decide +kernel
theorem dX8_advance_47 : decode cX8_advance 47 = .ok (.iload_n 1, 1) := by decide +kernel
theorem dX8_advance_48 : decode cX8_advance 48 = .ok (.iconst 1, 1) := by decide +kernel
theorem dX8_advance_49 : decode cX8_advance 49 = .ok (.iastore, 1) := by decide +kernel
theorem dX8_advance_50 : decode cX8_advance 50 = .ok (.iinc 1 (-1), 3) := by decide +kernel
theorem dX8_advance_53 : decode cX8_advance 53 = .ok (.goto (-46), 3) := by decide +kernel
theorem dX8_advance_56 : decode cX8_advance 56 = .ok (.iconst 0, 1) := by decide +kernel
theorem dX8_advance_57 : decode cX8_advance 57 = .ok (.istore_n 1, 1) := by decide +kernel
theorem dX8_advance_58 : decode cX8_advance 58 = .ok (.iload_n 1, 1) := by decide +kernel
theorem dX8_advance_59 : decode cX8_advance 59 = .ok (.sipush 1000, 3) := by decide +kernel
theorem dX8_advance_62 : decode cX8_advance 62 = .ok (.if_icmp .ge 27, 3) := by decide +kernel
theorem dX8_advance_65 : decode cX8_advance 65 = .ok (.aload_n 0, 1) := by decide +kernel
theorem dX8_advance_66 : decode cX8_advance 66 = .ok (.invokevirtual 80, 3) := by decide +kernel
theorem dX8_advance_69 : decode cX8_advance 69 = .ok (.ifCond .ne 5, 3) := by decide +kernel
theorem dX8_advance_72 : decode cX8_advance 72 = .ok (.iconst 0, 1) := by decide +kernel
theorem dX8_advance_73 : decode cX8_advance 73 = .ok (.ireturn, 1) := by decide +kernel
theorem dX8_advance_74 : decode cX8_advance 74 = .ok (.aload_n 0, 1) := by decide +kernel
theorem dX8_advance_75 : decode cX8_advance 75 = .ok (.invokevirtual 84, 3) := by decide +kernel
theorem dX8_advance_78 : decode cX8_advance 78 = .ok (.ifCond .eq 5, 3) := by decide +kernel
theorem dX8_advance_81 : decode cX8_advance 81 = .ok (.iconst 1, 1) := by decide +kernel
theorem dX8_advance_82 : decode cX8_advance 82 = .ok (.ireturn, 1) := by decide +kernel
theorem dX8_advance_83 : decode cX8_advance 83 = .ok (.iinc 1 1, 3) := by decide +kernel
theorem dX8_advance_86 : decode cX8_advance 86 = .ok (.goto (-28), 3) := by decide +kernel
theorem dX8_advance_89 : decode cX8_advance 89 = .ok (.iconst 0, 1) := by decide +kernel
theorem dX8_advance_90 : decode cX8_advance 90 = .ok (.ireturn, 1) := by decide +kernel
set_option maxRecDepth 20000 in
theorem ggX8_nextSet_X8_fillFrom : GoodIn wsX8_nextSet wsX8_fillFrom := goodIn_r _ [9, 1, 2, 10, 11, 12, 13, 14, 15, 16, 17, 18, 19, 20, 21, 22, 23, 24, 25, 26, 27, 28, 29] (by decide +kernel) (by decide +kernel)
set_option maxRecDepth 20000 in
theorem gX8_nextSet_X8_fillFrom : GoodIn wsX8_nextSet (wsV RX8 87 RX8 yX8_fillFrom wsX8_fillFrom) := goodIn_app (goodIn_of _ (by decide +kernel)) ggX8_nextSet_X8_fillFrom
theorem dX8_nextSet_0 : decode cX8_nextSet 0 = .ok (.aload_n 0, 1) := by decide +kernel
theorem dX8_nextSet_1 : decode cX8_nextSet 1 = .ok (.getfield 40, 3) := by decide +kernel
theorem dX8_nextSet_4 : decode cX8_nextSet 4 = .ok (.iconst 1, 1) := by decide +kernel
theorem dX8_nextSet_5 : decode cX8_nextSet 5 = .ok (.isub, 1) := by decide +kernel
theorem dX8_nextSet_6 : decode cX8_nextSet 6 = .ok (.istore_n 1, 1) := by decide +kernel
theorem dX8_nextSet_7 : decode cX8_nextSet 7 = .ok (.iload_n 1, 1) := by decide +kernel
theorem dX8_nextSet_8 : decode cX8_nextSet 8 = .ok (.ifCond .lt 44, 3) := by decide +kernel
theorem dX8_nextSet_11 : decode cX8_nextSet 11 = .ok (.aload_n 0, 1) := by decide +kernel
theorem dX8_nextSet_12 : decode cX8_nextSet 12 = .ok (.getfield 34, 3) := by decide +kernel
theorem dX8_nextSet_15 : decode cX8_nextSet 15 = .ok (.iload_n 1, 1) := by decide +kernel
theorem dX8_nextSet_16 : decode cX8_nextSet 16 = .ok (.iaload, 1) := by decide +kernel
theorem dX8_nextSet_17 : decode cX8_nextSet 17 = .ok (.aload_n 0, 1) := by decide +kernel
theorem dX8_nextSet_18 : decode cX8_nextSet 18 = .ok (.getfield 21, 3) := by decide +kernel
theorem dX8_nextSet_21 : decode cX8_nextSet 21 = .ok (.aload_n 0, 1) := by decide +kernel
theorem dX8_nextSet_22 : decode cX8_nextSet 22 = .ok (.getfield 40, 3) := by decide +kernel
theorem dX8_nextSet_25 : decode cX8_nextSet 25 = .ok (.isub, 1) := by decide +kernel
theorem dX8_nextSet_26 : decode cX8_nextSet 26 = .ok (.iload_n 1, 1) := by decide +kernel
theorem dX8_nextSet_27 : decode cX8_nextSet 27 = .ok (.iadd, 1) := by decide +kernel
theorem dX8_nextSet_28 : decode cX8_nextSet 28 = .ok (.if_icmp .ge 18, 3) := by decide +kernel
theorem dX8_nextSet_31 : decode cX8_nextSet 31 = .ok (.aload_n 0, 1) := by decide +kernel
theorem dX8_nextSet_32 : decode cX8_nextSet 32 = .ok (.iload_n 1, 1) := by decide +kernel
theorem dX8_nextSet_33 : decode cX8_nextSet 33 = .ok (.aload_n 0, 1) := by decide +kernel
theorem dX8_nextSet_34 : decode cX8_nextSet 34 = .ok (.getfield 34, 3) := by decide +kernel
theorem dX8_nextSet_37 : decode cX8_nextSet 37 = .ok (.iload_n 1, 1) := by decide +kernel
theorem dX8_nextSet_38 : decode cX8_nextSet 38 = .ok (.iaload, 1) := by decide +kernel
theorem dX8_nextSet_39 : decode cX8_nextSet 39 = .ok (.iconst 1, 1) := by decide +kernel
theorem dX8_nextSet_40 : decode cX8_nextSet 40 = .ok (.iadd, 1) := by decide +kernel
theorem dX8_nextSet_41 : decode cX8_nextSet 41 = .ok (.invokevirtual 87, 3) := by decide +kernel
theorem dX8_nextSet_44 : decode cX8_nextSet 44 = .ok (.iconst 1, 1) := by decide +kernel
theorem dX8_nextSet_45 : decode cX8_nextSet 45 = .ok (.ireturn, 1) := by decide +kernel
theorem dX8_nextSet_46 : decode cX8_nextSet 46 = .ok (.iinc 1 (-1), 3) := by decide +kernel
theorem dX8_nextSet_49 : decode cX8_nextSet 49 = .ok (.goto (-42), 3) := by decide +kernel
theorem dX8_nextSet_52 : decode cX8_nextSet 52 = .ok (.aload_n 0, 1) := by decide +kernel
theorem dX8_nextSet_53 : decode cX8_nextSet 53 = .ok (.getfield 40, 3) := by decide +kernel
theorem dX8_nextSet_56 : decode cX8_nextSet 56 = .ok (.aload_n 0, 1) := by decide +kernel
theorem dX8_nextSet_57 : decode cX8_nextSet 57 = .ok (.getfield 25, 3) := by decide +kernel
theorem dX8_nextSet_60 : decode cX8_nextSet 60 = .ok (.if_icmp .ge 14, 3) := by decide +kernel
theorem dX8_nextSet_63 : decode cX8_nextSet 63 = .ok (.aload_n 0, 1) := by decide +kernel
theorem dX8_nextSet_64 : decode cX8_nextSet 64 = .ok (.getfield 40, 3) := by decide +kernel
theorem dX8_nextSet_67 : decode cX8_nextSet 67 = .ok (.aload_n 0, 1) := by decide +kernel
theorem dX8_nextSet_68 : decode cX8_nextSet 68 = .ok (.getfield 21, 3) := by decide +kernel
theorem dX8_nextSet_71 : decode cX8_nextSet 71 = .ok (.if_icmp .lt 5, 3) := by decide +kernel
theorem dX8_nextSet_74 : decode cX8_nextSet 74 = .ok (.iconst 0, 1) := by decide +kernel
theorem dX8_nextSet_75 : decode cX8_nextSet 75 = .ok (.ireturn, 1) := by decide +kernel
theorem dX8_nextSet_76 : decode cX8_nextSet 76 = .ok (.aload_n 0, 1) := by decide +kernel
theorem dX8_nextSet_77 : decode cX8_nextSet 77 = .ok (.dup, 1) := by decide +kernel
theorem dX8_nextSet_78 : decode cX8_nextSet 78 = .ok (.getfield 40, 3) := by decide +kernel
theorem dX8_nextSet_81 : decode cX8_nextSet 81 = .ok (.iconst 1, 1) := by decide +kernel
theorem dX8_nextSet_82 : decode cX8_nextSet 82 = .ok (.iadd, 1) := by decide +kernel
theorem dX8_nextSet_83 : decode cX8_nextSet 83 = .ok (.putfield 40, 3) := by decide +kernel
theorem dX8_nextSet_86 : decode cX8_nextSet 86 = .ok (.aload_n 0, 1) := by decide +kernel
theorem dX8_nextSet_87 : decode cX8_nextSet 87 = .ok (.iconst 0, 1) := by decide +kernel
theorem dX8_nextSet_88 : decode cX8_nextSet 88 = .ok (.iconst 0, 1) := by decide +kernel
theorem dX8_nextSet_89 : decode cX8_nextSet 89 = .ok (.invokevirtual 87, 3) := by decide +kernel
theorem dX8_nextSet_92 : decode cX8_nextSet 92 = .ok (.iconst 1, 1) := by decide +kernel
theorem dX8_nextSet_93 : decode cX8_nextSet 93 = .ok (.ireturn, 1) := by decide +kernel
theorem dX8_fillFrom_0 : decode cX8_fillFrom 0 = .ok (.iload_n 1, 1) := by decide +kernel
theorem dX8_fillFrom_1 : decode cX8_fillFrom 1 = .ok (.istore_n 3, 1) := by decide +kernel
theorem dX8_fillFrom_2 : decode cX8_fillFrom 2 = .ok (.iload_n 3, 1) := by decide +kernel
theorem dX8_fillFrom_3 : decode cX8_fillFrom 3 = .ok (.aload_n 0, 1) := by decide +kernel
theorem dX8_fillFrom_4 : decode cX8_fillFrom 4 = .ok (.getfield 40, 3) := by decide +kernel
theorem dX8_fillFrom_7 : decode cX8_fillFrom 7 = .ok (.if_icmp .ge 20, 3) := by decide +kernel
theorem dX8_fillFrom_10 : decode cX8_fillFrom 10 = .ok (.aload_n 0, 1) := by decide +kernel
theorem dX8_fillFrom_11 : decode cX8_fillFrom 11 = .ok (.getfield 34, 3) := by decide +kernel
theorem dX8_fillFrom_14 : decode cX8_fillFrom 14 = .ok (.iload_n 3, 1) := by decide +kernel
theorem dX8_fillFrom_15 : decode cX8_fillFrom 15 = .ok (.iload_n 2, 1) := by decide +kernel
theorem dX8_fillFrom_16 : decode cX8_fillFrom 16 = .ok (.iload_n 3, 1) := by decide +kernel
theorem dX8_fillFrom_17 : decode cX8_fillFrom 17 = .ok (.iadd, 1) := by decide +kernel
theorem dX8_fillFrom_18 : decode cX8_fillFrom 18 = .ok (.iload_n 1, 1) := by decide +kernel
theorem dX8_fillFrom_19 : decode cX8_fillFrom 19 = .ok (.isub, 1) := by decide +kernel
theorem dX8_fillFrom_20 : decode cX8_fillFrom 20 = .ok (.iastore, 1) := by decide +kernel
theorem dX8_fillFrom_21 : decode cX8_fillFrom 21 = .ok (.iinc 3 1, 3) := by decide +kernel
theorem dX8_fillFrom_24 : decode cX8_fillFrom 24 = .ok (.goto (-22), 3) := by decide +kernel
theorem dX8_fillFrom_27 : decode cX8_fillFrom 27 = .ok (.iconst 0, 1) := by decide +kernel
theorem dX8_fillFrom_28 : decode cX8_fillFrom 28 = .ok (.istore_n 3, 1) := by decide +kernel
theorem dX8_fillFrom_29 : decode cX8_fillFrom 29 = .ok (.iload_n 3, 1) := by decide +kernel
theorem dX8_fillFrom_30 : decode cX8_fillFrom 30 = .ok (.aload_n 0, 1) := by decide +kernel
theorem dX8_fillFrom_31 : decode cX8_fillFrom 31 = .ok (.getfield 40, 3) := by decide +kernel
theorem dX8_fillFrom_34 : decode cX8_fillFrom 34 = .ok (.if_icmp .ge 16, 3) := by decide +kernel
theorem dX8_fillFrom_37 : decode cX8_fillFrom 37 = .ok (.aload_n 0, 1) := by decide +kernel
theorem dX8_fillFrom_38 : decode cX8_fillFrom 38 = .ok (.getfield 37, 3) := by decide +kernel
theorem dX8_fillFrom_41 : decode cX8_fillFrom 41 = .ok (.iload_n 3, 1) := by decide +kernel
theorem dX8_fillFrom_42 : decode cX8_fillFrom 42 = .ok (.iconst 1, 1) := by decide +kernel
theorem dX8_fillFrom_43 : decode cX8_fillFrom 43 = .ok (.iastore, 1) := by decide +kernel
theorem dX8_fillFrom_44 : decode cX8_fillFrom 44 = .ok (.iinc 3 1, 3) := by decide +kernel
theorem dX8_fillFrom_47 : decode cX8_fillFrom 47 = .ok (.goto (-18), 3) := by decide +kernel
theorem dX8_fillFrom_50 : decode cX8_fillFrom 50 = .ok (.return_, 1) := by decide +kernel
theorem dX8_hasRoom_0 : decode cX8_hasRoom 0 = .ok (.iconst 0, 1) := by decide +kernel
theorem dX8_hasRoom_1 : decode cX8_hasRoom 1 = .ok (.istore_n 1, 1) := by decide +kernel
theorem dX8_hasRoom_2 : decode cX8_hasRoom 2 = .ok (.iconst 0, 1) := by decide +kernel
theorem dX8_hasRoom_3 : decode cX8_hasRoom 3 = .ok (.istore_n 2, 1) := by decide +kernel
theorem dX8_hasRoom_4 : decode cX8_hasRoom 4 = .ok (.iload_n 2, 1) := by decide +kernel
theorem dX8_hasRoom_5 : decode cX8_hasRoom 5 = .ok (.aload_n 0, 1) := by decide +kernel
theorem dX8_hasRoom_6 : decode cX8_hasRoom 6 = .ok (.getfield 40, 3) := by decide +kernel
theorem dX8_hasRoom_9 : decode cX8_hasRoom 9 = .ok (.if_icmp .ge 23, 3) := by decide +kernel
theorem dX8_hasRoom_12 : decode cX8_hasRoom 12 = .ok (.iload_n 1, 1) := by decide +kernel
theorem dX8_hasRoom_13 : decode cX8_hasRoom 13 = .ok (.aload_n 0, 1) := by decide +kernel
theorem dX8_hasRoom_14 : decode cX8_hasRoom 14 = .ok (.getfield 18, 3) := by decide +kernel
theorem dX8_hasRoom_17 : decode cX8_hasRoom 17 = .ok (.aload_n 0, 1) := by decide +kernel
theorem dX8_hasRoom_18 : decode cX8_hasRoom 18 = .ok (.getfield 34, 3) := by decide +kernel
theorem dX8_hasRoom_21 : decode cX8_hasRoom 21 = .ok (.iload_n 2, 1) := by decide +kernel
theorem dX8_hasRoom_22 : decode cX8_hasRoom 22 = .ok (.iaload, 1) := by decide +kernel
theorem dX8_hasRoom_23 : decode cX8_hasRoom 23 = .ok (.iaload, 1) := by decide +kernel
theorem dX8_hasRoom_24 : decode cX8_hasRoom 24 = .ok (.iadd, 1) := by decide +kernel
theorem dX8_hasRoom_25 : decode cX8_hasRoom 25 = .ok (.istore_n 1, 1) := by decide +kernel
theorem dX8_hasRoom_26 : decode cX8_hasRoom 26 = .ok (.iinc 2 1, 3) := by decide +kernel
theorem dX8_hasRoom_29 : decode cX8_hasRoom 29 = .ok (.goto (-25), 3) := by decide +kernel
theorem dX8_hasRoom_32 : decode cX8_hasRoom 32 = .ok (.iload_n 1, 1) := by decide +kernel
theorem dX8_hasRoom_33 : decode cX8_hasRoom 33 = .ok (.aload_n 0, 1) := by decide +kernel
theorem dX8_hasRoom_34 : decode cX8_hasRoom 34 = .ok (.getfield 31, 3) := by decide +kernel
theorem dX8_hasRoom_37 : decode cX8_hasRoom 37 = .ok (.if_icmp .gt 7, 3) := by decide +kernel
theorem dX8_hasRoom_40 : decode cX8_hasRoom 40 = .ok (.iconst 1, 1) := by decide +kernel
theorem dX8_hasRoom_41 : decode cX8_hasRoom 41 = .ok (.goto 4, 3) := by decide +kernel
theorem dX8_hasRoom_44 : decode cX8_hasRoom 44 = .ok (.iconst 0, 1) := by decide +kernel
theorem dX8_hasRoom_45 : decode cX8_hasRoom 45 = .ok (.ireturn, 1) := by decide +kernel
set_option maxRecDepth 20000 in
theorem ggX8_setBound_X8_keep : GoodIn wsX8_setBound wsX8_keep := goodIn_r _ [5, 6, 7, 8, 9, 10, 11, 12, 13, 14, 15, 4, 16, 17, 18, 19, 20, 21, 22, 23, 24, 25, 26, 27, 28, 29, 30, 31, 32, 33, 34, 35, 36, 37, 38, 39, 40, 41, 42, 43] (by decide +kernel) (by decide +kernel)
set_option maxRecDepth 20000 in
theorem gX8_setBound_X8_keep : GoodIn wsX8_setBound (wsV RX8 91 RX8 yX8_keep wsX8_keep) := goodIn_app (goodIn_of _ (by decide +kernel)) ggX8_setBound_X8_keep
theorem dX8_setBound_0 : decode cX8_setBound 0 = .ok (.aload_n 0, 1) := by decide +kernel
theorem dX8_setBound_1 : decode cX8_setBound 1 = .ok (.dload_n 1, 1) := by decide +kernel
theorem dX8_setBound_2 : decode cX8_setBound 2 = .ok (.lconst 0, 1) := by decide +kernel
theorem dX8_setBound_3 : decode cX8_setBound 3 = .ok (.invokevirtual 91, 3) := by decide +kernel
theorem dX8_setBound_6 : decode cX8_setBound 6 = .ok (.return_, 1) := by decide +kernel
set_option maxRecDepth 20000 in
theorem ggX8_judge_X8_keep : GoodIn wsX8_judge wsX8_keep := goodIn_r _ [9, 2, 3, 4, 10, 11, 12, 13, 14, 15, 16, 8, 17, 18, 19, 20, 21, 22, 23, 24, 25, 26, 27, 28, 29, 30, 31, 32, 33, 34, 35, 36, 37, 38, 39, 40, 41, 42, 43, 44] (by decide +kernel) (by decide +kernel)
set_option maxRecDepth 20000 in
theorem gX8_judge_X8_keep : GoodIn wsX8_judge (wsV RX8 91 RX8 yX8_keep wsX8_keep) := goodIn_app (goodIn_of _ (by decide +kernel)) ggX8_judge_X8_keep
theorem dX8_judge_0 : decode cX8_judge 0 = .ok (.aload_n 0, 1) := by decide +kernel
theorem dX8_judge_1 : decode cX8_judge 1 = .ok (.dup, 1) := by decide +kernel
theorem dX8_judge_2 : decode cX8_judge 2 = .ok (.getfield 43, 3) := by decide +kernel
theorem dX8_judge_5 : decode cX8_judge 5 = .ok (.iconst 1, 1) := by decide +kernel
theorem dX8_judge_6 : decode cX8_judge 6 = .ok (.iadd, 1) := by decide +kernel
theorem dX8_judge_7 : decode cX8_judge 7 = .ok (.putfield 43, 3) := by decide +kernel
theorem dX8_judge_10 : decode cX8_judge 10 = .ok (.aload_n 0, 1) := by decide +kernel
theorem dX8_judge_11 : decode cX8_judge 11 = .ok (.getfield 53, 3) := by decide +kernel
theorem dX8_judge_14 : decode cX8_judge 14 = .ok (.ifCond .eq 30, 3) := by decide +kernel
theorem dX8_judge_17 : decode cX8_judge 17 = .ok (.dload_n 1, 1) := by decide +kernel
theorem dX8_judge_18 : decode cX8_judge 18 = .ok (.aload_n 0, 1) := by decide +kernel
theorem dX8_judge_19 : decode cX8_judge 19 = .ok (.getfield 65, 3) := by decide +kernel
theorem dX8_judge_22 : decode cX8_judge 22 = .ok (.dcmp .g, 1) := by decide +kernel
theorem dX8_judge_23 : decode cX8_judge 23 = .ok (.ifCond .lt 21, 3) := by decide +kernel
theorem dX8_judge_26 : decode cX8_judge 26 = .ok (.dload_n 1, 1) := by decide +kernel
theorem dX8_judge_27 : decode cX8_judge 27 = .ok (.aload_n 0, 1) := by decide +kernel
theorem dX8_judge_28 : decode cX8_judge 28 = .ok (.getfield 65, 3) := by decide +kernel
theorem dX8_judge_31 : decode cX8_judge 31 = .ok (.dcmp .l, 1) := by decide +kernel
theorem dX8_judge_32 : decode cX8_judge 32 = .ok (.ifCond .ne 18, 3) := by decide +kernel
theorem dX8_judge_35 : decode cX8_judge 35 = .ok (.lload_n 3, 1) := by decide +kernel
theorem dX8_judge_36 : decode cX8_judge 36 = .ok (.aload_n 0, 1) := by decide +kernel
theorem dX8_judge_37 : decode cX8_judge 37 = .ok (.getfield 69, 3) := by decide +kernel
theorem dX8_judge_40 : decode cX8_judge 40 = .ok (.lcmp, 1) := by decide +kernel
theorem dX8_judge_41 : decode cX8_judge 41 = .ok (.ifCond .ge 9, 3) := by decide +kernel
theorem dX8_judge_44 : decode cX8_judge 44 = .ok (.aload_n 0, 1) := by decide +kernel
theorem dX8_judge_45 : decode cX8_judge 45 = .ok (.dload_n 1, 1) := by decide +kernel
theorem dX8_judge_46 : decode cX8_judge 46 = .ok (.lload_n 3, 1) := by decide +kernel
theorem dX8_judge_47 : decode cX8_judge 47 = .ok (.invokevirtual 91, 3) := by decide +kernel
theorem dX8_judge_50 : decode cX8_judge 50 = .ok (.return_, 1) := by decide +kernel
set_option maxRecDepth 20000 in
theorem ggX8_keep_X8_nameAt : GoodIn wsX8_keep wsX8_nameAt := goodIn_r _ [12, 13, 14, 21, 22, 23, 24, 25, 26, 27, 28, 29, 30, 31, 32, 33, 34, 35, 36, 37, 38, 39] (by decide +kernel) (by decide +kernel)
set_option maxRecDepth 20000 in
theorem gX8_keep_X8_nameAt : GoodIn wsX8_keep (wsV RX8 73 RX8 yX8_nameAt wsX8_nameAt) := goodIn_app (goodIn_of _ (by decide +kernel)) ggX8_keep_X8_nameAt
set_option maxRecDepth 20000 in
theorem ggX8_keep_X8_gramsAt : GoodIn wsX8_keep wsX8_gramsAt := goodIn_r _ [18, 19, 20, 21, 22, 23, 24, 25, 26, 27, 28, 29, 30, 31, 32, 33, 34, 35, 36, 37, 38, 39] (by decide +kernel) (by decide +kernel)
set_option maxRecDepth 20000 in
theorem gX8_keep_X8_gramsAt : GoodIn wsX8_keep (wsV RX8 77 RX8 yX8_gramsAt wsX8_gramsAt) := goodIn_app (goodIn_of _ (by decide +kernel)) ggX8_keep_X8_gramsAt
theorem dX8_keep_0 : decode cX8_keep 0 = .ok (.aload_n 0, 1) := by decide +kernel
theorem dX8_keep_1 : decode cX8_keep 1 = .ok (.iconst 1, 1) := by decide +kernel
theorem dX8_keep_2 : decode cX8_keep 2 = .ok (.putfield 53, 3) := by decide +kernel
theorem dX8_keep_5 : decode cX8_keep 5 = .ok (.aload_n 0, 1) := by decide +kernel
theorem dX8_keep_6 : decode cX8_keep 6 = .ok (.dload_n 1, 1) := by decide +kernel
theorem dX8_keep_7 : decode cX8_keep 7 = .ok (.putfield 65, 3) := by decide +kernel
theorem dX8_keep_10 : decode cX8_keep 10 = .ok (.aload_n 0, 1) := by decide +kernel
theorem dX8_keep_11 : decode cX8_keep 11 = .ok (.lload_n 3, 1) := by decide +kernel
theorem dX8_keep_12 : decode cX8_keep 12 = .ok (.putfield 69, 3) := by decide +kernel
theorem dX8_keep_15 : decode cX8_keep 15 = .ok (.aload_n 0, 1) := by decide +kernel
theorem dX8_keep_16 : decode cX8_keep 16 = .ok (.aload_n 0, 1) := by decide +kernel
theorem dX8_keep_17 : decode cX8_keep 17 = .ok (.getfield 40, 3) := by decide +kernel
theorem dX8_keep_20 : decode cX8_keep 20 = .ok (.putfield 62, 3) := by decide +kernel
theorem dX8_keep_23 : decode cX8_keep 23 = .ok (.iconst 0, 1) := by decide +kernel
theorem dX8_keep_24 : decode cX8_keep 24 = .ok (.istore 5, 2) := by decide +kernel
theorem dX8_keep_26 : decode cX8_keep 26 = .ok (.iload 5, 2) := by decide +kernel
theorem dX8_keep_28 : decode cX8_keep 28 = .ok (.aload_n 0, 1) := by decide +kernel
theorem dX8_keep_29 : decode cX8_keep 29 = .ok (.getfield 40, 3) := by decide +kernel
theorem dX8_keep_32 : decode cX8_keep 32 = .ok (.if_icmp .ge 35, 3) := by decide +kernel
theorem dX8_keep_35 : decode cX8_keep 35 = .ok (.aload_n 0, 1) := by decide +kernel
theorem dX8_keep_36 : decode cX8_keep 36 = .ok (.getfield 56, 3) := by decide +kernel
theorem dX8_keep_39 : decode cX8_keep 39 = .ok (.iload 5, 2) := by decide +kernel
theorem dX8_keep_41 : decode cX8_keep 41 = .ok (.aload_n 0, 1) := by decide +kernel
theorem dX8_keep_42 : decode cX8_keep 42 = .ok (.iload 5, 2) := by decide +kernel
theorem dX8_keep_44 : decode cX8_keep 44 = .ok (.invokevirtual 73, 3) := by decide +kernel
theorem dX8_keep_47 : decode cX8_keep 47 = .ok (.iastore, 1) := by decide +kernel
theorem dX8_keep_48 : decode cX8_keep 48 = .ok (.aload_n 0, 1) := by decide +kernel
theorem dX8_keep_49 : decode cX8_keep 49 = .ok (.getfield 59, 3) := by decide +kernel
theorem dX8_keep_52 : decode cX8_keep 52 = .ok (.iload 5, 2) := by decide +kernel
theorem dX8_keep_54 : decode cX8_keep 54 = .ok (.aload_n 0, 1) := by decide +kernel
theorem dX8_keep_55 : decode cX8_keep 55 = .ok (.iload 5, 2) := by decide +kernel
theorem dX8_keep_57 : decode cX8_keep 57 = .ok (.invokevirtual 77, 3) := by decide +kernel
theorem dX8_keep_60 : decode cX8_keep 60 = .ok (.iastore, 1) := by decide +kernel
theorem dX8_keep_61 : decode cX8_keep 61 = .ok (.iinc 5 1, 3) := by decide +kernel
theorem dX8_keep_64 : decode cX8_keep 64 = .ok (.goto (-38), 3) := by decide +kernel
theorem dX8_keep_67 : decode cX8_keep 67 = .ok (.return_, 1) := by decide +kernel
set_option maxRecDepth 20000 in
theorem ggX8_end_X8_advance : GoodIn wsX8_end wsX8_advance := goodIn_r _ [8, 9, 10, 11, 12, 13, 14, 15, 7, 16, 17, 18, 19, 20, 21, 22, 23, 24, 25, 26, 27, 28, 29, 30, 31, 32, 33, 34, 35, 36, 37, 38, 39, 40, 41, 42, 43, 44, 45, 46, 47] (by decide +kernel) (by decide +kernel)
set_option maxRecDepth 20000 in
theorem gX8_end_X8_advance : GoodIn wsX8_end (wsV RX8 95 RX8 yX8_advance wsX8_advance) := goodIn_app (goodIn_of _ (by decide +kernel)) ggX8_end_X8_advance
theorem dX8_end_0 : decode cX8_end 0 = .ok (.aload_n 0, 1) := by decide +kernel
theorem dX8_end_1 : decode cX8_end 1 = .ok (.aload_n 0, 1) := by decide +kernel
theorem dX8_end_2 : decode cX8_end 2 = .ok (.getfield 43, 3) := by decide +kernel
theorem dX8_end_5 : decode cX8_end 5 = .ok (.sipush 1000, 3) := by decide +kernel
theorem dX8_end_8 : decode cX8_end 8 = .ok (.if_icmp .lt 10, 3) := by decide +kernel
theorem dX8_end_11 : decode cX8_end 11 = .ok (.aload_n 0, 1) := by decide +kernel
theorem dX8_end_12 : decode cX8_end 12 = .ok (.invokevirtual 95, 3) := by decide +kernel
theorem dX8_end_15 : decode cX8_end 15 = .ok (.ifCond .ne 7, 3) := by decide +kernel
theorem dX8_end_18 : decode cX8_end 18 = .ok (.iconst 1, 1) := by decide +kernel
theorem dX8_end_19 : decode cX8_end 19 = .ok (.goto 4, 3) := by decide +kernel
theorem dX8_end_22 : decode cX8_end 22 = .ok (.iconst 0, 1) := by decide +kernel
theorem dX8_end_23 : decode cX8_end 23 = .ok (.putfield 46, 3) := by decide +kernel
theorem dX8_end_26 : decode cX8_end 26 = .ok (.aload_n 0, 1) := by decide +kernel
theorem dX8_end_27 : decode cX8_end 27 = .ok (.iconst 1, 1) := by decide +kernel
theorem dX8_end_28 : decode cX8_end 28 = .ok (.putfield 50, 3) := by decide +kernel
theorem dX8_end_31 : decode cX8_end 31 = .ok (.return_, 1) := by decide +kernel
theorem dX8_resultOf_0 : decode cX8_resultOf 0 = .ok (.aload_n 0, 1) := by decide +kernel
theorem dX8_resultOf_1 : decode cX8_resultOf 1 = .ok (.getfield 50, 3) := by decide +kernel
theorem dX8_resultOf_4 : decode cX8_resultOf 4 = .ok (.ifCond .eq 7, 3) := by decide +kernel
theorem dX8_resultOf_7 : decode cX8_resultOf 7 = .ok (.iload_n 1, 1) := by decide +kernel
theorem dX8_resultOf_8 : decode cX8_resultOf 8 = .ok (.ifCond .ge 5, 3) := by decide +kernel
theorem dX8_resultOf_11 : decode cX8_resultOf 11 = .ok (.iconst (-1), 1) := by decide +kernel
theorem dX8_resultOf_12 : decode cX8_resultOf 12 = .ok (.ireturn, 1) := by decide +kernel
theorem dX8_resultOf_13 : decode cX8_resultOf 13 = .ok (.iload_n 1, 1) := by decide +kernel
theorem dX8_resultOf_14 : decode cX8_resultOf 14 = .ok (.ifCond .ne 8, 3) := by decide +kernel
theorem dX8_resultOf_17 : decode cX8_resultOf 17 = .ok (.aload_n 0, 1) := by decide +kernel
theorem dX8_resultOf_18 : decode cX8_resultOf 18 = .ok (.getfield 43, 3) := by decide +kernel
theorem dX8_resultOf_21 : decode cX8_resultOf 21 = .ok (.ireturn, 1) := by decide +kernel
theorem dX8_resultOf_22 : decode cX8_resultOf 22 = .ok (.iload_n 1, 1) := by decide +kernel
theorem dX8_resultOf_23 : decode cX8_resultOf 23 = .ok (.iconst 1, 1) := by decide +kernel
theorem dX8_resultOf_24 : decode cX8_resultOf 24 = .ok (.if_icmp .ne 16, 3) := by decide +kernel
theorem dX8_resultOf_27 : decode cX8_resultOf 27 = .ok (.aload_n 0, 1) := by decide +kernel
theorem dX8_resultOf_28 : decode cX8_resultOf 28 = .ok (.getfield 46, 3) := by decide +kernel
theorem dX8_resultOf_31 : decode cX8_resultOf 31 = .ok (.ifCond .eq 7, 3) := by decide +kernel
theorem dX8_resultOf_34 : decode cX8_resultOf 34 = .ok (.iconst 1, 1) := by decide +kernel
theorem dX8_resultOf_35 : decode cX8_resultOf 35 = .ok (.goto 4, 3) := by decide +kernel
theorem dX8_resultOf_38 : decode cX8_resultOf 38 = .ok (.iconst 0, 1) := by decide +kernel
theorem dX8_resultOf_39 : decode cX8_resultOf 39 = .ok (.ireturn, 1) := by decide +kernel
theorem dX8_resultOf_40 : decode cX8_resultOf 40 = .ok (.iload_n 1, 1) := by decide +kernel
theorem dX8_resultOf_41 : decode cX8_resultOf 41 = .ok (.iconst 2, 1) := by decide +kernel
theorem dX8_resultOf_42 : decode cX8_resultOf 42 = .ok (.idiv, 1) := by decide +kernel
theorem dX8_resultOf_43 : decode cX8_resultOf 43 = .ok (.iconst 1, 1) := by decide +kernel
theorem dX8_resultOf_44 : decode cX8_resultOf 44 = .ok (.isub, 1) := by decide +kernel
theorem dX8_resultOf_45 : decode cX8_resultOf 45 = .ok (.istore_n 2, 1) := by decide +kernel
theorem dX8_resultOf_46 : decode cX8_resultOf 46 = .ok (.iload_n 2, 1) := by decide +kernel
theorem dX8_resultOf_47 : decode cX8_resultOf 47 = .ok (.aload_n 0, 1) := by decide +kernel
theorem dX8_resultOf_48 : decode cX8_resultOf 48 = .ok (.getfield 62, 3) := by decide +kernel
theorem dX8_resultOf_51 : decode cX8_resultOf 51 = .ok (.if_icmp .lt 5, 3) := by decide +kernel
theorem dX8_resultOf_54 : decode cX8_resultOf 54 = .ok (.iconst (-1), 1) := by decide +kernel
theorem dX8_resultOf_55 : decode cX8_resultOf 55 = .ok (.ireturn, 1) := by decide +kernel
theorem dX8_resultOf_56 : decode cX8_resultOf 56 = .ok (.iload_n 1, 1) := by decide +kernel
theorem dX8_resultOf_57 : decode cX8_resultOf 57 = .ok (.iconst 2, 1) := by decide +kernel
theorem dX8_resultOf_58 : decode cX8_resultOf 58 = .ok (.irem, 1) := by decide +kernel
theorem dX8_resultOf_59 : decode cX8_resultOf 59 = .ok (.ifCond .ne 12, 3) := by decide +kernel
theorem dX8_resultOf_62 : decode cX8_resultOf 62 = .ok (.aload_n 0, 1) := by decide +kernel
theorem dX8_resultOf_63 : decode cX8_resultOf 63 = .ok (.getfield 56, 3) := by decide +kernel
theorem dX8_resultOf_66 : decode cX8_resultOf 66 = .ok (.iload_n 2, 1) := by decide +kernel
theorem dX8_resultOf_67 : decode cX8_resultOf 67 = .ok (.iaload, 1) := by decide +kernel
theorem dX8_resultOf_68 : decode cX8_resultOf 68 = .ok (.goto 9, 3) := by decide +kernel
theorem dX8_resultOf_71 : decode cX8_resultOf 71 = .ok (.aload_n 0, 1) := by decide +kernel
theorem dX8_resultOf_72 : decode cX8_resultOf 72 = .ok (.getfield 59, 3) := by decide +kernel
theorem dX8_resultOf_75 : decode cX8_resultOf 75 = .ok (.iload_n 2, 1) := by decide +kernel
theorem dX8_resultOf_76 : decode cX8_resultOf 76 = .ok (.iaload, 1) := by decide +kernel
theorem dX8_resultOf_77 : decode cX8_resultOf 77 = .ok (.ireturn, 1) := by decide +kernel
theorem dX9_init_0 : decode cX9_init 0 = .ok (.aload_n 0, 1) := by decide +kernel
theorem dX9_init_1 : decode cX9_init 1 = .ok (.invokespecial 3, 3) := by decide +kernel
theorem dX9_init_4 : decode cX9_init 4 = .ok (.aload_n 0, 1) := by decide +kernel
theorem dX9_init_5 : decode cX9_init 5 = .ok (.bipush 6, 2) := by decide +kernel
theorem dX9_init_7 : decode cX9_init 7 = .ok (.bipush 16, 2) := by decide +kernel
theorem dX9_init_9 : decode cX9_init 9 = .ok (.multianewarray 9 2, 4) := by decide +kernel
theorem dX9_init_13 : decode cX9_init 13 = .ok (.putfield 11, 3) := by decide +kernel
theorem dX9_init_16 : decode cX9_init 16 = .ok (.aload_n 0, 1) := by decide +kernel
theorem dX9_init_17 : decode cX9_init 17 = .ok (.bipush 6, 2) := by decide +kernel
theorem dX9_init_19 : decode cX9_init 19 = .ok (.bipush 16, 2) := by decide +kernel
theorem dX9_init_21 : decode cX9_init 21 = .ok (.multianewarray 9 2, 4) := by decide +kernel
theorem dX9_init_25 : decode cX9_init 25 = .ok (.putfield 16, 3) := by decide +kernel
theorem dX9_init_28 : decode cX9_init 28 = .ok (.aload_n 0, 1) := by decide +kernel
theorem dX9_init_29 : decode cX9_init 29 = .ok (.dconst 1, 1) := by decide +kernel
theorem dX9_init_30 : decode cX9_init 30 = .ok (.putfield 19, 3) := by decide +kernel
theorem dX9_init_33 : decode cX9_init 33 = .ok (.aload_n 0, 1) := by decide +kernel
theorem dX9_init_34 : decode cX9_init 34 = .ok (.dconst 1, 1) := by decide +kernel
theorem dX9_init_35 : decode cX9_init 35 = .ok (.putfield 23, 3) := by decide +kernel
theorem dX9_init_38 : decode cX9_init 38 = .ok (.aload_n 0, 1) := by decide +kernel
theorem dX9_init_39 : decode cX9_init 39 = .ok (.dconst 1, 1) := by decide +kernel
theorem dX9_init_40 : decode cX9_init 40 = .ok (.putfield 26, 3) := by decide +kernel
theorem dX9_init_43 : decode cX9_init 43 = .ok (.aload_n 0, 1) := by decide +kernel
theorem dX9_init_44 : decode cX9_init 44 = .ok (.iconst 3, 1) := by decide +kernel
theorem dX9_init_45 : decode cX9_init 45 = .ok (.bipush 16, 2) := by decide +kernel
theorem dX9_init_47 : decode cX9_init 47 = .ok (.multianewarray 29 2, 4) := by decide +kernel
theorem dX9_init_51 : decode cX9_init 51 = .ok (.putfield 31, 3) := by decide +kernel
theorem dX9_init_54 : decode cX9_init 54 = .ok (.aload_n 0, 1) := by decide +kernel
theorem dX9_init_55 : decode cX9_init 55 = .ok (.iconst 3, 1) := by decide +kernel
theorem dX9_init_56 : decode cX9_init 56 = .ok (.newarray .double, 2) := by decide +kernel
theorem dX9_init_58 : decode cX9_init 58 = .ok (.putfield 34, 3) := by decide +kernel
theorem dX9_init_61 : decode cX9_init 61 = .ok (.aload_n 0, 1) := by decide +kernel
theorem dX9_init_62 : decode cX9_init 62 = .ok (.iconst 3, 1) := by decide +kernel
theorem dX9_init_63 : decode cX9_init 63 = .ok (.newarray .double, 2) := by decide +kernel
theorem dX9_init_65 : decode cX9_init 65 = .ok (.putfield 38, 3) := by decide +kernel
theorem dX9_init_68 : decode cX9_init 68 = .ok (.aload_n 0, 1) := by decide +kernel
theorem dX9_init_69 : decode cX9_init 69 = .ok (.iconst 3, 1) := by decide +kernel
theorem dX9_init_70 : decode cX9_init 70 = .ok (.newarray .double, 2) := by decide +kernel
theorem dX9_init_72 : decode cX9_init 72 = .ok (.putfield 41, 3) := by decide +kernel
theorem dX9_init_75 : decode cX9_init 75 = .ok (.return_, 1) := by decide +kernel
theorem dX9_isOne_0 : decode cX9_isOne 0 = .ok (.iload_n 0, 1) := by decide +kernel
theorem dX9_isOne_1 : decode cX9_isOne 1 = .ok (.ifCond .lt 22, 3) := by decide +kernel
theorem dX9_isOne_4 : decode cX9_isOne 4 = .ok (.iload_n 0, 1) := by decide +kernel
theorem dX9_isOne_5 : decode cX9_isOne 5 = .ok (.bipush 6, 2) := by decide +kernel
theorem dX9_isOne_7 : decode cX9_isOne 7 = .ok (.if_icmp .ge 16, 3) := by decide +kernel
theorem dX9_isOne_10 : decode cX9_isOne 10 = .ok (.iload_n 1, 1) := by decide +kernel
theorem dX9_isOne_11 : decode cX9_isOne 11 = .ok (.ifCond .lt 12, 3) := by decide +kernel
theorem dX9_isOne_14 : decode cX9_isOne 14 = .ok (.iload_n 1, 1) := by decide +kernel
theorem dX9_isOne_15 : decode cX9_isOne 15 = .ok (.iconst 2, 1) := by decide +kernel
theorem dX9_isOne_16 : decode cX9_isOne 16 = .ok (.if_icmp .ge 7, 3) := by decide +kernel
theorem dX9_isOne_19 : decode cX9_isOne 19 = .ok (.iconst 1, 1) := by decide +kernel
theorem dX9_isOne_20 : decode cX9_isOne 20 = .ok (.goto 4, 3) := by decide +kernel
theorem dX9_isOne_23 : decode cX9_isOne 23 = .ok (.iconst 0, 1) := by decide +kernel
theorem dX9_isOne_24 : decode cX9_isOne 24 = .ok (.ireturn, 1) := by decide +kernel
set_option maxRecDepth 20000 in
theorem ggX9_setLight_X9_isWeight : GoodIn wsX9_setLight wsX9_isWeight := goodIn_r _ [5, 6] (by decide +kernel) (by decide +kernel)
set_option maxRecDepth 20000 in
theorem gX9_setLight_X9_isWeight : GoodIn wsX9_setLight (va_wsS RX9 44 yX9_isWeight wsX9_isWeight) := goodIn_app (goodIn_of _ (by decide +kernel)) ggX9_setLight_X9_isWeight
theorem dX9_setLight_0 : decode cX9_setLight 0 = .ok (.iload_n 1, 1) := by decide +kernel
theorem dX9_setLight_1 : decode cX9_setLight 1 = .ok (.ifCond .lt 17, 3) := by decide +kernel
theorem dX9_setLight_4 : decode cX9_setLight 4 = .ok (.iload_n 1, 1) := by decide +kernel
theorem dX9_setLight_5 : decode cX9_setLight 5 = .ok (.bipush 6, 2) := by decide +kernel
theorem dX9_setLight_7 : decode cX9_setLight 7 = .ok (.if_icmp .ge 11, 3) := by decide +kernel
theorem dX9_setLight_10 : decode cX9_setLight 10 = .ok (.iload_n 2, 1) := by decide +kernel
theorem dX9_setLight_11 : decode cX9_setLight 11 = .ok (.iload_n 3, 1) := by decide +kernel
theorem dX9_setLight_12 : decode cX9_setLight 12 = .ok (.invokestatic 44, 3) := by decide +kernel
theorem dX9_setLight_15 : decode cX9_setLight 15 = .ok (.ifCond .ne 5, 3) := by decide +kernel
theorem dX9_setLight_18 : decode cX9_setLight 18 = .ok (.iconst 0, 1) := by decide +kernel
theorem dX9_setLight_19 : decode cX9_setLight 19 = .ok (.ireturn, 1) := by decide +kernel
theorem dX9_setLight_20 : decode cX9_setLight 20 = .ok (.aload_n 0, 1) := by decide +kernel
theorem dX9_setLight_21 : decode cX9_setLight 21 = .ok (.getfield 11, 3) := by decide +kernel
theorem dX9_setLight_24 : decode cX9_setLight 24 = .ok (.iload_n 1, 1) := by decide +kernel
theorem dX9_setLight_25 : decode cX9_setLight 25 = .ok (.aaload, 1) := by decide +kernel
theorem dX9_setLight_26 : decode cX9_setLight 26 = .ok (.iload_n 2, 1) := by decide +kernel
theorem dX9_setLight_27 : decode cX9_setLight 27 = .ok (.iload_n 3, 1) := by decide +kernel
theorem dX9_setLight_28 : decode cX9_setLight 28 = .ok (.iastore, 1) := by decide +kernel
theorem dX9_setLight_29 : decode cX9_setLight 29 = .ok (.iconst 1, 1) := by decide +kernel
theorem dX9_setLight_30 : decode cX9_setLight 30 = .ok (.ireturn, 1) := by decide +kernel
set_option maxRecDepth 20000 in
theorem ggX9_setEye_X9_isWeight : GoodIn wsX9_setEye wsX9_isWeight := goodIn_r _ [5, 6] (by decide +kernel) (by decide +kernel)
set_option maxRecDepth 20000 in
theorem gX9_setEye_X9_isWeight : GoodIn wsX9_setEye (va_wsS RX9 44 yX9_isWeight wsX9_isWeight) := goodIn_app (goodIn_of _ (by decide +kernel)) ggX9_setEye_X9_isWeight
theorem dX9_setEye_0 : decode cX9_setEye 0 = .ok (.iload_n 1, 1) := by decide +kernel
theorem dX9_setEye_1 : decode cX9_setEye 1 = .ok (.ifCond .lt 26, 3) := by decide +kernel
theorem dX9_setEye_4 : decode cX9_setEye 4 = .ok (.iload_n 1, 1) := by decide +kernel
theorem dX9_setEye_5 : decode cX9_setEye 5 = .ok (.iconst 2, 1) := by decide +kernel
theorem dX9_setEye_6 : decode cX9_setEye 6 = .ok (.if_icmp .ge 21, 3) := by decide +kernel
theorem dX9_setEye_9 : decode cX9_setEye 9 = .ok (.iload_n 2, 1) := by decide +kernel
theorem dX9_setEye_10 : decode cX9_setEye 10 = .ok (.ifCond .lt 17, 3) := by decide +kernel
theorem dX9_setEye_13 : decode cX9_setEye 13 = .ok (.iload_n 2, 1) := by decide +kernel
theorem dX9_setEye_14 : decode cX9_setEye 14 = .ok (.iconst 3, 1) := by decide +kernel
theorem dX9_setEye_15 : decode cX9_setEye 15 = .ok (.if_icmp .ge 12, 3) := by decide +kernel
theorem dX9_setEye_18 : decode cX9_setEye 18 = .ok (.iload_n 3, 1) := by decide +kernel
theorem dX9_setEye_19 : decode cX9_setEye 19 = .ok (.iload 4, 2) := by decide +kernel
theorem dX9_setEye_21 : decode cX9_setEye 21 = .ok (.invokestatic 44, 3) := by decide +kernel
theorem dX9_setEye_24 : decode cX9_setEye 24 = .ok (.ifCond .ne 5, 3) := by decide +kernel
theorem dX9_setEye_27 : decode cX9_setEye 27 = .ok (.iconst 0, 1) := by decide +kernel
theorem dX9_setEye_28 : decode cX9_setEye 28 = .ok (.ireturn, 1) := by decide +kernel
theorem dX9_setEye_29 : decode cX9_setEye 29 = .ok (.aload_n 0, 1) := by decide +kernel
theorem dX9_setEye_30 : decode cX9_setEye 30 = .ok (.getfield 16, 3) := by decide +kernel
theorem dX9_setEye_33 : decode cX9_setEye 33 = .ok (.iload_n 1, 1) := by decide +kernel
theorem dX9_setEye_34 : decode cX9_setEye 34 = .ok (.iconst 3, 1) := by decide +kernel
theorem dX9_setEye_35 : decode cX9_setEye 35 = .ok (.imul, 1) := by decide +kernel
theorem dX9_setEye_36 : decode cX9_setEye 36 = .ok (.iload_n 2, 1) := by decide +kernel
theorem dX9_setEye_37 : decode cX9_setEye 37 = .ok (.iadd, 1) := by decide +kernel
theorem dX9_setEye_38 : decode cX9_setEye 38 = .ok (.aaload, 1) := by decide +kernel
theorem dX9_setEye_39 : decode cX9_setEye 39 = .ok (.iload_n 3, 1) := by decide +kernel
theorem dX9_setEye_40 : decode cX9_setEye 40 = .ok (.iload 4, 2) := by decide +kernel
theorem dX9_setEye_42 : decode cX9_setEye 42 = .ok (.iastore, 1) := by decide +kernel
theorem dX9_setEye_43 : decode cX9_setEye 43 = .ok (.iconst 1, 1) := by decide +kernel
theorem dX9_setEye_44 : decode cX9_setEye 44 = .ok (.ireturn, 1) := by decide +kernel
theorem dX9_isWeight_0 : decode cX9_isWeight 0 = .ok (.iload_n 0, 1) := by decide +kernel
theorem dX9_isWeight_1 : decode cX9_isWeight 1 = .ok (.ifCond .lt 23, 3) := by decide +kernel
theorem dX9_isWeight_4 : decode cX9_isWeight 4 = .ok (.iload_n 0, 1) := by decide +kernel
theorem dX9_isWeight_5 : decode cX9_isWeight 5 = .ok (.bipush 16, 2) := by decide +kernel
theorem dX9_isWeight_7 : decode cX9_isWeight 7 = .ok (.if_icmp .ge 17, 3) := by decide +kernel
theorem dX9_isWeight_10 : decode cX9_isWeight 10 = .ok (.iload_n 1, 1) := by decide +kernel
theorem dX9_isWeight_11 : decode cX9_isWeight 11 = .ok (.ifCond .lt 13, 3) := by decide +kernel
theorem dX9_isWeight_14 : decode cX9_isWeight 14 = .ok (.iload_n 1, 1) := by decide +kernel
theorem dX9_isWeight_15 : decode cX9_isWeight 15 = .ok (.ldc 48, 2) := by decide +kernel
theorem dX9_isWeight_17 : decode cX9_isWeight 17 = .ok (.if_icmp .gt 7, 3) := by decide +kernel
theorem dX9_isWeight_20 : decode cX9_isWeight 20 = .ok (.iconst 1, 1) := by decide +kernel
theorem dX9_isWeight_21 : decode cX9_isWeight 21 = .ok (.goto 4, 3) := by decide +kernel
theorem dX9_isWeight_24 : decode cX9_isWeight 24 = .ok (.iconst 0, 1) := by decide +kernel
theorem dX9_isWeight_25 : decode cX9_isWeight 25 = .ok (.ireturn, 1) := by decide +kernel
theorem dX9_setMeasure_0 : decode cX9_setMeasure 0 = .ok (.aload_n 0, 1) := by decide +kernel
theorem dX9_setMeasure_1 : decode cX9_setMeasure 1 = .ok (.iload_n 1, 1) := by decide +kernel
theorem dX9_setMeasure_2 : decode cX9_setMeasure 2 = .ok (.i2d, 1) := by decide +kernel
theorem dX9_setMeasure_3 : decode cX9_setMeasure 3 = .ok (.putfield 19, 3) := by decide +kernel
theorem dX9_setMeasure_6 : decode cX9_setMeasure 6 = .ok (.aload_n 0, 1) := by decide +kernel
theorem dX9_setMeasure_7 : decode cX9_setMeasure 7 = .ok (.iload_n 2, 1) := by decide +kernel
theorem dX9_setMeasure_8 : decode cX9_setMeasure 8 = .ok (.i2d, 1) := by decide +kernel
theorem dX9_setMeasure_9 : decode cX9_setMeasure 9 = .ok (.putfield 23, 3) := by decide +kernel
theorem dX9_setMeasure_12 : decode cX9_setMeasure 12 = .ok (.aload_n 0, 1) := by decide +kernel
theorem dX9_setMeasure_13 : decode cX9_setMeasure 13 = .ok (.iload_n 3, 1) := by decide +kernel
theorem dX9_setMeasure_14 : decode cX9_setMeasure 14 = .ok (.i2d, 1) := by decide +kernel
theorem dX9_setMeasure_15 : decode cX9_setMeasure 15 = .ok (.putfield 26, 3) := by decide +kernel
theorem dX9_setMeasure_18 : decode cX9_setMeasure 18 = .ok (.return_, 1) := by decide +kernel
theorem dX9_aim_0 : decode cX9_aim 0 = .ok (.iconst 0, 1) := by decide +kernel
theorem dX9_aim_1 : decode cX9_aim 1 = .ok (.istore_n 3, 1) := by decide +kernel
theorem dX9_aim_2 : decode cX9_aim 2 = .ok (.iload_n 3, 1) := by decide +kernel
theorem dX9_aim_3 : decode cX9_aim 3 = .ok (.iconst 3, 1) := by decide +kernel
theorem dX9_aim_4 : decode cX9_aim 4 = .ok (.if_icmp .ge 83, 3) := by decide +kernel
theorem dX9_aim_7 : decode cX9_aim 7 = .ok (.lconst 0, 1) := by decide +kernel
theorem dX9_aim_8 : decode cX9_aim 8 = .ok (.lstore 4, 2) := by decide +kernel
theorem dX9_aim_10 : decode cX9_aim 10 = .ok (.iconst 0, 1) := by decide +kernel
theorem dX9_aim_11 : decode cX9_aim 11 = .ok (.istore 6, 2) := by decide +kernel
theorem dX9_aim_13 : decode cX9_aim 13 = .ok (.iload 6, 2) := by decide +kernel
theorem dX9_aim_15 : decode cX9_aim 15 = .ok (.bipush 16, 2) := by decide +kernel
theorem dX9_aim_17 : decode cX9_aim 17 = .ok (.if_icmp .ge 55, 3) := by decide +kernel
theorem dX9_aim_20 : decode cX9_aim 20 = .ok (.aload_n 0, 1) := by decide +kernel
theorem dX9_aim_21 : decode cX9_aim 21 = .ok (.getfield 11, 3) := by decide +kernel
theorem dX9_aim_24 : decode cX9_aim 24 = .ok (.iload_n 1, 1) := by decide +kernel
theorem dX9_aim_25 : decode cX9_aim 25 = .ok (.aaload, 1) := by decide +kernel
theorem dX9_aim_26 : decode cX9_aim 26 = .ok (.iload 6, 2) := by decide +kernel
theorem dX9_aim_28 : decode cX9_aim 28 = .ok (.iaload, 1) := by decide +kernel
theorem dX9_aim_29 : decode cX9_aim 29 = .ok (.i2l, 1) := by decide +kernel
theorem dX9_aim_30 : decode cX9_aim 30 = .ok (.aload_n 0, 1) := by decide +kernel
theorem dX9_aim_31 : decode cX9_aim 31 = .ok (.getfield 16, 3) := by decide +kernel
theorem dX9_aim_34 : decode cX9_aim 34 = .ok (.iload_n 2, 1) := by decide +kernel
theorem dX9_aim_35 : decode cX9_aim 35 = .ok (.iconst 3, 1) := by decide +kernel
theorem dX9_aim_36 : decode cX9_aim 36 = .ok (.imul, 1) := by decide +kernel
theorem dX9_aim_37 : decode cX9_aim 37 = .ok (.iload_n 3, 1) := by decide +kernel
theorem dX9_aim_38 : decode cX9_aim 38 = .ok (.iadd, 1) := by decide +kernel
theorem dX9_aim_39 : decode cX9_aim 39 = .ok (.aaload, 1) := by decide +kernel
theorem dX9_aim_40 : decode cX9_aim 40 = .ok (.iload 6, 2) := by decide +kernel
theorem dX9_aim_42 : decode cX9_aim 42 = .ok (.iaload, 1) := by decide +kernel
theorem dX9_aim_43 : decode cX9_aim 43 = .ok (.i2l, 1) := by decide +kernel
theorem dX9_aim_44 : decode cX9_aim 44 = .ok (.lmul, 1) := by decide +kernel
theorem dX9_aim_45 : decode cX9_aim 45 = .ok (.lstore 7, 2) := by decide +kernel
theorem dX9_aim_47 : decode cX9_aim 47 = .ok (.aload_n 0, 1) := by decide +kernel
theorem dX9_aim_48 : decode cX9_aim 48 = .ok (.getfield 31, 3) := by decide +kernel
theorem dX9_aim_51 : decode cX9_aim 51 = .ok (.iload_n 3, 1) := by decide +kernel
theorem dX9_aim_52 : decode cX9_aim 52 = .ok (.aaload, 1) := by decide +kernel
theorem dX9_aim_53 : decode cX9_aim 53 = .ok (.iload 6, 2) := by decide +kernel
theorem dX9_aim_55 : decode cX9_aim 55 = .ok (.lload 7, 2) := by decide +kernel
theorem dX9_aim_57 : decode cX9_aim 57 = .ok (.l2d, 1) := by decide +kernel
theorem dX9_aim_58 : decode cX9_aim 58 = .ok (.dastore, 1) := by decide +kernel
theorem dX9_aim_59 : decode cX9_aim 59 = .ok (.lload 4, 2) := by decide +kernel
theorem dX9_aim_61 : decode cX9_aim 61 = .ok (.lload 7, 2) := by decide +kernel
theorem dX9_aim_63 : decode cX9_aim 63 = .ok (.ladd, 1) := by decide +kernel
theorem dX9_aim_64 : decode cX9_aim 64 = .ok (.lstore 4, 2) := by decide +kernel
theorem dX9_aim_66 : decode cX9_aim 66 = .ok (.iinc 6 1, 3) := by decide +kernel
theorem dX9_aim_69 : decode cX9_aim 69 = .ok (.goto (-56), 3) := by decide +kernel
theorem dX9_aim_72 : decode cX9_aim 72 = .ok (.aload_n 0, 1) := by decide +kernel
theorem dX9_aim_73 : decode cX9_aim 73 = .ok (.getfield 34, 3) := by decide +kernel
theorem dX9_aim_76 : decode cX9_aim 76 = .ok (.iload_n 3, 1) := by decide +kernel
theorem dX9_aim_77 : decode cX9_aim 77 = .ok (.lload 4, 2) := by decide +kernel
theorem dX9_aim_79 : decode cX9_aim 79 = .ok (.l2d, 1) := by decide +kernel
theorem dX9_aim_80 : decode cX9_aim 80 = .ok (.dastore, 1) := by decide +kernel
theorem dX9_aim_81 : decode cX9_aim 81 = .ok (.iinc 3 1, 3) := by decide +kernel
theorem dX9_aim_84 : decode cX9_aim 84 = .ok (.goto (-82), 3) := by decide +kernel
theorem dX9_aim_87 : decode cX9_aim 87 = .ok (.return_, 1) := by decide +kernel
set_option maxRecDepth 20000 in
theorem ggX9_setGoal_X9_coloursOf : GoodIn wsX9_setGoal wsX9_coloursOf := goodIn_r _ [10, 11, 12, 13, 14, 15, 16, 9, 17, 18, 19, 20, 21, 22, 23, 24, 25, 26, 27, 28, 29, 30, 31, 32, 33, 34, 35, 36, 37, 38, 39, 40, 41, 42] (by decide +kernel) (by decide +kernel)
set_option maxRecDepth 20000 in
theorem gX9_setGoal_X9_coloursOf : GoodIn wsX9_setGoal (wsV RX9 49 RX9 yX9_coloursOf wsX9_coloursOf) := goodIn_app (goodIn_of _ (by decide +kernel)) ggX9_setGoal_X9_coloursOf
theorem dX9_setGoal_0 : decode cX9_setGoal 0 = .ok (.aload_n 0, 1) := by decide +kernel
theorem dX9_setGoal_1 : decode cX9_setGoal 1 = .ok (.aload_n 1, 1) := by decide +kernel
theorem dX9_setGoal_2 : decode cX9_setGoal 2 = .ok (.invokevirtual 49, 3) := by decide +kernel
theorem dX9_setGoal_5 : decode cX9_setGoal 5 = .ok (.iconst 0, 1) := by decide +kernel
theorem dX9_setGoal_6 : decode cX9_setGoal 6 = .ok (.aload_n 0, 1) := by decide +kernel
theorem dX9_setGoal_7 : decode cX9_setGoal 7 = .ok (.getfield 38, 3) := by decide +kernel
theorem dX9_setGoal_10 : decode cX9_setGoal 10 = .ok (.iconst 0, 1) := by decide +kernel
theorem dX9_setGoal_11 : decode cX9_setGoal 11 = .ok (.iconst 3, 1) := by decide +kernel
theorem dX9_setGoal_12 : decode cX9_setGoal 12 = .ok (.invokestatic 53, 3) := by decide +kernel
theorem dX9_setGoal_15 : decode cX9_setGoal 15 = .ok (.return_, 1) := by decide +kernel
set_option maxRecDepth 20000 in
theorem ggX9_gapTo_X9_coloursOf : GoodIn wsX9_gapTo wsX9_coloursOf := goodIn_r _ [10, 2, 11, 12, 13, 14, 15, 9, 16, 17, 18, 19, 20, 21, 22, 23, 24, 25, 26, 27, 28, 29, 30, 31, 32, 33, 34, 35, 36, 37, 38, 39, 40, 41] (by decide +kernel) (by decide +kernel)
set_option maxRecDepth 20000 in
theorem gX9_gapTo_X9_coloursOf : GoodIn wsX9_gapTo (wsV RX9 49 RX9 yX9_coloursOf wsX9_coloursOf) := goodIn_app (goodIn_of _ (by decide +kernel)) ggX9_gapTo_X9_coloursOf
theorem dX9_gapTo_0 : decode cX9_gapTo 0 = .ok (.aload_n 0, 1) := by decide +kernel
theorem dX9_gapTo_1 : decode cX9_gapTo 1 = .ok (.aload_n 1, 1) := by decide +kernel
theorem dX9_gapTo_2 : decode cX9_gapTo 2 = .ok (.invokevirtual 49, 3) := by decide +kernel
theorem dX9_gapTo_5 : decode cX9_gapTo 5 = .ok (.pop, 1) := by decide +kernel
theorem dX9_gapTo_6 : decode cX9_gapTo 6 = .ok (.aload_n 0, 1) := by decide +kernel
theorem dX9_gapTo_7 : decode cX9_gapTo 7 = .ok (.getfield 38, 3) := by decide +kernel
theorem dX9_gapTo_10 : decode cX9_gapTo 10 = .ok (.iconst 0, 1) := by decide +kernel
theorem dX9_gapTo_11 : decode cX9_gapTo 11 = .ok (.daload, 1) := by decide +kernel
theorem dX9_gapTo_12 : decode cX9_gapTo 12 = .ok (.aload_n 0, 1) := by decide +kernel
theorem dX9_gapTo_13 : decode cX9_gapTo 13 = .ok (.getfield 41, 3) := by decide +kernel
theorem dX9_gapTo_16 : decode cX9_gapTo 16 = .ok (.iconst 0, 1) := by decide +kernel
theorem dX9_gapTo_17 : decode cX9_gapTo 17 = .ok (.daload, 1) := by decide +kernel
theorem dX9_gapTo_18 : decode cX9_gapTo 18 = .ok (.dsub, 1) := by decide +kernel
theorem dX9_gapTo_19 : decode cX9_gapTo 19 = .ok (.dstore_n 2, 1) := by decide +kernel
theorem dX9_gapTo_20 : decode cX9_gapTo 20 = .ok (.aload_n 0, 1) := by decide +kernel
theorem dX9_gapTo_21 : decode cX9_gapTo 21 = .ok (.getfield 38, 3) := by decide +kernel
theorem dX9_gapTo_24 : decode cX9_gapTo 24 = .ok (.iconst 1, 1) := by decide +kernel
theorem dX9_gapTo_25 : decode cX9_gapTo 25 = .ok (.daload, 1) := by decide +kernel
theorem dX9_gapTo_26 : decode cX9_gapTo 26 = .ok (.aload_n 0, 1) := by decide +kernel
theorem dX9_gapTo_27 : decode cX9_gapTo 27 = .ok (.getfield 41, 3) := by decide +kernel
theorem dX9_gapTo_30 : decode cX9_gapTo 30 = .ok (.iconst 1, 1) := by decide +kernel
theorem dX9_gapTo_31 : decode cX9_gapTo 31 = .ok (.daload, 1) := by decide +kernel
theorem dX9_gapTo_32 : decode cX9_gapTo 32 = .ok (.dsub, 1) := by decide +kernel
theorem dX9_gapTo_33 : decode cX9_gapTo 33 = .ok (.dstore 4, 2) := by decide +kernel
theorem dX9_gapTo_35 : decode cX9_gapTo 35 = .ok (.aload_n 0, 1) := by decide +kernel
theorem dX9_gapTo_36 : decode cX9_gapTo 36 = .ok (.getfield 38, 3) := by decide +kernel
theorem dX9_gapTo_39 : decode cX9_gapTo 39 = .ok (.iconst 2, 1) := by decide +kernel
theorem dX9_gapTo_40 : decode cX9_gapTo 40 = .ok (.daload, 1) := by decide +kernel
theorem dX9_gapTo_41 : decode cX9_gapTo 41 = .ok (.aload_n 0, 1) := by decide +kernel
theorem dX9_gapTo_42 : decode cX9_gapTo 42 = .ok (.getfield 41, 3) := by decide +kernel
theorem dX9_gapTo_45 : decode cX9_gapTo 45 = .ok (.iconst 2, 1) := by decide +kernel
theorem dX9_gapTo_46 : decode cX9_gapTo 46 = .ok (.daload, 1) := by decide +kernel
theorem dX9_gapTo_47 : decode cX9_gapTo 47 = .ok (.dsub, 1) := by decide +kernel
theorem dX9_gapTo_48 : decode cX9_gapTo 48 = .ok (.dstore 6, 2) := by decide +kernel
theorem dX9_gapTo_50 : decode cX9_gapTo 50 = .ok (.aload_n 0, 1) := by decide +kernel
theorem dX9_gapTo_51 : decode cX9_gapTo 51 = .ok (.getfield 19, 3) := by decide +kernel
theorem dX9_gapTo_54 : decode cX9_gapTo 54 = .ok (.dload_n 2, 1) := by decide +kernel
theorem dX9_gapTo_55 : decode cX9_gapTo 55 = .ok (.dmul, 1) := by decide +kernel
theorem dX9_gapTo_56 : decode cX9_gapTo 56 = .ok (.dload_n 2, 1) := by decide +kernel
theorem dX9_gapTo_57 : decode cX9_gapTo 57 = .ok (.dmul, 1) := by decide +kernel
theorem dX9_gapTo_58 : decode cX9_gapTo 58 = .ok (.aload_n 0, 1) := by decide +kernel
theorem dX9_gapTo_59 : decode cX9_gapTo 59 = .ok (.getfield 23, 3) := by decide +kernel
theorem dX9_gapTo_62 : decode cX9_gapTo 62 = .ok (.dload 4, 2) := by decide +kernel
theorem dX9_gapTo_64 : decode cX9_gapTo 64 = .ok (.dmul, 1) := by decide +kernel
theorem dX9_gapTo_65 : decode cX9_gapTo 65 = .ok (.dload 4, 2) := by decide +kernel
theorem dX9_gapTo_67 : decode cX9_gapTo 67 = .ok (.dmul, 1) := by decide +kernel
theorem dX9_gapTo_68 : decode cX9_gapTo 68 = .ok (.dadd, 1) := by decide +kernel
theorem dX9_gapTo_69 : decode cX9_gapTo 69 = .ok (.aload_n 0, 1) := by decide +kernel
theorem dX9_gapTo_70 : decode cX9_gapTo 70 = .ok (.getfield 26, 3) := by decide +kernel
theorem dX9_gapTo_73 : decode cX9_gapTo 73 = .ok (.dload 6, 2) := by decide +kernel
theorem dX9_gapTo_75 : decode cX9_gapTo 75 = .ok (.dmul, 1) := by decide +kernel
theorem dX9_gapTo_76 : decode cX9_gapTo 76 = .ok (.dload 6, 2) := by decide +kernel
theorem dX9_gapTo_78 : decode cX9_gapTo 78 = .ok (.dmul, 1) := by decide +kernel
theorem dX9_gapTo_79 : decode cX9_gapTo 79 = .ok (.dadd, 1) := by decide +kernel
theorem dX9_gapTo_80 : decode cX9_gapTo 80 = .ok (.dreturn, 1) := by decide +kernel
set_option maxRecDepth 20000 in
theorem ggX9_coloursOf_X9_rootOfRatio : GoodIn wsX9_coloursOf wsX9_rootOfRatio := goodIn_r _ [8, 9, 10, 11, 12, 13, 14, 15, 16, 17, 18, 19, 20, 21, 22, 23, 24, 25, 26, 27, 28, 29, 30, 31, 32, 33] (by decide +kernel) (by decide +kernel)
set_option maxRecDepth 20000 in
theorem gX9_coloursOf_X9_rootOfRatio : GoodIn wsX9_coloursOf (wsV RX9 59 RX9 yX9_rootOfRatio wsX9_rootOfRatio) := goodIn_app (goodIn_of _ (by decide +kernel)) ggX9_coloursOf_X9_rootOfRatio
theorem dX9_coloursOf_0 : decode cX9_coloursOf 0 = .ok (.aload_n 0, 1) := by decide +kernel
theorem dX9_coloursOf_1 : decode cX9_coloursOf 1 = .ok (.aload_n 1, 1) := by decide +kernel
theorem dX9_coloursOf_2 : decode cX9_coloursOf 2 = .ok (.iconst 0, 1) := by decide +kernel
theorem dX9_coloursOf_3 : decode cX9_coloursOf 3 = .ok (.invokevirtual 59, 3) := by decide +kernel
theorem dX9_coloursOf_6 : decode cX9_coloursOf 6 = .ok (.dstore_n 2, 1) := by decide +kernel
theorem dX9_coloursOf_7 : decode cX9_coloursOf 7 = .ok (.aload_n 0, 1) := by decide +kernel
theorem dX9_coloursOf_8 : decode cX9_coloursOf 8 = .ok (.aload_n 1, 1) := by decide +kernel
theorem dX9_coloursOf_9 : decode cX9_coloursOf 9 = .ok (.iconst 1, 1) := by decide +kernel
theorem dX9_coloursOf_10 : decode cX9_coloursOf 10 = .ok (.invokevirtual 59, 3) := by decide +kernel
theorem dX9_coloursOf_13 : decode cX9_coloursOf 13 = .ok (.dstore 4, 2) := by decide +kernel
theorem dX9_coloursOf_15 : decode cX9_coloursOf 15 = .ok (.aload_n 0, 1) := by decide +kernel
theorem dX9_coloursOf_16 : decode cX9_coloursOf 16 = .ok (.aload_n 1, 1) := by decide +kernel
theorem dX9_coloursOf_17 : decode cX9_coloursOf 17 = .ok (.iconst 2, 1) := by decide +kernel
theorem dX9_coloursOf_18 : decode cX9_coloursOf 18 = .ok (.invokevirtual 59, 3) := by decide +kernel
theorem dX9_coloursOf_21 : decode cX9_coloursOf 21 = .ok (.dstore 6, 2) := by decide +kernel
theorem dX9_coloursOf_23 : decode cX9_coloursOf 23 = .ok (.aload_n 0, 1) := by decide +kernel
theorem dX9_coloursOf_24 : decode cX9_coloursOf 24 = .ok (.getfield 41, 3) := by decide +kernel
theorem dX9_coloursOf_27 : decode cX9_coloursOf 27 = .ok (.iconst 0, 1) := by decide +kernel
theorem dX9_coloursOf_28 : decode cX9_coloursOf 28 = .ok (.ldc2_w 63, 3) := by decide +kernel
theorem dX9_coloursOf_31 : decode cX9_coloursOf 31 = .ok (.dload 4, 2) := by decide +kernel
theorem dX9_coloursOf_33 : decode cX9_coloursOf 33 = .ok (.dmul, 1) := by decide +kernel
theorem dX9_coloursOf_34 : decode cX9_coloursOf 34 = .ok (.dastore, 1) := by decide +kernel
theorem dX9_coloursOf_35 : decode cX9_coloursOf 35 = .ok (.aload_n 0, 1) := by decide +kernel
theorem dX9_coloursOf_36 : decode cX9_coloursOf 36 = .ok (.getfield 41, 3) := by decide +kernel
theorem dX9_coloursOf_39 : decode cX9_coloursOf 39 = .ok (.iconst 1, 1) := by decide +kernel
theorem dX9_coloursOf_40 : decode cX9_coloursOf 40 = .ok (.ldc2_w 65, 3) := by decide +kernel
theorem dX9_coloursOf_43 : decode cX9_coloursOf 43 = .ok (.dload_n 2, 1) := by decide +kernel
theorem dX9_coloursOf_44 : decode cX9_coloursOf 44 = .ok (.dload 4, 2) := by decide +kernel
theorem dX9_coloursOf_46 : decode cX9_coloursOf 46 = .ok (.dsub, 1) := by decide +kernel
theorem dX9_coloursOf_47 : decode cX9_coloursOf 47 = .ok (.dmul, 1) := by decide +kernel
theorem dX9_coloursOf_48 : decode cX9_coloursOf 48 = .ok (.dastore, 1) := by decide +kernel
theorem dX9_coloursOf_49 : decode cX9_coloursOf 49 = .ok (.aload_n 0, 1) := by decide +kernel
theorem dX9_coloursOf_50 : decode cX9_coloursOf 50 = .ok (.getfield 41, 3) := by decide +kernel
theorem dX9_coloursOf_53 : decode cX9_coloursOf 53 = .ok (.iconst 2, 1) := by decide +kernel
theorem dX9_coloursOf_54 : decode cX9_coloursOf 54 = .ok (.ldc2_w 63, 3) := by decide +kernel
theorem dX9_coloursOf_57 : decode cX9_coloursOf 57 = .ok (.dload 4, 2) := by decide +kernel
theorem dX9_coloursOf_59 : decode cX9_coloursOf 59 = .ok (.dload 6, 2) := by decide +kernel
theorem dX9_coloursOf_61 : decode cX9_coloursOf 61 = .ok (.dsub, 1) := by decide +kernel
theorem dX9_coloursOf_62 : decode cX9_coloursOf 62 = .ok (.dmul, 1) := by decide +kernel
theorem dX9_coloursOf_63 : decode cX9_coloursOf 63 = .ok (.dastore, 1) := by decide +kernel
theorem dX9_coloursOf_64 : decode cX9_coloursOf 64 = .ok (.aload_n 0, 1) := by decide +kernel
theorem dX9_coloursOf_65 : decode cX9_coloursOf 65 = .ok (.getfield 41, 3) := by decide +kernel
theorem dX9_coloursOf_68 : decode cX9_coloursOf 68 = .ok (.areturn, 1) := by decide +kernel
set_option maxRecDepth 20000 in
theorem ggX9_rootOfRatio_X7_rootOf : GoodIn wsX9_rootOfRatio wsX7_rootOf := goodIn_r _ [6, 7, 8, 9, 10, 11, 12, 13, 14, 15, 5, 16] (by decide +kernel) (by decide +kernel)
set_option maxRecDepth 20000 in
theorem gX9_rootOfRatio_X7_rootOf : GoodIn wsX9_rootOfRatio (va_wsS RX9 67 yX7_rootOf wsX7_rootOf) := goodIn_app (goodIn_of _ (by decide +kernel)) ggX9_rootOfRatio_X7_rootOf
theorem dX9_rootOfRatio_0 : decode cX9_rootOfRatio 0 = .ok (.aload_n 0, 1) := by decide +kernel
theorem dX9_rootOfRatio_1 : decode cX9_rootOfRatio 1 = .ok (.getfield 34, 3) := by decide +kernel
theorem dX9_rootOfRatio_4 : decode cX9_rootOfRatio 4 = .ok (.iload_n 2, 1) := by decide +kernel
theorem dX9_rootOfRatio_5 : decode cX9_rootOfRatio 5 = .ok (.daload, 1) := by decide +kernel
theorem dX9_rootOfRatio_6 : decode cX9_rootOfRatio 6 = .ok (.dconst 0, 1) := by decide +kernel
theorem dX9_rootOfRatio_7 : decode cX9_rootOfRatio 7 = .ok (.dcmp .l, 1) := by decide +kernel
theorem dX9_rootOfRatio_8 : decode cX9_rootOfRatio 8 = .ok (.ifCond .ne 5, 3) := by decide +kernel
theorem dX9_rootOfRatio_11 : decode cX9_rootOfRatio 11 = .ok (.dconst 0, 1) := by decide +kernel
theorem dX9_rootOfRatio_12 : decode cX9_rootOfRatio 12 = .ok (.dreturn, 1) := by decide +kernel
theorem dX9_rootOfRatio_13 : decode cX9_rootOfRatio 13 = .ok (.dconst 0, 1) := by decide +kernel
theorem dX9_rootOfRatio_14 : decode cX9_rootOfRatio 14 = .ok (.dstore_n 3, 1) := by decide +kernel
theorem dX9_rootOfRatio_15 : decode cX9_rootOfRatio 15 = .ok (.iconst 0, 1) := by decide +kernel
theorem dX9_rootOfRatio_16 : decode cX9_rootOfRatio 16 = .ok (.istore 5, 2) := by decide +kernel
theorem dX9_rootOfRatio_18 : decode cX9_rootOfRatio 18 = .ok (.iload 5, 2) := by decide +kernel
theorem dX9_rootOfRatio_20 : decode cX9_rootOfRatio 20 = .ok (.bipush 16, 2) := by decide +kernel
theorem dX9_rootOfRatio_22 : decode cX9_rootOfRatio 22 = .ok (.if_icmp .ge 27, 3) := by decide +kernel
theorem dX9_rootOfRatio_25 : decode cX9_rootOfRatio 25 = .ok (.dload_n 3, 1) := by decide +kernel
theorem dX9_rootOfRatio_26 : decode cX9_rootOfRatio 26 = .ok (.aload_n 1, 1) := by decide +kernel
theorem dX9_rootOfRatio_27 : decode cX9_rootOfRatio 27 = .ok (.iload 5, 2) := by decide +kernel
theorem dX9_rootOfRatio_29 : decode cX9_rootOfRatio 29 = .ok (.faload, 1) := by decide +kernel
theorem dX9_rootOfRatio_30 : decode cX9_rootOfRatio 30 = .ok (.f2d, 1) := by decide +kernel
theorem dX9_rootOfRatio_31 : decode cX9_rootOfRatio 31 = .ok (.aload_n 0, 1) := by decide +kernel
theorem dX9_rootOfRatio_32 : decode cX9_rootOfRatio 32 = .ok (.getfield 31, 3) := by decide +kernel
theorem dX9_rootOfRatio_35 : decode cX9_rootOfRatio 35 = .ok (.iload_n 2, 1) := by decide +kernel
theorem dX9_rootOfRatio_36 : decode cX9_rootOfRatio 36 = .ok (.aaload, 1) := by decide +kernel
theorem dX9_rootOfRatio_37 : decode cX9_rootOfRatio 37 = .ok (.iload 5, 2) := by decide +kernel
theorem dX9_rootOfRatio_39 : decode cX9_rootOfRatio 39 = .ok (.daload, 1) := by decide +kernel
theorem dX9_rootOfRatio_40 : decode cX9_rootOfRatio 40 = .ok (.dmul, 1) := by decide +kernel
theorem dX9_rootOfRatio_41 : decode cX9_rootOfRatio 41 = .ok (.dadd, 1) := by decide +kernel
theorem dX9_rootOfRatio_42 : decode cX9_rootOfRatio 42 = .ok (.dstore_n 3, 1) := by decide +kernel
theorem dX9_rootOfRatio_43 : decode cX9_rootOfRatio 43 = .ok (.iinc 5 1, 3) := by decide +kernel
theorem dX9_rootOfRatio_46 : decode cX9_rootOfRatio 46 = .ok (.goto (-28), 3) := by decide +kernel
theorem dX9_rootOfRatio_49 : decode cX9_rootOfRatio 49 = .ok (.dload_n 3, 1) := by decide +kernel
theorem dX9_rootOfRatio_50 : decode cX9_rootOfRatio 50 = .ok (.aload_n 0, 1) := by decide +kernel
theorem dX9_rootOfRatio_51 : decode cX9_rootOfRatio 51 = .ok (.getfield 34, 3) := by decide +kernel
theorem dX9_rootOfRatio_54 : decode cX9_rootOfRatio 54 = .ok (.iload_n 2, 1) := by decide +kernel
theorem dX9_rootOfRatio_55 : decode cX9_rootOfRatio 55 = .ok (.daload, 1) := by decide +kernel
theorem dX9_rootOfRatio_56 : decode cX9_rootOfRatio 56 = .ok (.ddiv, 1) := by decide +kernel
theorem dX9_rootOfRatio_57 : decode cX9_rootOfRatio 57 = .ok (.invokestatic 67, 3) := by decide +kernel
theorem dX9_rootOfRatio_60 : decode cX9_rootOfRatio 60 = .ok (.dreturn, 1) := by decide +kernel
theorem dX10_init_0 : decode cX10_init 0 = .ok (.aload_n 0, 1) := by decide +kernel
theorem dX10_init_1 : decode cX10_init 1 = .ok (.invokespecial 3, 3) := by decide +kernel
theorem dX10_init_4 : decode cX10_init 4 = .ok (.aload_n 0, 1) := by decide +kernel
theorem dX10_init_5 : decode cX10_init 5 = .ok (.iconst 0, 1) := by decide +kernel
theorem dX10_init_6 : decode cX10_init 6 = .ok (.putfield 9, 3) := by decide +kernel
theorem dX10_init_9 : decode cX10_init 9 = .ok (.aload_n 0, 1) := by decide +kernel
theorem dX10_init_10 : decode cX10_init 10 = .ok (.iconst 0, 1) := by decide +kernel
theorem dX10_init_11 : decode cX10_init 11 = .ok (.putfield 15, 3) := by decide +kernel
theorem dX10_init_14 : decode cX10_init 14 = .ok (.aload_n 0, 1) := by decide +kernel
theorem dX10_init_15 : decode cX10_init 15 = .ok (.iconst 0, 1) := by decide +kernel
theorem dX10_init_16 : decode cX10_init 16 = .ok (.putfield 18, 3) := by decide +kernel
theorem dX10_init_19 : decode cX10_init 19 = .ok (.aload_n 0, 1) := by decide +kernel
theorem dX10_init_20 : decode cX10_init 20 = .ok (.iconst 3, 1) := by decide +kernel
theorem dX10_init_21 : decode cX10_init 21 = .ok (.newarray .double, 2) := by decide +kernel
theorem dX10_init_23 : decode cX10_init 23 = .ok (.putfield 21, 3) := by decide +kernel
theorem dX10_init_26 : decode cX10_init 26 = .ok (.aload_n 0, 1) := by decide +kernel
theorem dX10_init_27 : decode cX10_init 27 = .ok (.iconst 3, 1) := by decide +kernel
theorem dX10_init_28 : decode cX10_init 28 = .ok (.newarray .double, 2) := by decide +kernel
theorem dX10_init_30 : decode cX10_init 30 = .ok (.putfield 25, 3) := by decide +kernel
theorem dX10_init_33 : decode cX10_init 33 = .ok (.return_, 1) := by decide +kernel
theorem dX10_begin_0 : decode cX10_begin 0 = .ok (.aload_n 0, 1) := by decide +kernel
theorem dX10_begin_1 : decode cX10_begin 1 = .ok (.iload_n 1, 1) := by decide +kernel
theorem dX10_begin_2 : decode cX10_begin 2 = .ok (.putfield 9, 3) := by decide +kernel
theorem dX10_begin_5 : decode cX10_begin 5 = .ok (.aload_n 0, 1) := by decide +kernel
theorem dX10_begin_6 : decode cX10_begin 6 = .ok (.iload_n 2, 1) := by decide +kernel
theorem dX10_begin_7 : decode cX10_begin 7 = .ok (.putfield 15, 3) := by decide +kernel
theorem dX10_begin_10 : decode cX10_begin 10 = .ok (.aload_n 0, 1) := by decide +kernel
theorem dX10_begin_11 : decode cX10_begin 11 = .ok (.iload_n 3, 1) := by decide +kernel
theorem dX10_begin_12 : decode cX10_begin 12 = .ok (.putfield 18, 3) := by decide +kernel
theorem dX10_begin_15 : decode cX10_begin 15 = .ok (.aload 4, 2) := by decide +kernel
theorem dX10_begin_17 : decode cX10_begin 17 = .ok (.iconst 0, 1) := by decide +kernel
theorem dX10_begin_18 : decode cX10_begin 18 = .ok (.aload_n 0, 1) := by decide +kernel
theorem dX10_begin_19 : decode cX10_begin 19 = .ok (.getfield 21, 3) := by decide +kernel
theorem dX10_begin_22 : decode cX10_begin 22 = .ok (.iconst 0, 1) := by decide +kernel
theorem dX10_begin_23 : decode cX10_begin 23 = .ok (.iconst 3, 1) := by decide +kernel
theorem dX10_begin_24 : decode cX10_begin 24 = .ok (.invokestatic 28, 3) := by decide +kernel
theorem dX10_begin_27 : decode cX10_begin 27 = .ok (.return_, 1) := by decide +kernel
theorem dX10_setSizes_0 : decode cX10_setSizes 0 = .ok (.aload_n 0, 1) := by decide +kernel
theorem dX10_setSizes_1 : decode cX10_setSizes 1 = .ok (.getfield 25, 3) := by decide +kernel
theorem dX10_setSizes_4 : decode cX10_setSizes 4 = .ok (.iconst 0, 1) := by decide +kernel
theorem dX10_setSizes_5 : decode cX10_setSizes 5 = .ok (.iload_n 1, 1) := by decide +kernel
theorem dX10_setSizes_6 : decode cX10_setSizes 6 = .ok (.i2d, 1) := by decide +kernel
theorem dX10_setSizes_7 : decode cX10_setSizes 7 = .ok (.ldc2_w 34, 3) := by decide +kernel
theorem dX10_setSizes_10 : decode cX10_setSizes 10 = .ok (.ddiv, 1) := by decide +kernel
theorem dX10_setSizes_11 : decode cX10_setSizes 11 = .ok (.dastore, 1) := by decide +kernel
theorem dX10_setSizes_12 : decode cX10_setSizes 12 = .ok (.aload_n 0, 1) := by decide +kernel
theorem dX10_setSizes_13 : decode cX10_setSizes 13 = .ok (.getfield 25, 3) := by decide +kernel
theorem dX10_setSizes_16 : decode cX10_setSizes 16 = .ok (.iconst 1, 1) := by decide +kernel
theorem dX10_setSizes_17 : decode cX10_setSizes 17 = .ok (.iload_n 2, 1) := by decide +kernel
theorem dX10_setSizes_18 : decode cX10_setSizes 18 = .ok (.i2d, 1) := by decide +kernel
theorem dX10_setSizes_19 : decode cX10_setSizes 19 = .ok (.ldc2_w 34, 3) := by decide +kernel
theorem dX10_setSizes_22 : decode cX10_setSizes 22 = .ok (.ddiv, 1) := by decide +kernel
theorem dX10_setSizes_23 : decode cX10_setSizes 23 = .ok (.dastore, 1) := by decide +kernel
theorem dX10_setSizes_24 : decode cX10_setSizes 24 = .ok (.aload_n 0, 1) := by decide +kernel
theorem dX10_setSizes_25 : decode cX10_setSizes 25 = .ok (.getfield 25, 3) := by decide +kernel
theorem dX10_setSizes_28 : decode cX10_setSizes 28 = .ok (.iconst 2, 1) := by decide +kernel
theorem dX10_setSizes_29 : decode cX10_setSizes 29 = .ok (.iload_n 3, 1) := by decide +kernel
theorem dX10_setSizes_30 : decode cX10_setSizes 30 = .ok (.i2d, 1) := by decide +kernel
theorem dX10_setSizes_31 : decode cX10_setSizes 31 = .ok (.ldc2_w 34, 3) := by decide +kernel
theorem dX10_setSizes_34 : decode cX10_setSizes 34 = .ok (.ddiv, 1) := by decide +kernel
theorem dX10_setSizes_35 : decode cX10_setSizes 35 = .ok (.dastore, 1) := by decide +kernel
theorem dX10_setSizes_36 : decode cX10_setSizes 36 = .ok (.return_, 1) := by decide +kernel
set_option maxRecDepth 20000 in
theorem ggX10_sideOf_X10_sideOfBox : GoodIn wsX10_sideOf wsX10_sideOfBox := goodIn_r _ [6, 7, 8, 13, 14, 15, 16, 17] (by decide +kernel) (by decide +kernel)
set_option maxRecDepth 20000 in
theorem gX10_sideOf_X10_sideOfBox : GoodIn wsX10_sideOf (wsV RX10 36 RX10 yX10_sideOfBox wsX10_sideOfBox) := goodIn_app (goodIn_of _ (by decide +kernel)) ggX10_sideOf_X10_sideOfBox
set_option maxRecDepth 20000 in
theorem ggX10_sideOf_X10_sideOfEllipsoid : GoodIn wsX10_sideOf wsX10_sideOfEllipsoid := goodIn_r _ [12, 7, 8, 13, 14, 15, 16, 17] (by decide +kernel) (by decide +kernel)
set_option maxRecDepth 20000 in
theorem gX10_sideOf_X10_sideOfEllipsoid : GoodIn wsX10_sideOf (wsV RX10 40 RX10 yX10_sideOfEllipsoid wsX10_sideOfEllipsoid) := goodIn_app (goodIn_of _ (by decide +kernel)) ggX10_sideOf_X10_sideOfEllipsoid
theorem dX10_sideOf_0 : decode cX10_sideOf 0 = .ok (.aload_n 0, 1) := by decide +kernel
theorem dX10_sideOf_1 : decode cX10_sideOf 1 = .ok (.getfield 9, 3) := by decide +kernel
theorem dX10_sideOf_4 : decode cX10_sideOf 4 = .ok (.ifCond .ne 11, 3) := by decide +kernel
theorem dX10_sideOf_7 : decode cX10_sideOf 7 = .ok (.aload_n 0, 1) := by decide +kernel
theorem dX10_sideOf_8 : decode cX10_sideOf 8 = .ok (.aload_n 1, 1) := by decide +kernel
theorem dX10_sideOf_9 : decode cX10_sideOf 9 = .ok (.invokevirtual 36, 3) := by decide +kernel
theorem dX10_sideOf_12 : decode cX10_sideOf 12 = .ok (.goto 8, 3) := by decide +kernel
theorem dX10_sideOf_15 : decode cX10_sideOf 15 = .ok (.aload_n 0, 1) := by decide +kernel
theorem dX10_sideOf_16 : decode cX10_sideOf 16 = .ok (.aload_n 1, 1) := by decide +kernel
theorem dX10_sideOf_17 : decode cX10_sideOf 17 = .ok (.invokevirtual 40, 3) := by decide +kernel
theorem dX10_sideOf_20 : decode cX10_sideOf 20 = .ok (.ireturn, 1) := by decide +kernel
theorem dX10_sideOfBox_0 : decode cX10_sideOfBox 0 = .ok (.iconst 1, 1) := by decide +kernel
theorem dX10_sideOfBox_1 : decode cX10_sideOfBox 1 = .ok (.istore_n 2, 1) := by decide +kernel
theorem dX10_sideOfBox_2 : decode cX10_sideOfBox 2 = .ok (.iconst 0, 1) := by decide +kernel
theorem dX10_sideOfBox_3 : decode cX10_sideOfBox 3 = .ok (.istore_n 3, 1) := by decide +kernel
theorem dX10_sideOfBox_4 : decode cX10_sideOfBox 4 = .ok (.iload_n 3, 1) := by decide +kernel
theorem dX10_sideOfBox_5 : decode cX10_sideOfBox 5 = .ok (.iconst 3, 1) := by decide +kernel
theorem dX10_sideOfBox_6 : decode cX10_sideOfBox 6 = .ok (.if_icmp .ge 75, 3) := by decide +kernel
theorem dX10_sideOfBox_9 : decode cX10_sideOfBox 9 = .ok (.aload_n 1, 1) := by decide +kernel
theorem dX10_sideOfBox_10 : decode cX10_sideOfBox 10 = .ok (.iload_n 3, 1) := by decide +kernel
theorem dX10_sideOfBox_11 : decode cX10_sideOfBox 11 = .ok (.daload, 1) := by decide +kernel
theorem dX10_sideOfBox_12 : decode cX10_sideOfBox 12 = .ok (.aload_n 0, 1) := by decide +kernel
theorem dX10_sideOfBox_13 : decode cX10_sideOfBox 13 = .ok (.getfield 21, 3) := by decide +kernel
theorem dX10_sideOfBox_16 : decode cX10_sideOfBox 16 = .ok (.iload_n 3, 1) := by decide +kernel
theorem dX10_sideOfBox_17 : decode cX10_sideOfBox 17 = .ok (.daload, 1) := by decide +kernel
theorem dX10_sideOfBox_18 : decode cX10_sideOfBox 18 = .ok (.dsub, 1) := by decide +kernel
theorem dX10_sideOfBox_19 : decode cX10_sideOfBox 19 = .ok (.dstore 4, 2) := by decide +kernel
theorem dX10_sideOfBox_21 : decode cX10_sideOfBox 21 = .ok (.dload 4, 2) := by decide +kernel
theorem dX10_sideOfBox_23 : decode cX10_sideOfBox 23 = .ok (.aload_n 0, 1) := by decide +kernel
theorem dX10_sideOfBox_24 : decode cX10_sideOfBox 24 = .ok (.getfield 25, 3) := by decide +kernel
theorem dX10_sideOfBox_27 : decode cX10_sideOfBox 27 = .ok (.iload_n 3, 1) := by decide +kernel
theorem dX10_sideOfBox_28 : decode cX10_sideOfBox 28 = .ok (.daload, 1) := by decide +kernel
theorem dX10_sideOfBox_29 : decode cX10_sideOfBox 29 = .ok (.dcmp .l, 1) := by decide +kernel
theorem dX10_sideOfBox_30 : decode cX10_sideOfBox 30 = .ok (.ifCond .gt 16, 3) := by decide +kernel
theorem dX10_sideOfBox_33 : decode cX10_sideOfBox 33 = .ok (.dload 4, 2) := by decide +kernel
theorem dX10_sideOfBox_35 : decode cX10_sideOfBox 35 = .ok (.aload_n 0, 1) := by decide +kernel
theorem dX10_sideOfBox_36 : decode cX10_sideOfBox 36 = .ok (.getfield 25, 3) := by decide +kernel
theorem dX10_sideOfBox_39 : decode cX10_sideOfBox 39 = .ok (.iload_n 3, 1) := by decide +kernel
theorem dX10_sideOfBox_40 : decode cX10_sideOfBox 40 = .ok (.daload, 1) := by decide +kernel
theorem dX10_sideOfBox_41 : decode cX10_sideOfBox 41 = .ok (.dneg, 1) := by decide +kernel
theorem dX10_sideOfBox_42 : decode cX10_sideOfBox 42 = .ok (.dcmp .g, 1) := by decide +kernel
theorem dX10_sideOfBox_43 : decode cX10_sideOfBox 43 = .ok (.ifCond .ge 5, 3) := by decide +kernel
theorem dX10_sideOfBox_46 : decode cX10_sideOfBox 46 = .ok (.iconst 0, 1) := by decide +kernel
theorem dX10_sideOfBox_47 : decode cX10_sideOfBox 47 = .ok (.ireturn, 1) := by decide +kernel
theorem dX10_sideOfBox_48 : decode cX10_sideOfBox 48 = .ok (.dload 4, 2) := by decide +kernel
theorem dX10_sideOfBox_50 : decode cX10_sideOfBox 50 = .ok (.aload_n 0, 1) := by decide +kernel
theorem dX10_sideOfBox_51 : decode cX10_sideOfBox 51 = .ok (.getfield 25, 3) := by decide +kernel
theorem dX10_sideOfBox_54 : decode cX10_sideOfBox 54 = .ok (.iload_n 3, 1) := by decide +kernel
theorem dX10_sideOfBox_55 : decode cX10_sideOfBox 55 = .ok (.daload, 1) := by decide +kernel
theorem dX10_sideOfBox_56 : decode cX10_sideOfBox 56 = .ok (.dcmp .l, 1) := by decide +kernel
theorem dX10_sideOfBox_57 : decode cX10_sideOfBox 57 = .ok (.ifCond .eq 16, 3) := by decide +kernel
theorem dX10_sideOfBox_60 : decode cX10_sideOfBox 60 = .ok (.dload 4, 2) := by decide +kernel
theorem dX10_sideOfBox_62 : decode cX10_sideOfBox 62 = .ok (.aload_n 0, 1) := by decide +kernel
theorem dX10_sideOfBox_63 : decode cX10_sideOfBox 63 = .ok (.getfield 25, 3) := by decide +kernel
theorem dX10_sideOfBox_66 : decode cX10_sideOfBox 66 = .ok (.iload_n 3, 1) := by decide +kernel
theorem dX10_sideOfBox_67 : decode cX10_sideOfBox 67 = .ok (.daload, 1) := by decide +kernel
theorem dX10_sideOfBox_68 : decode cX10_sideOfBox 68 = .ok (.dneg, 1) := by decide +kernel
theorem dX10_sideOfBox_69 : decode cX10_sideOfBox 69 = .ok (.dcmp .l, 1) := by decide +kernel
theorem dX10_sideOfBox_70 : decode cX10_sideOfBox 70 = .ok (.ifCond .ne 5, 3) := by decide +kernel
theorem dX10_sideOfBox_73 : decode cX10_sideOfBox 73 = .ok (.iconst 2, 1) := by decide +kernel
theorem dX10_sideOfBox_74 : decode cX10_sideOfBox 74 = .ok (.istore_n 2, 1) := by decide +kernel
theorem dX10_sideOfBox_75 : decode cX10_sideOfBox 75 = .ok (.iinc 3 1, 3) := by decide +kernel
theorem dX10_sideOfBox_78 : decode cX10_sideOfBox 78 = .ok (.goto (-74), 3) := by decide +kernel
theorem dX10_sideOfBox_81 : decode cX10_sideOfBox 81 = .ok (.iload_n 2, 1) := by decide +kernel
theorem dX10_sideOfBox_82 : decode cX10_sideOfBox 82 = .ok (.ireturn, 1) := by decide +kernel
theorem dX10_sideOfEllipsoid_0 : decode cX10_sideOfEllipsoid 0 = .ok (.dconst 0, 1) := by decide +kernel
theorem dX10_sideOfEllipsoid_1 : decode cX10_sideOfEllipsoid 1 = .ok (.dstore_n 2, 1) := by decide +kernel
theorem dX10_sideOfEllipsoid_2 : decode cX10_sideOfEllipsoid 2 = .ok (.iconst 0, 1) := by decide +kernel
theorem dX10_sideOfEllipsoid_3 : decode cX10_sideOfEllipsoid 3 = .ok (.istore 4, 2) := by decide +kernel
theorem dX10_sideOfEllipsoid_5 : decode cX10_sideOfEllipsoid 5 = .ok (.iload 4, 2) := by decide +kernel
theorem dX10_sideOfEllipsoid_7 : decode cX10_sideOfEllipsoid 7 = .ok (.iconst 3, 1) := by decide +kernel
theorem dX10_sideOfEllipsoid_8 : decode cX10_sideOfEllipsoid 8 = .ok (.if_icmp .ge 47, 3) := by decide +kernel
theorem dX10_sideOfEllipsoid_11 : decode cX10_sideOfEllipsoid 11 = .ok (.aload_n 1, 1) := by decide +kernel
theorem dX10_sideOfEllipsoid_12 : decode cX10_sideOfEllipsoid 12 = .ok (.iload 4, 2) := by decide +kernel
theorem dX10_sideOfEllipsoid_14 : decode cX10_sideOfEllipsoid 14 = .ok (.daload, 1) := by decide +kernel
theorem dX10_sideOfEllipsoid_15 : decode cX10_sideOfEllipsoid 15 = .ok (.aload_n 0, 1) := by decide +kernel
theorem dX10_sideOfEllipsoid_16 : decode cX10_sideOfEllipsoid 16 = .ok (.getfield 21, 3) := by decide +kernel
theorem dX10_sideOfEllipsoid_19 : decode cX10_sideOfEllipsoid 19 = .ok (.iload 4, 2) := by decide +kernel
theorem dX10_sideOfEllipsoid_21 : decode cX10_sideOfEllipsoid 21 = .ok (.daload, 1) := by decide +kernel
theorem dX10_sideOfEllipsoid_22 : decode cX10_sideOfEllipsoid 22 = .ok (.dsub, 1) := by decide +kernel
theorem dX10_sideOfEllipsoid_23 : decode cX10_sideOfEllipsoid 23 = .ok (.dstore 5, 2) := by decide +kernel
theorem dX10_sideOfEllipsoid_25 : decode cX10_sideOfEllipsoid 25 = .ok (.dload_n 2, 1) := by decide +kernel
theorem dX10_sideOfEllipsoid_26 : decode cX10_sideOfEllipsoid 26 = .ok (.dload 5, 2) := by decide +kernel
theorem dX10_sideOfEllipsoid_28 : decode cX10_sideOfEllipsoid 28 = .ok (.dload 5, 2) := by decide +kernel
theorem dX10_sideOfEllipsoid_30 : decode cX10_sideOfEllipsoid 30 = .ok (.dmul, 1) := by decide +kernel
theorem dX10_sideOfEllipsoid_31 : decode cX10_sideOfEllipsoid 31 = .ok (.aload_n 0, 1) := by decide +kernel
theorem dX10_sideOfEllipsoid_32 : decode cX10_sideOfEllipsoid 32 = .ok (.getfield 25, 3) := by decide +kernel
theorem dX10_sideOfEllipsoid_35 : decode cX10_sideOfEllipsoid 35 = .ok (.iload 4, 2) := by decide +kernel
theorem dX10_sideOfEllipsoid_37 : decode cX10_sideOfEllipsoid 37 = .ok (.daload, 1) := by decide +kernel
theorem dX10_sideOfEllipsoid_38 : decode cX10_sideOfEllipsoid 38 = .ok (.aload_n 0, 1) := by decide +kernel
theorem dX10_sideOfEllipsoid_39 : decode cX10_sideOfEllipsoid 39 = .ok (.getfield 25, 3) := by decide +kernel
theorem dX10_sideOfEllipsoid_42 : decode cX10_sideOfEllipsoid 42 = .ok (.iload 4, 2) := by decide +kernel
theorem dX10_sideOfEllipsoid_44 : decode cX10_sideOfEllipsoid 44 = .ok (.daload, 1) := by decide +kernel
theorem dX10_sideOfEllipsoid_45 : decode cX10_sideOfEllipsoid 45 = .ok (.dmul, 1) := by decide +kernel
theorem dX10_sideOfEllipsoid_46 : decode cX10_sideOfEllipsoid 46 = .ok (.ddiv, 1) := by decide +kernel
theorem dX10_sideOfEllipsoid_47 : decode cX10_sideOfEllipsoid 47 = .ok (.dadd, 1) := by decide +kernel
theorem dX10_sideOfEllipsoid_48 : decode cX10_sideOfEllipsoid 48 = .ok (.dstore_n 2, 1) := by decide +kernel
theorem dX10_sideOfEllipsoid_49 : decode cX10_sideOfEllipsoid 49 = .ok (.iinc 4 1, 3) := by decide +kernel
theorem dX10_sideOfEllipsoid_52 : decode cX10_sideOfEllipsoid 52 = .ok (.goto (-47), 3) := by decide +kernel
theorem dX10_sideOfEllipsoid_55 : decode cX10_sideOfEllipsoid 55 = .ok (.dload_n 2, 1) := by decide +kernel
theorem dX10_sideOfEllipsoid_56 : decode cX10_sideOfEllipsoid 56 = .ok (.dconst 1, 1) := by decide +kernel
theorem dX10_sideOfEllipsoid_57 : decode cX10_sideOfEllipsoid 57 = .ok (.dcmp .g, 1) := by decide +kernel
theorem dX10_sideOfEllipsoid_58 : decode cX10_sideOfEllipsoid 58 = .ok (.ifCond .ge 7, 3) := by decide +kernel
theorem dX10_sideOfEllipsoid_61 : decode cX10_sideOfEllipsoid 61 = .ok (.iconst 1, 1) := by decide +kernel
theorem dX10_sideOfEllipsoid_62 : decode cX10_sideOfEllipsoid 62 = .ok (.goto 14, 3) := by decide +kernel
theorem dX10_sideOfEllipsoid_65 : decode cX10_sideOfEllipsoid 65 = .ok (.dload_n 2, 1) := by decide +kernel
theorem dX10_sideOfEllipsoid_66 : decode cX10_sideOfEllipsoid 66 = .ok (.dconst 1, 1) := by decide +kernel
theorem dX10_sideOfEllipsoid_67 : decode cX10_sideOfEllipsoid 67 = .ok (.dcmp .l, 1) := by decide +kernel
theorem dX10_sideOfEllipsoid_68 : decode cX10_sideOfEllipsoid 68 = .ok (.ifCond .ne 7, 3) := by decide +kernel
theorem dX10_sideOfEllipsoid_71 : decode cX10_sideOfEllipsoid 71 = .ok (.iconst 2, 1) := by decide +kernel
theorem dX10_sideOfEllipsoid_72 : decode cX10_sideOfEllipsoid 72 = .ok (.goto 4, 3) := by decide +kernel
theorem dX10_sideOfEllipsoid_75 : decode cX10_sideOfEllipsoid 75 = .ok (.iconst 0, 1) := by decide +kernel
theorem dX10_sideOfEllipsoid_76 : decode cX10_sideOfEllipsoid 76 = .ok (.ireturn, 1) := by decide +kernel
set_option maxRecDepth 20000 in
theorem ggX11_init_X9_init : GoodIn wsX11_init wsX9_init := goodIn_r _ [60, 61, 2, 3, 62, 8, 63, 64, 65, 66, 67, 68, 29, 69, 70, 71, 72, 175, 176, 177, 178, 179, 180, 181, 182, 183] (by decide +kernel) (by decide +kernel)
set_option maxRecDepth 20000 in
theorem gX11_init_X9_init_n70 : GoodIn wsX11_init (wsX9_init) := ggX11_init_X9_init
set_option maxRecDepth 20000 in
theorem ggX11_init_X6_init : GoodIn wsX11_init wsX6_init := goodIn_r _ [74, 75, 2, 3, 29, 76, 4, 77, 184, 185] (by decide +kernel) (by decide +kernel)
set_option maxRecDepth 20000 in
theorem gX11_init_X6_init_n81 : GoodIn wsX11_init (wsX6_init) := ggX11_init_X6_init
set_option maxRecDepth 20000 in
theorem ggX11_init_X8_init : GoodIn wsX11_init wsX8_init := goodIn_r _ [79, 80, 2, 3, 8, 81, 82, 83, 84, 85, 86, 87, 88, 89, 90, 91, 92, 93, 94, 95, 96, 97, 98, 99, 186, 187, 188, 189, 190, 191, 192, 193, 194, 195, 196, 197, 198, 199, 200, 201, 202, 203, 204] (by decide +kernel) (by decide +kernel)
set_option maxRecDepth 20000 in
theorem gX11_init_X8_init_n88 : GoodIn wsX11_init (wsX8_init) := ggX11_init_X8_init
set_option maxRecDepth 20000 in
theorem ggX11_init_X5_init : GoodIn wsX11_init wsX5_init := goodIn_r _ [101, 102, 2, 3, 8, 103, 104, 105, 205, 206, 207] (by decide +kernel) (by decide +kernel)
set_option maxRecDepth 20000 in
theorem gX11_init_X5_init_n98 : GoodIn wsX11_init (wsX5_init) := ggX11_init_X5_init
set_option maxRecDepth 20000 in
theorem ggX11_init_X0_init : GoodIn wsX11_init wsX0_init := goodIn_r _ [107, 108, 2, 3, 109, 8, 110, 111, 4, 112, 113, 114, 208, 209, 210, 211] (by decide +kernel) (by decide +kernel)
set_option maxRecDepth 20000 in
theorem gX11_init_X0_init_n105 : GoodIn wsX11_init (wsX0_init) := ggX11_init_X0_init
set_option maxRecDepth 20000 in
theorem ggX11_init_X2_init : GoodIn wsX11_init wsX2_init := goodIn_r _ [116, 117, 2, 3, 4, 118, 119, 212, 213] (by decide +kernel) (by decide +kernel)
set_option maxRecDepth 20000 in
theorem gX11_init_X2_init_n113 : GoodIn wsX11_init (wsX2_init) := ggX11_init_X2_init
set_option maxRecDepth 20000 in
theorem ggX11_init_X3_init : GoodIn wsX11_init wsX3_init := goodIn_r _ [121, 122, 2, 3, 123, 124, 125, 8, 126, 127, 29, 128, 214, 215, 216, 217, 218] (by decide +kernel) (by decide +kernel)
set_option maxRecDepth 20000 in
theorem gX11_init_X3_init_n114 : GoodIn wsX11_init (wsX3_init) := ggX11_init_X3_init
set_option maxRecDepth 20000 in
theorem ggX11_init_X10_init : GoodIn wsX11_init wsX10_init := goodIn_r _ [130, 131, 2, 3, 132, 133, 134, 29, 135, 136, 219, 220, 221, 222, 223] (by decide +kernel) (by decide +kernel)
set_option maxRecDepth 20000 in
theorem gX11_init_X10_init_n115 : GoodIn wsX11_init (wsX10_init) := ggX11_init_X10_init
set_option maxRecDepth 20000 in
theorem ggX11_init_X4_init : GoodIn wsX11_init wsX4_init := goodIn_r _ [138, 139, 2, 3, 140, 141, 142, 143, 144, 224, 225, 226, 227, 228] (by decide +kernel) (by decide +kernel)
set_option maxRecDepth 20000 in
theorem gX11_init_X4_init_n116 : GoodIn wsX11_init (wsX4_init) := ggX11_init_X4_init
set_option maxRecDepth 20000 in
theorem ggX11_init_X1_init : GoodIn wsX11_init wsX1_init := goodIn_r _ [146, 147, 2, 3, 148, 149, 150, 8, 151, 152, 153, 4, 154, 229, 230, 231, 232, 233, 234, 235] (by decide +kernel) (by decide +kernel)
set_option maxRecDepth 20000 in
theorem gX11_init_X1_init_n117 : GoodIn wsX11_init (wsX1_init) := ggX11_init_X1_init
theorem dX11_init_0 : decode cX11_init 0 = .ok (.aload_n 0, 1) := by decide +kernel
theorem dX11_init_1 : decode cX11_init 1 = .ok (.invokespecial 1, 3) := by decide +kernel
theorem dX11_init_4 : decode cX11_init 4 = .ok (.aload_n 0, 1) := by decide +kernel
theorem dX11_init_5 : decode cX11_init 5 = .ok (.bipush 16, 2) := by decide +kernel
theorem dX11_init_7 : decode cX11_init 7 = .ok (.newarray .float, 2) := by decide +kernel
theorem dX11_init_9 : decode cX11_init 9 = .ok (.putfield 9, 3) := by decide +kernel
theorem dX11_init_12 : decode cX11_init 12 = .ok (.aload_n 0, 1) := by decide +kernel
theorem dX11_init_13 : decode cX11_init 13 = .ok (.bipush 16, 2) := by decide +kernel
theorem dX11_init_15 : decode cX11_init 15 = .ok (.newarray .float, 2) := by decide +kernel
theorem dX11_init_17 : decode cX11_init 17 = .ok (.putfield 13, 3) := by decide +kernel
theorem dX11_init_20 : decode cX11_init 20 = .ok (.aload_n 0, 1) := by decide +kernel
theorem dX11_init_21 : decode cX11_init 21 = .ok (.iconst 0, 1) := by decide +kernel
theorem dX11_init_22 : decode cX11_init 22 = .ok (.putfield 16, 3) := by decide +kernel
theorem dX11_init_25 : decode cX11_init 25 = .ok (.aload_n 0, 1) := by decide +kernel
theorem dX11_init_26 : decode cX11_init 26 = .ok (.bipush 6, 2) := by decide +kernel
theorem dX11_init_28 : decode cX11_init 28 = .ok (.newarray .int, 2) := by decide +kernel
theorem dX11_init_30 : decode cX11_init 30 = .ok (.putfield 20, 3) := by decide +kernel
theorem dX11_init_33 : decode cX11_init 33 = .ok (.aload_n 0, 1) := by decide +kernel
theorem dX11_init_34 : decode cX11_init 34 = .ok (.bipush 40, 2) := by decide +kernel
theorem dX11_init_36 : decode cX11_init 36 = .ok (.anewarray 24, 3) := by decide +kernel
theorem dX11_init_39 : decode cX11_init 39 = .ok (.putfield 26, 3) := by decide +kernel
theorem dX11_init_42 : decode cX11_init 42 = .ok (.aload_n 0, 1) := by decide +kernel
theorem dX11_init_43 : decode cX11_init 43 = .ok (.bipush 8, 2) := by decide +kernel
theorem dX11_init_45 : decode cX11_init 45 = .ok (.bipush 16, 2) := by decide +kernel
theorem dX11_init_47 : decode cX11_init 47 = .ok (.multianewarray 30 2, 4) := by decide +kernel
theorem dX11_init_51 : decode cX11_init 51 = .ok (.putfield 32, 3) := by decide +kernel
theorem dX11_init_54 : decode cX11_init 54 = .ok (.aload_n 0, 1) := by decide +kernel
theorem dX11_init_55 : decode cX11_init 55 = .ok (.bipush 12, 2) := by decide +kernel
theorem dX11_init_57 : decode cX11_init 57 = .ok (.anewarray 35, 3) := by decide +kernel
theorem dX11_init_60 : decode cX11_init 60 = .ok (.putfield 37, 3) := by decide +kernel
theorem dX11_init_63 : decode cX11_init 63 = .ok (.aload_n 0, 1) := by decide +kernel
theorem dX11_init_64 : decode cX11_init 64 = .ok (.bipush 12, 2) := by decide +kernel
theorem dX11_init_66 : decode cX11_init 66 = .ok (.anewarray 41, 3) := by decide +kernel
theorem dX11_init_69 : decode cX11_init 69 = .ok (.putfield 43, 3) := by decide +kernel
theorem dX11_init_72 : decode cX11_init 72 = .ok (.aload_n 0, 1) := by decide +kernel
theorem dX11_init_73 : decode cX11_init 73 = .ok (.bipush 20, 2) := by decide +kernel
theorem dX11_init_75 : decode cX11_init 75 = .ok (.anewarray 47, 3) := by decide +kernel
theorem dX11_init_78 : decode cX11_init 78 = .ok (.putfield 49, 3) := by decide +kernel
theorem dX11_init_81 : decode cX11_init 81 = .ok (.aload_n 0, 1) := by decide +kernel
theorem dX11_init_82 : decode cX11_init 82 = .ok (.bipush 12, 2) := by decide +kernel
theorem dX11_init_84 : decode cX11_init 84 = .ok (.anewarray 53, 3) := by decide +kernel
theorem dX11_init_87 : decode cX11_init 87 = .ok (.putfield 55, 3) := by decide +kernel
theorem dX11_init_90 : decode cX11_init 90 = .ok (.aload_n 0, 1) := by decide +kernel
theorem dX11_init_91 : decode cX11_init 91 = .ok (.bipush 6, 2) := by decide +kernel
theorem dX11_init_93 : decode cX11_init 93 = .ok (.iconst 3, 1) := by decide +kernel
theorem dX11_init_94 : decode cX11_init 94 = .ok (.multianewarray 59 2, 4) := by decide +kernel
theorem dX11_init_98 : decode cX11_init 98 = .ok (.putfield 61, 3) := by decide +kernel
theorem dX11_init_101 : decode cX11_init 101 = .ok (.aload_n 0, 1) := by decide +kernel
theorem dX11_init_102 : decode cX11_init 102 = .ok (.iconst 0, 1) := by decide +kernel
theorem dX11_init_103 : decode cX11_init 103 = .ok (.putfield 64, 3) := by decide +kernel
theorem dX11_init_106 : decode cX11_init 106 = .ok (.aload_n 0, 1) := by decide +kernel
theorem dX11_init_107 : decode cX11_init 107 = .ok (.new 68, 3) := by decide +kernel
theorem dX11_init_110 : decode cX11_init 110 = .ok (.dup, 1) := by decide +kernel
theorem dX11_init_111 : decode cX11_init 111 = .ok (.invokespecial 70, 3) := by decide +kernel
theorem dX11_init_114 : decode cX11_init 114 = .ok (.putfield 71, 3) := by decide +kernel
theorem dX11_init_117 : decode cX11_init 117 = .ok (.aload_n 0, 1) := by decide +kernel
theorem dX11_init_118 : decode cX11_init 118 = .ok (.bipush 40, 2) := by decide +kernel
theorem dX11_init_120 : decode cX11_init 120 = .ok (.newarray .double, 2) := by decide +kernel
theorem dX11_init_122 : decode cX11_init 122 = .ok (.putfield 75, 3) := by decide +kernel
theorem dX11_init_125 : decode cX11_init 125 = .ok (.aload_n 0, 1) := by decide +kernel
theorem dX11_init_126 : decode cX11_init 126 = .ok (.new 79, 3) := by decide +kernel
theorem dX11_init_129 : decode cX11_init 129 = .ok (.dup, 1) := by decide +kernel
theorem dX11_init_130 : decode cX11_init 130 = .ok (.invokespecial 81, 3) := by decide +kernel
theorem dX11_init_133 : decode cX11_init 133 = .ok (.putfield 82, 3) := by decide +kernel
theorem dX11_init_136 : decode cX11_init 136 = .ok (.aload_n 0, 1) := by decide +kernel
theorem dX11_init_137 : decode cX11_init 137 = .ok (.new 86, 3) := by decide +kernel
theorem dX11_init_140 : decode cX11_init 140 = .ok (.dup, 1) := by decide +kernel
theorem dX11_init_141 : decode cX11_init 141 = .ok (.invokespecial 88, 3) := by decide +kernel
theorem dX11_init_144 : decode cX11_init 144 = .ok (.putfield 89, 3) := by decide +kernel
theorem dX11_init_147 : decode cX11_init 147 = .ok (.aload_n 0, 1) := by decide +kernel
theorem dX11_init_148 : decode cX11_init 148 = .ok (.new 86, 3) := by decide +kernel
theorem dX11_init_151 : decode cX11_init 151 = .ok (.dup, 1) := by decide +kernel
theorem dX11_init_152 : decode cX11_init 152 = .ok (.invokespecial 88, 3) := by decide +kernel
theorem dX11_init_155 : decode cX11_init 155 = .ok (.putfield 93, 3) := by decide +kernel
theorem dX11_init_158 : decode cX11_init 158 = .ok (.aload_n 0, 1) := by decide +kernel
theorem dX11_init_159 : decode cX11_init 159 = .ok (.new 96, 3) := by decide +kernel
theorem dX11_init_162 : decode cX11_init 162 = .ok (.dup, 1) := by decide +kernel
theorem dX11_init_163 : decode cX11_init 163 = .ok (.invokespecial 98, 3) := by decide +kernel
theorem dX11_init_166 : decode cX11_init 166 = .ok (.putfield 99, 3) := by decide +kernel
theorem dX11_init_169 : decode cX11_init 169 = .ok (.aload_n 0, 1) := by decide +kernel
theorem dX11_init_170 : decode cX11_init 170 = .ok (.new 103, 3) := by decide +kernel
theorem dX11_init_173 : decode cX11_init 173 = .ok (.dup, 1) := by decide +kernel
theorem dX11_init_174 : decode cX11_init 174 = .ok (.invokespecial 105, 3) := by decide +kernel
theorem dX11_init_177 : decode cX11_init 177 = .ok (.putfield 106, 3) := by decide +kernel
theorem dX11_init_180 : decode cX11_init 180 = .ok (.aload_n 0, 1) := by decide +kernel
theorem dX11_init_181 : decode cX11_init 181 = .ok (.iconst 0, 1) := by decide +kernel
theorem dX11_init_182 : decode cX11_init 182 = .ok (.putfield 110, 3) := by decide +kernel
theorem dX11_init_185 : decode cX11_init 185 = .ok (.iconst 0, 1) := by decide +kernel
theorem dX11_init_186 : decode cX11_init 186 = .ok (.istore_n 1, 1) := by decide +kernel
theorem dX11_init_187 : decode cX11_init 187 = .ok (.iload_n 1, 1) := by decide +kernel
theorem dX11_init_188 : decode cX11_init 188 = .ok (.bipush 40, 2) := by decide +kernel
theorem dX11_init_190 : decode cX11_init 190 = .ok (.if_icmp .ge 22, 3) := by decide +kernel
theorem dX11_init_193 : decode cX11_init 193 = .ok (.aload_n 0, 1) := by decide +kernel
theorem dX11_init_194 : decode cX11_init 194 = .ok (.getfield 26, 3) := by decide +kernel
theorem dX11_init_197 : decode cX11_init 197 = .ok (.iload_n 1, 1) := by decide +kernel
theorem dX11_init_198 : decode cX11_init 198 = .ok (.new 24, 3) := by decide +kernel
theorem dX11_init_201 : decode cX11_init 201 = .ok (.dup, 1) := by decide +kernel
theorem dX11_init_202 : decode cX11_init 202 = .ok (.invokespecial 113, 3) := by decide +kernel
theorem dX11_init_205 : decode cX11_init 205 = .ok (.aastore, 1) := by decide +kernel
theorem dX11_init_206 : decode cX11_init 206 = .ok (.iinc 1 1, 3) := by decide +kernel
theorem dX11_init_209 : decode cX11_init 209 = .ok (.goto (-22), 3) := by decide +kernel
theorem dX11_init_212 : decode cX11_init 212 = .ok (.iconst 0, 1) := by decide +kernel
theorem dX11_init_213 : decode cX11_init 213 = .ok (.istore_n 1, 1) := by decide +kernel
theorem dX11_init_214 : decode cX11_init 214 = .ok (.iload_n 1, 1) := by decide +kernel
theorem dX11_init_215 : decode cX11_init 215 = .ok (.bipush 12, 2) := by decide +kernel
theorem dX11_init_217 : decode cX11_init 217 = .ok (.if_icmp .ge 22, 3) := by decide +kernel
theorem dX11_init_220 : decode cX11_init 220 = .ok (.aload_n 0, 1) := by decide +kernel
theorem dX11_init_221 : decode cX11_init 221 = .ok (.getfield 37, 3) := by decide +kernel
theorem dX11_init_224 : decode cX11_init 224 = .ok (.iload_n 1, 1) := by decide +kernel
theorem dX11_init_225 : decode cX11_init 225 = .ok (.new 35, 3) := by decide +kernel
theorem dX11_init_228 : decode cX11_init 228 = .ok (.dup, 1) := by decide +kernel
theorem dX11_init_229 : decode cX11_init 229 = .ok (.invokespecial 114, 3) := by decide +kernel
theorem dX11_init_232 : decode cX11_init 232 = .ok (.aastore, 1) := by decide +kernel
theorem dX11_init_233 : decode cX11_init 233 = .ok (.iinc 1 1, 3) := by decide +kernel
theorem dX11_init_236 : decode cX11_init 236 = .ok (.goto (-22), 3) := by decide +kernel
theorem dX11_init_239 : decode cX11_init 239 = .ok (.iconst 0, 1) := by decide +kernel
theorem dX11_init_240 : decode cX11_init 240 = .ok (.istore_n 1, 1) := by decide +kernel
theorem dX11_init_241 : decode cX11_init 241 = .ok (.iload_n 1, 1) := by decide +kernel
theorem dX11_init_242 : decode cX11_init 242 = .ok (.bipush 12, 2) := by decide +kernel
theorem dX11_init_244 : decode cX11_init 244 = .ok (.if_icmp .ge 22, 3) := by decide +kernel
theorem dX11_init_247 : decode cX11_init 247 = .ok (.aload_n 0, 1) := by decide +kernel
theorem dX11_init_248 : decode cX11_init 248 = .ok (.getfield 43, 3) := by decide +kernel
theorem dX11_init_251 : decode cX11_init 251 = .ok (.iload_n 1, 1) := by decide +kernel
theorem dX11_init_252 : decode cX11_init 252 = .ok (.new 41, 3) := by decide +kernel
theorem dX11_init_255 : decode cX11_init 255 = .ok (.dup, 1) := by decide +kernel
theorem dX11_init_256 : decode cX11_init 256 = .ok (.invokespecial 115, 3) := by decide +kernel
theorem dX11_init_259 : decode cX11_init 259 = .ok (.aastore, 1) := by decide +kernel
theorem dX11_init_260 : decode cX11_init 260 = .ok (.iinc 1 1, 3) := by decide +kernel
theorem dX11_init_263 : decode cX11_init 263 = .ok (.goto (-22), 3) := by decide +kernel
theorem dX11_init_266 : decode cX11_init 266 = .ok (.iconst 0, 1) := by decide +kernel
theorem dX11_init_267 : decode cX11_init 267 = .ok (.istore_n 1, 1) := by decide +kernel
theorem dX11_init_268 : decode cX11_init 268 = .ok (.iload_n 1, 1) := by decide +kernel
theorem dX11_init_269 : decode cX11_init 269 = .ok (.bipush 20, 2) := by decide +kernel
theorem dX11_init_271 : decode cX11_init 271 = .ok (.if_icmp .ge 22, 3) := by decide +kernel
theorem dX11_init_274 : decode cX11_init 274 = .ok (.aload_n 0, 1) := by decide +kernel
theorem dX11_init_275 : decode cX11_init 275 = .ok (.getfield 49, 3) := by decide +kernel
theorem dX11_init_278 : decode cX11_init 278 = .ok (.iload_n 1, 1) := by decide +kernel
theorem dX11_init_279 : decode cX11_init 279 = .ok (.new 47, 3) := by decide +kernel
theorem dX11_init_282 : decode cX11_init 282 = .ok (.dup, 1) := by decide +kernel
theorem dX11_init_283 : decode cX11_init 283 = .ok (.invokespecial 116, 3) := by decide +kernel
theorem dX11_init_286 : decode cX11_init 286 = .ok (.aastore, 1) := by decide +kernel
theorem dX11_init_287 : decode cX11_init 287 = .ok (.iinc 1 1, 3) := by decide +kernel
theorem dX11_init_290 : decode cX11_init 290 = .ok (.goto (-22), 3) := by decide +kernel
theorem dX11_init_293 : decode cX11_init 293 = .ok (.iconst 0, 1) := by decide +kernel
theorem dX11_init_294 : decode cX11_init 294 = .ok (.istore_n 1, 1) := by decide +kernel
theorem dX11_init_295 : decode cX11_init 295 = .ok (.iload_n 1, 1) := by decide +kernel
theorem dX11_init_296 : decode cX11_init 296 = .ok (.bipush 12, 2) := by decide +kernel
theorem dX11_init_298 : decode cX11_init 298 = .ok (.if_icmp .ge 22, 3) := by decide +kernel
theorem dX11_init_301 : decode cX11_init 301 = .ok (.aload_n 0, 1) := by decide +kernel
theorem dX11_init_302 : decode cX11_init 302 = .ok (.getfield 55, 3) := by decide +kernel
theorem dX11_init_305 : decode cX11_init 305 = .ok (.iload_n 1, 1) := by decide +kernel
theorem dX11_init_306 : decode cX11_init 306 = .ok (.new 53, 3) := by decide +kernel
theorem dX11_init_309 : decode cX11_init 309 = .ok (.dup, 1) := by decide +kernel
theorem dX11_init_310 : decode cX11_init 310 = .ok (.invokespecial 117, 3) := by decide +kernel
theorem dX11_init_313 : decode cX11_init 313 = .ok (.aastore, 1) := by decide +kernel
