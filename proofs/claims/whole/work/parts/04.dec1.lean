theorem dX6_tokenLength_25 : decode cX6_tokenLength 25 = .ok (.iload_n 2, 1) := by decide +kernel
theorem dX6_tokenLength_26 : decode cX6_tokenLength 26 = .ok (.iload_n 1, 1) := by decide +kernel
theorem dX6_tokenLength_27 : decode cX6_tokenLength 27 = .ok (.isub, 1) := by decide +kernel
theorem dX6_tokenLength_28 : decode cX6_tokenLength 28 = .ok (.invokestatic 48, 3) := by decide +kernel
theorem dX6_tokenLength_31 : decode cX6_tokenLength 31 = .ok (.ireturn, 1) := by decide +kernel
set_option maxRecDepth 20000 in
theorem ggX6_take_X6_takeSign : GoodIn wsX6_take wsX6_takeSign := goodIn_r _ [6, 7, 1, 135, 136, 137, 138, 139] (by decide +kernel) (by decide +kernel)
set_option maxRecDepth 20000 in
theorem gX6_take_X6_takeSign : GoodIn wsX6_take (wsV RX6 53 RX6 yX6_takeSign wsX6_takeSign) := goodIn_app (goodIn_of _ (by decide +kernel)) ggX6_take_X6_takeSign
set_option maxRecDepth 20000 in
theorem ggX6_take_X6_takeNight : GoodIn wsX6_take wsX6_takeNight := goodIn_r _ [11, 12, 13, 1, 14, 15, 16, 5, 17, 18, 19, 20, 21, 7, 22, 23, 24, 25, 135, 136, 137, 138, 139, 140, 141, 142, 143, 144] (by decide +kernel) (by decide +kernel)
set_option maxRecDepth 20000 in
theorem gX6_take_X6_takeNight : GoodIn wsX6_take (wsV RX6 57 RX6 yX6_takeNight wsX6_takeNight) := goodIn_app (goodIn_of _ (by decide +kernel)) ggX6_take_X6_takeNight
set_option maxRecDepth 20000 in
theorem ggX6_take_X6_takeSort : GoodIn wsX6_take wsX6_takeSort := goodIn_r _ [29, 7, 12, 30, 31, 1, 32, 33, 34, 35, 36, 37, 38, 39, 40, 41, 42, 43, 44, 45, 46, 47, 48, 49, 50, 51, 52, 53, 54, 55, 56, 57, 58, 59, 60, 61, 62, 63, 64, 65, 66, 67, 68, 69, 70, 71, 72, 73, 74, 75, 76, 77, 78, 79, 80, 81, 82, 83, 84, 85, 86, 87, 88, 89, 90, 91, 92, 93, 94, 95, 96, 97, 98, 99, 100, 101, 102, 103, 104, 105, 106, 107, 108, 109, 110, 111, 112, 113, 114, 115, 116, 117, 118, 119, 120, 135, 136, 137, 138, 139, 140, 141, 142, 143, 144] (by decide +kernel) (by decide +kernel)
set_option maxRecDepth 20000 in
theorem gX6_take_X6_takeSort : GoodIn wsX6_take (wsV RX6 60 RX6 yX6_takeSort wsX6_takeSort) := goodIn_app (goodIn_of _ (by decide +kernel)) ggX6_take_X6_takeSort
set_option maxRecDepth 20000 in
theorem ggX6_take_X6_takeThing : GoodIn wsX6_take wsX6_takeThing := goodIn_r _ [124, 12, 125, 126, 30, 1, 14, 15, 16, 5, 17, 18, 19, 20, 21, 7, 22, 23, 24, 25, 127, 128, 129, 130, 131, 132, 133, 134, 135, 136, 137, 138, 139, 140, 141, 142, 143, 144] (by decide +kernel) (by decide +kernel)
set_option maxRecDepth 20000 in
theorem gX6_take_X6_takeThing : GoodIn wsX6_take (wsV RX6 63 RX6 yX6_takeThing wsX6_takeThing) := goodIn_app (goodIn_of _ (by decide +kernel)) ggX6_take_X6_takeThing
theorem dX6_take_0 : decode cX6_take 0 = .ok (.aload_n 0, 1) := by decide +kernel
theorem dX6_take_1 : decode cX6_take 1 = .ok (.getfield 27, 3) := by decide +kernel
theorem dX6_take_4 : decode cX6_take 4 = .ok (.tableswitch 63 0 3 #[32, 41, 48, 57], 32) := by decide +kernel
theorem dX6_take_36 : decode cX6_take 36 = .ok (.aload_n 0, 1) := by decide +kernel
theorem dX6_take_37 : decode cX6_take 37 = .ok (.iload_n 1, 1) := by decide +kernel
theorem dX6_take_38 : decode cX6_take 38 = .ok (.bipush 114, 2) := by decide +kernel
theorem dX6_take_40 : decode cX6_take 40 = .ok (.iconst 1, 1) := by decide +kernel
theorem dX6_take_41 : decode cX6_take 41 = .ok (.invokevirtual 53, 3) := by decide +kernel
theorem dX6_take_44 : decode cX6_take 44 = .ok (.ireturn, 1) := by decide +kernel
theorem dX6_take_45 : decode cX6_take 45 = .ok (.aload_n 0, 1) := by decide +kernel
theorem dX6_take_46 : decode cX6_take 46 = .ok (.iload_n 1, 1) := by decide +kernel
theorem dX6_take_47 : decode cX6_take 47 = .ok (.iload_n 2, 1) := by decide +kernel
theorem dX6_take_48 : decode cX6_take 48 = .ok (.invokevirtual 57, 3) := by decide +kernel
theorem dX6_take_51 : decode cX6_take 51 = .ok (.ireturn, 1) := by decide +kernel
theorem dX6_take_52 : decode cX6_take 52 = .ok (.aload_n 0, 1) := by decide +kernel
theorem dX6_take_53 : decode cX6_take 53 = .ok (.iload_n 1, 1) := by decide +kernel
theorem dX6_take_54 : decode cX6_take 54 = .ok (.bipush 59, 2) := by decide +kernel
theorem dX6_take_56 : decode cX6_take 56 = .ok (.iconst 3, 1) := by decide +kernel
theorem dX6_take_57 : decode cX6_take 57 = .ok (.invokevirtual 53, 3) := by decide +kernel
theorem dX6_take_60 : decode cX6_take 60 = .ok (.ireturn, 1) := by decide +kernel
theorem dX6_take_61 : decode cX6_take 61 = .ok (.aload_n 0, 1) := by decide +kernel
theorem dX6_take_62 : decode cX6_take 62 = .ok (.iload_n 1, 1) := by decide +kernel
theorem dX6_take_63 : decode cX6_take 63 = .ok (.invokevirtual 60, 3) := by decide +kernel
theorem dX6_take_66 : decode cX6_take 66 = .ok (.ireturn, 1) := by decide +kernel
theorem dX6_take_67 : decode cX6_take 67 = .ok (.aload_n 0, 1) := by decide +kernel
theorem dX6_take_68 : decode cX6_take 68 = .ok (.iload_n 1, 1) := by decide +kernel
theorem dX6_take_69 : decode cX6_take 69 = .ok (.iload_n 2, 1) := by decide +kernel
theorem dX6_take_70 : decode cX6_take 70 = .ok (.invokevirtual 63, 3) := by decide +kernel
theorem dX6_take_73 : decode cX6_take 73 = .ok (.ireturn, 1) := by decide +kernel
theorem dX6_takeSign_0 : decode cX6_takeSign 0 = .ok (.aload_n 0, 1) := by decide +kernel
theorem dX6_takeSign_1 : decode cX6_takeSign 1 = .ok (.getfield 9, 3) := by decide +kernel
theorem dX6_takeSign_4 : decode cX6_takeSign 4 = .ok (.iload_n 1, 1) := by decide +kernel
theorem dX6_takeSign_5 : decode cX6_takeSign 5 = .ok (.iaload, 1) := by decide +kernel
theorem dX6_takeSign_6 : decode cX6_takeSign 6 = .ok (.iload_n 2, 1) := by decide +kernel
theorem dX6_takeSign_7 : decode cX6_takeSign 7 = .ok (.if_icmp .eq 5, 3) := by decide +kernel
theorem dX6_takeSign_10 : decode cX6_takeSign 10 = .ok (.iconst 1, 1) := by decide +kernel
theorem dX6_takeSign_11 : decode cX6_takeSign 11 = .ok (.ireturn, 1) := by decide +kernel
theorem dX6_takeSign_12 : decode cX6_takeSign 12 = .ok (.aload_n 0, 1) := by decide +kernel
theorem dX6_takeSign_13 : decode cX6_takeSign 13 = .ok (.iload_n 3, 1) := by decide +kernel
theorem dX6_takeSign_14 : decode cX6_takeSign 14 = .ok (.putfield 27, 3) := by decide +kernel
theorem dX6_takeSign_17 : decode cX6_takeSign 17 = .ok (.iconst 0, 1) := by decide +kernel
theorem dX6_takeSign_18 : decode cX6_takeSign 18 = .ok (.ireturn, 1) := by decide +kernel
set_option maxRecDepth 20000 in
theorem ggX6_takeNight_X6_isNumber : GoodIn wsX6_takeNight wsX6_isNumber := goodIn_r _ [8, 9, 10, 11, 7, 12, 13, 18, 19, 20, 21, 22] (by decide +kernel) (by decide +kernel)
set_option maxRecDepth 20000 in
theorem gX6_takeNight_X6_isNumber : GoodIn wsX6_takeNight (wsV RX6 66 RX6 yX6_isNumber wsX6_isNumber) := goodIn_app (goodIn_of _ (by decide +kernel)) ggX6_takeNight_X6_isNumber
set_option maxRecDepth 20000 in
theorem ggX6_takeNight_X6_numberAt : GoodIn wsX6_takeNight wsX6_numberAt := goodIn_r _ [17, 13, 18, 19, 20, 21, 22] (by decide +kernel) (by decide +kernel)
set_option maxRecDepth 20000 in
theorem gX6_takeNight_X6_numberAt : GoodIn wsX6_takeNight (wsV RX6 70 RX6 yX6_numberAt wsX6_numberAt) := goodIn_app (goodIn_of _ (by decide +kernel)) ggX6_takeNight_X6_numberAt
theorem dX6_takeNight_0 : decode cX6_takeNight 0 = .ok (.aload_n 0, 1) := by decide +kernel
theorem dX6_takeNight_1 : decode cX6_takeNight 1 = .ok (.iload_n 1, 1) := by decide +kernel
theorem dX6_takeNight_2 : decode cX6_takeNight 2 = .ok (.iload_n 2, 1) := by decide +kernel
theorem dX6_takeNight_3 : decode cX6_takeNight 3 = .ok (.invokevirtual 66, 3) := by decide +kernel
theorem dX6_takeNight_6 : decode cX6_takeNight 6 = .ok (.ifCond .ne 5, 3) := by decide +kernel
theorem dX6_takeNight_9 : decode cX6_takeNight 9 = .ok (.iconst 1, 1) := by decide +kernel
theorem dX6_takeNight_10 : decode cX6_takeNight 10 = .ok (.ireturn, 1) := by decide +kernel
theorem dX6_takeNight_11 : decode cX6_takeNight 11 = .ok (.aload_n 0, 1) := by decide +kernel
theorem dX6_takeNight_12 : decode cX6_takeNight 12 = .ok (.iload_n 1, 1) := by decide +kernel
theorem dX6_takeNight_13 : decode cX6_takeNight 13 = .ok (.iload_n 2, 1) := by decide +kernel
theorem dX6_takeNight_14 : decode cX6_takeNight 14 = .ok (.invokevirtual 70, 3) := by decide +kernel
theorem dX6_takeNight_17 : decode cX6_takeNight 17 = .ok (.istore_n 3, 1) := by decide +kernel
theorem dX6_takeNight_18 : decode cX6_takeNight 18 = .ok (.iload_n 3, 1) := by decide +kernel
theorem dX6_takeNight_19 : decode cX6_takeNight 19 = .ok (.iconst 1, 1) := by decide +kernel
theorem dX6_takeNight_20 : decode cX6_takeNight 20 = .ok (.if_icmp .lt 9, 3) := by decide +kernel
theorem dX6_takeNight_23 : decode cX6_takeNight 23 = .ok (.iload_n 3, 1) := by decide +kernel
theorem dX6_takeNight_24 : decode cX6_takeNight 24 = .ok (.bipush 9, 2) := by decide +kernel
theorem dX6_takeNight_26 : decode cX6_takeNight 26 = .ok (.if_icmp .le 5, 3) := by decide +kernel
theorem dX6_takeNight_29 : decode cX6_takeNight 29 = .ok (.iconst 2, 1) := by decide +kernel
theorem dX6_takeNight_30 : decode cX6_takeNight 30 = .ok (.ireturn, 1) := by decide +kernel
theorem dX6_takeNight_31 : decode cX6_takeNight 31 = .ok (.aload_n 0, 1) := by decide +kernel
theorem dX6_takeNight_32 : decode cX6_takeNight 32 = .ok (.getfield 18, 3) := by decide +kernel
theorem dX6_takeNight_35 : decode cX6_takeNight 35 = .ok (.iload_n 3, 1) := by decide +kernel
theorem dX6_takeNight_36 : decode cX6_takeNight 36 = .ok (.putfield 73, 3) := by decide +kernel
theorem dX6_takeNight_39 : decode cX6_takeNight 39 = .ok (.aload_n 0, 1) := by decide +kernel
theorem dX6_takeNight_40 : decode cX6_takeNight 40 = .ok (.iconst 2, 1) := by decide +kernel
theorem dX6_takeNight_41 : decode cX6_takeNight 41 = .ok (.putfield 27, 3) := by decide +kernel
theorem dX6_takeNight_44 : decode cX6_takeNight 44 = .ok (.iconst 0, 1) := by decide +kernel
theorem dX6_takeNight_45 : decode cX6_takeNight 45 = .ok (.ireturn, 1) := by decide +kernel
set_option maxRecDepth 20000 in
theorem ggX6_takeSort_J0_indexOf_0f7a4 : GoodIn wsX6_takeSort wsJ0_indexOf_0f7a4 := goodIn_r _ [10, 11, 12, 13, 9, 14, 15, 16, 17, 18, 19, 20, 21, 22, 23, 24, 25, 26, 27, 28, 29, 30, 31, 32, 33, 34, 35, 36, 37, 38, 39, 40, 41, 42, 43, 44, 45, 46, 47, 48, 49, 50, 51, 52, 53, 54, 55, 56, 57, 58, 59, 60, 61, 62, 63, 64, 65, 66, 67, 68, 69, 70, 71, 72, 73, 74, 75, 76, 77, 78, 79, 80, 81, 82, 83, 84, 85, 86, 87, 88, 89, 90, 91, 92, 93, 94] (by decide +kernel) (by decide +kernel)
set_option maxRecDepth 20000 in
theorem gX6_takeSort_J0_indexOf_0f7a4 : GoodIn wsX6_takeSort (wsV RX6 78 RJ0 yJ0_indexOf_0f7a4 wsJ0_indexOf_0f7a4) := goodIn_app (goodIn_of _ (by decide +kernel)) ggX6_takeSort_J0_indexOf_0f7a4
theorem dX6_takeSort_0 : decode cX6_takeSort 0 = .ok (.ldc 76, 2) := by decide +kernel
theorem dX6_takeSort_2 : decode cX6_takeSort 2 = .ok (.aload_n 0, 1) := by decide +kernel
theorem dX6_takeSort_3 : decode cX6_takeSort 3 = .ok (.getfield 9, 3) := by decide +kernel
theorem dX6_takeSort_6 : decode cX6_takeSort 6 = .ok (.iload_n 1, 1) := by decide +kernel
theorem dX6_takeSort_7 : decode cX6_takeSort 7 = .ok (.iaload, 1) := by decide +kernel
theorem dX6_takeSort_8 : decode cX6_takeSort 8 = .ok (.i2c, 1) := by decide +kernel
theorem dX6_takeSort_9 : decode cX6_takeSort 9 = .ok (.invokevirtual 78, 3) := by decide +kernel
theorem dX6_takeSort_12 : decode cX6_takeSort 12 = .ok (.iconst 1, 1) := by decide +kernel
theorem dX6_takeSort_13 : decode cX6_takeSort 13 = .ok (.iadd, 1) := by decide +kernel
theorem dX6_takeSort_14 : decode cX6_takeSort 14 = .ok (.istore_n 2, 1) := by decide +kernel
theorem dX6_takeSort_15 : decode cX6_takeSort 15 = .ok (.iload_n 2, 1) := by decide +kernel
theorem dX6_takeSort_16 : decode cX6_takeSort 16 = .ok (.ifCond .ne 5, 3) := by decide +kernel
theorem dX6_takeSort_19 : decode cX6_takeSort 19 = .ok (.iconst 1, 1) := by decide +kernel
theorem dX6_takeSort_20 : decode cX6_takeSort 20 = .ok (.ireturn, 1) := by decide +kernel
theorem dX6_takeSort_21 : decode cX6_takeSort 21 = .ok (.aload_n 0, 1) := by decide +kernel
theorem dX6_takeSort_22 : decode cX6_takeSort 22 = .ok (.getfield 18, 3) := by decide +kernel
theorem dX6_takeSort_25 : decode cX6_takeSort 25 = .ok (.getfield 26, 3) := by decide +kernel
theorem dX6_takeSort_28 : decode cX6_takeSort 28 = .ok (.bipush 7, 2) := by decide +kernel
theorem dX6_takeSort_30 : decode cX6_takeSort 30 = .ok (.if_icmp .ne 5, 3) := by decide +kernel
theorem dX6_takeSort_33 : decode cX6_takeSort 33 = .ok (.iconst 3, 1) := by decide +kernel
theorem dX6_takeSort_34 : decode cX6_takeSort 34 = .ok (.ireturn, 1) := by decide +kernel
theorem dX6_takeSort_35 : decode cX6_takeSort 35 = .ok (.aload_n 0, 1) := by decide +kernel
theorem dX6_takeSort_36 : decode cX6_takeSort 36 = .ok (.getfield 18, 3) := by decide +kernel
theorem dX6_takeSort_39 : decode cX6_takeSort 39 = .ok (.getfield 83, 3) := by decide +kernel
theorem dX6_takeSort_42 : decode cX6_takeSort 42 = .ok (.aload_n 0, 1) := by decide +kernel
theorem dX6_takeSort_43 : decode cX6_takeSort 43 = .ok (.getfield 18, 3) := by decide +kernel
theorem dX6_takeSort_46 : decode cX6_takeSort 46 = .ok (.getfield 26, 3) := by decide +kernel
theorem dX6_takeSort_49 : decode cX6_takeSort 49 = .ok (.iload_n 2, 1) := by decide +kernel
theorem dX6_takeSort_50 : decode cX6_takeSort 50 = .ok (.iastore, 1) := by decide +kernel
theorem dX6_takeSort_51 : decode cX6_takeSort 51 = .ok (.aload_n 0, 1) := by decide +kernel
theorem dX6_takeSort_52 : decode cX6_takeSort 52 = .ok (.iconst 4, 1) := by decide +kernel
theorem dX6_takeSort_53 : decode cX6_takeSort 53 = .ok (.putfield 27, 3) := by decide +kernel
theorem dX6_takeSort_56 : decode cX6_takeSort 56 = .ok (.iconst 0, 1) := by decide +kernel
theorem dX6_takeSort_57 : decode cX6_takeSort 57 = .ok (.ireturn, 1) := by decide +kernel
set_option maxRecDepth 20000 in
theorem ggX6_takeThing_X6_isNumber : GoodIn wsX6_takeThing wsX6_isNumber := goodIn_r _ [10, 11, 12, 13, 9, 14, 15, 28, 29, 30, 31, 32] (by decide +kernel) (by decide +kernel)
set_option maxRecDepth 20000 in
theorem gX6_takeThing_X6_isNumber : GoodIn wsX6_takeThing (wsV RX6 66 RX6 yX6_isNumber wsX6_isNumber) := goodIn_app (goodIn_of _ (by decide +kernel)) ggX6_takeThing_X6_isNumber
set_option maxRecDepth 20000 in
theorem ggX6_takeThing_X6_numberAt : GoodIn wsX6_takeThing wsX6_numberAt := goodIn_r _ [19, 15, 28, 29, 30, 31, 32] (by decide +kernel) (by decide +kernel)
set_option maxRecDepth 20000 in
theorem gX6_takeThing_X6_numberAt : GoodIn wsX6_takeThing (wsV RX6 70 RX6 yX6_numberAt wsX6_numberAt) := goodIn_app (goodIn_of _ (by decide +kernel)) ggX6_takeThing_X6_numberAt
set_option maxRecDepth 20000 in
theorem ggX6_takeThing_X4_whoHas : GoodIn wsX6_takeThing wsX4_whoHas := goodIn_r _ [24, 25, 26, 27, 33, 34, 35, 36, 37] (by decide +kernel) (by decide +kernel)
set_option maxRecDepth 20000 in
theorem gX6_takeThing_X4_whoHas : GoodIn wsX6_takeThing (wsV RX6 86 RX4 yX4_whoHas wsX4_whoHas) := goodIn_app (goodIn_of _ (by decide +kernel)) ggX6_takeThing_X4_whoHas
theorem dX6_takeThing_0 : decode cX6_takeThing 0 = .ok (.aload_n 0, 1) := by decide +kernel
theorem dX6_takeThing_1 : decode cX6_takeThing 1 = .ok (.iload_n 1, 1) := by decide +kernel
theorem dX6_takeThing_2 : decode cX6_takeThing 2 = .ok (.iload_n 2, 1) := by decide +kernel
theorem dX6_takeThing_3 : decode cX6_takeThing 3 = .ok (.invokevirtual 66, 3) := by decide +kernel
theorem dX6_takeThing_6 : decode cX6_takeThing 6 = .ok (.ifCond .ne 5, 3) := by decide +kernel
theorem dX6_takeThing_9 : decode cX6_takeThing 9 = .ok (.iconst 1, 1) := by decide +kernel
theorem dX6_takeThing_10 : decode cX6_takeThing 10 = .ok (.ireturn, 1) := by decide +kernel
theorem dX6_takeThing_11 : decode cX6_takeThing 11 = .ok (.aload_n 0, 1) := by decide +kernel
theorem dX6_takeThing_12 : decode cX6_takeThing 12 = .ok (.iload_n 1, 1) := by decide +kernel
theorem dX6_takeThing_13 : decode cX6_takeThing 13 = .ok (.iload_n 2, 1) := by decide +kernel
theorem dX6_takeThing_14 : decode cX6_takeThing 14 = .ok (.invokevirtual 70, 3) := by decide +kernel
theorem dX6_takeThing_17 : decode cX6_takeThing 17 = .ok (.istore_n 3, 1) := by decide +kernel
theorem dX6_takeThing_18 : decode cX6_takeThing 18 = .ok (.iload_n 3, 1) := by decide +kernel
theorem dX6_takeThing_19 : decode cX6_takeThing 19 = .ok (.bipush 9, 2) := by decide +kernel
theorem dX6_takeThing_21 : decode cX6_takeThing 21 = .ok (.if_icmp .gt 20, 3) := by decide +kernel
theorem dX6_takeThing_24 : decode cX6_takeThing 24 = .ok (.iload_n 3, 1) := by decide +kernel
theorem dX6_takeThing_25 : decode cX6_takeThing 25 = .ok (.ifCond .eq 18, 3) := by decide +kernel
theorem dX6_takeThing_28 : decode cX6_takeThing 28 = .ok (.aload_n 0, 1) := by decide +kernel
theorem dX6_takeThing_29 : decode cX6_takeThing 29 = .ok (.getfield 18, 3) := by decide +kernel
theorem dX6_takeThing_32 : decode cX6_takeThing 32 = .ok (.iload_n 3, 1) := by decide +kernel
theorem dX6_takeThing_33 : decode cX6_takeThing 33 = .ok (.invokevirtual 86, 3) := by decide +kernel
theorem dX6_takeThing_36 : decode cX6_takeThing 36 = .ok (.ldc 89, 2) := by decide +kernel
theorem dX6_takeThing_38 : decode cX6_takeThing 38 = .ok (.if_icmp .eq 5, 3) := by decide +kernel
theorem dX6_takeThing_41 : decode cX6_takeThing 41 = .ok (.iconst 2, 1) := by decide +kernel
theorem dX6_takeThing_42 : decode cX6_takeThing 42 = .ok (.ireturn, 1) := by decide +kernel
theorem dX6_takeThing_43 : decode cX6_takeThing 43 = .ok (.aload_n 0, 1) := by decide +kernel
theorem dX6_takeThing_44 : decode cX6_takeThing 44 = .ok (.getfield 18, 3) := by decide +kernel
theorem dX6_takeThing_47 : decode cX6_takeThing 47 = .ok (.getfield 90, 3) := by decide +kernel
theorem dX6_takeThing_50 : decode cX6_takeThing 50 = .ok (.aload_n 0, 1) := by decide +kernel
theorem dX6_takeThing_51 : decode cX6_takeThing 51 = .ok (.getfield 18, 3) := by decide +kernel
theorem dX6_takeThing_54 : decode cX6_takeThing 54 = .ok (.getfield 26, 3) := by decide +kernel
theorem dX6_takeThing_57 : decode cX6_takeThing 57 = .ok (.iload_n 3, 1) := by decide +kernel
theorem dX6_takeThing_58 : decode cX6_takeThing 58 = .ok (.iastore, 1) := by decide +kernel
theorem dX6_takeThing_59 : decode cX6_takeThing 59 = .ok (.aload_n 0, 1) := by decide +kernel
theorem dX6_takeThing_60 : decode cX6_takeThing 60 = .ok (.getfield 18, 3) := by decide +kernel
theorem dX6_takeThing_63 : decode cX6_takeThing 63 = .ok (.dup, 1) := by decide +kernel
theorem dX6_takeThing_64 : decode cX6_takeThing 64 = .ok (.getfield 26, 3) := by decide +kernel
theorem dX6_takeThing_67 : decode cX6_takeThing 67 = .ok (.iconst 1, 1) := by decide +kernel
theorem dX6_takeThing_68 : decode cX6_takeThing 68 = .ok (.iadd, 1) := by decide +kernel
theorem dX6_takeThing_69 : decode cX6_takeThing 69 = .ok (.putfield 26, 3) := by decide +kernel
theorem dX6_takeThing_72 : decode cX6_takeThing 72 = .ok (.aload_n 0, 1) := by decide +kernel
theorem dX6_takeThing_73 : decode cX6_takeThing 73 = .ok (.iconst 2, 1) := by decide +kernel
theorem dX6_takeThing_74 : decode cX6_takeThing 74 = .ok (.putfield 27, 3) := by decide +kernel
theorem dX6_takeThing_77 : decode cX6_takeThing 77 = .ok (.iconst 0, 1) := by decide +kernel
theorem dX6_takeThing_78 : decode cX6_takeThing 78 = .ok (.ireturn, 1) := by decide +kernel
set_option maxRecDepth 20000 in
theorem ggX6_isNumber_X6_isFigure : GoodIn wsX6_isNumber wsX6_isFigure := goodIn_r _ [5, 6, 7, 8, 9, 10, 11] (by decide +kernel) (by decide +kernel)
set_option maxRecDepth 20000 in
theorem gX6_isNumber_X6_isFigure : GoodIn wsX6_isNumber (wsV RX6 44 RX6 yX6_isFigure wsX6_isFigure) := goodIn_app (goodIn_of _ (by decide +kernel)) ggX6_isNumber_X6_isFigure
theorem dX6_isNumber_0 : decode cX6_isNumber 0 = .ok (.aload_n 0, 1) := by decide +kernel
theorem dX6_isNumber_1 : decode cX6_isNumber 1 = .ok (.iload_n 1, 1) := by decide +kernel
theorem dX6_isNumber_2 : decode cX6_isNumber 2 = .ok (.invokevirtual 44, 3) := by decide +kernel
theorem dX6_isNumber_5 : decode cX6_isNumber 5 = .ok (.ifCond .eq 12, 3) := by decide +kernel
theorem dX6_isNumber_8 : decode cX6_isNumber 8 = .ok (.iload_n 2, 1) := by decide +kernel
theorem dX6_isNumber_9 : decode cX6_isNumber 9 = .ok (.iconst 2, 1) := by decide +kernel
theorem dX6_isNumber_10 : decode cX6_isNumber 10 = .ok (.if_icmp .gt 7, 3) := by decide +kernel
theorem dX6_isNumber_13 : decode cX6_isNumber 13 = .ok (.iconst 1, 1) := by decide +kernel
theorem dX6_isNumber_14 : decode cX6_isNumber 14 = .ok (.goto 4, 3) := by decide +kernel
theorem dX6_isNumber_17 : decode cX6_isNumber 17 = .ok (.iconst 0, 1) := by decide +kernel
theorem dX6_isNumber_18 : decode cX6_isNumber 18 = .ok (.ireturn, 1) := by decide +kernel
theorem dX6_numberAt_0 : decode cX6_numberAt 0 = .ok (.iconst 0, 1) := by decide +kernel
theorem dX6_numberAt_1 : decode cX6_numberAt 1 = .ok (.istore_n 3, 1) := by decide +kernel
theorem dX6_numberAt_2 : decode cX6_numberAt 2 = .ok (.iconst 0, 1) := by decide +kernel
theorem dX6_numberAt_3 : decode cX6_numberAt 3 = .ok (.istore 4, 2) := by decide +kernel
theorem dX6_numberAt_5 : decode cX6_numberAt 5 = .ok (.iload 4, 2) := by decide +kernel
theorem dX6_numberAt_7 : decode cX6_numberAt 7 = .ok (.iload_n 2, 1) := by decide +kernel
theorem dX6_numberAt_8 : decode cX6_numberAt 8 = .ok (.if_icmp .ge 27, 3) := by decide +kernel
theorem dX6_numberAt_11 : decode cX6_numberAt 11 = .ok (.bipush 10, 2) := by decide +kernel
theorem dX6_numberAt_13 : decode cX6_numberAt 13 = .ok (.iload_n 3, 1) := by decide +kernel
theorem dX6_numberAt_14 : decode cX6_numberAt 14 = .ok (.imul, 1) := by decide +kernel
theorem dX6_numberAt_15 : decode cX6_numberAt 15 = .ok (.aload_n 0, 1) := by decide +kernel
theorem dX6_numberAt_16 : decode cX6_numberAt 16 = .ok (.getfield 9, 3) := by decide +kernel
theorem dX6_numberAt_19 : decode cX6_numberAt 19 = .ok (.iload_n 1, 1) := by decide +kernel
theorem dX6_numberAt_20 : decode cX6_numberAt 20 = .ok (.iload 4, 2) := by decide +kernel
theorem dX6_numberAt_22 : decode cX6_numberAt 22 = .ok (.iadd, 1) := by decide +kernel
theorem dX6_numberAt_23 : decode cX6_numberAt 23 = .ok (.iaload, 1) := by decide +kernel
theorem dX6_numberAt_24 : decode cX6_numberAt 24 = .ok (.iadd, 1) := by decide +kernel
theorem dX6_numberAt_25 : decode cX6_numberAt 25 = .ok (.bipush 48, 2) := by decide +kernel
theorem dX6_numberAt_27 : decode cX6_numberAt 27 = .ok (.isub, 1) := by decide +kernel
theorem dX6_numberAt_28 : decode cX6_numberAt 28 = .ok (.istore_n 3, 1) := by decide +kernel
theorem dX6_numberAt_29 : decode cX6_numberAt 29 = .ok (.iinc 4 1, 3) := by decide +kernel
theorem dX6_numberAt_32 : decode cX6_numberAt 32 = .ok (.goto (-27), 3) := by decide +kernel
theorem dX6_numberAt_35 : decode cX6_numberAt 35 = .ok (.iload_n 3, 1) := by decide +kernel
theorem dX6_numberAt_36 : decode cX6_numberAt 36 = .ok (.ireturn, 1) := by decide +kernel
set_option maxRecDepth 20000 in
theorem ggX7_init_X6_init : GoodIn wsX7_init wsX6_init := goodIn_r _ [37, 38, 2, 3, 32, 39, 40, 11, 12, 41, 42, 43, 44, 45, 46, 83, 84, 85, 86, 87, 88, 89, 90, 91, 92] (by decide +kernel) (by decide +kernel)
set_option maxRecDepth 20000 in
theorem gX7_init_X6_init_n17 : GoodIn wsX7_init (wsX6_init) := ggX7_init_X6_init
set_option maxRecDepth 20000 in
theorem ggX7_init_X4_init : GoodIn wsX7_init wsX4_init := goodIn_r _ [43, 44, 2, 3, 32, 45, 46, 88, 89, 90, 91, 92] (by decide +kernel) (by decide +kernel)
set_option maxRecDepth 20000 in
theorem gX7_init_X4_init_n24 : GoodIn wsX7_init (wsX4_init) := ggX7_init_X4_init
set_option maxRecDepth 20000 in
theorem ggX7_init_X0_init : GoodIn wsX7_init wsX0_init := goodIn_r _ [48, 49, 2, 3, 32, 50, 51, 52, 93, 94, 95, 96, 97] (by decide +kernel) (by decide +kernel)
set_option maxRecDepth 20000 in
theorem gX7_init_X0_init_n38 : GoodIn wsX7_init (wsX0_init) := ggX7_init_X0_init
set_option maxRecDepth 20000 in
theorem ggX7_init_X2_init : GoodIn wsX7_init wsX2_init := goodIn_r _ [54, 55, 2, 3, 32, 56, 57, 98, 99] (by decide +kernel) (by decide +kernel)
set_option maxRecDepth 20000 in
theorem gX7_init_X2_init_n45 : GoodIn wsX7_init (wsX2_init) := ggX7_init_X2_init
set_option maxRecDepth 20000 in
theorem ggX7_init_X3_init : GoodIn wsX7_init wsX3_init := goodIn_r _ [59, 60, 2, 3, 32, 61, 62, 100, 101, 102] (by decide +kernel) (by decide +kernel)
set_option maxRecDepth 20000 in
theorem gX7_init_X3_init_n52 : GoodIn wsX7_init (wsX3_init) := ggX7_init_X3_init
set_option maxRecDepth 20000 in
theorem ggX7_init_X1_init : GoodIn wsX7_init wsX1_init := goodIn_r _ [64, 65, 2, 3, 32, 66, 103, 104] (by decide +kernel) (by decide +kernel)
set_option maxRecDepth 20000 in
theorem gX7_init_X1_init_n59 : GoodIn wsX7_init (wsX1_init) := ggX7_init_X1_init
set_option maxRecDepth 20000 in
theorem ggX7_init_X5_init : GoodIn wsX7_init wsX5_init := goodIn_r _ [68, 69, 2, 3, 32, 70, 71, 105, 106, 107] (by decide +kernel) (by decide +kernel)
set_option maxRecDepth 20000 in
theorem gX7_init_X5_init_n68 : GoodIn wsX7_init (wsX5_init) := ggX7_init_X5_init
theorem dX7_init_0 : decode cX7_init 0 = .ok (.aload_n 0, 1) := by decide +kernel
theorem dX7_init_1 : decode cX7_init 1 = .ok (.invokespecial 1, 3) := by decide +kernel
theorem dX7_init_4 : decode cX7_init 4 = .ok (.aload_n 0, 1) := by decide +kernel
theorem dX7_init_5 : decode cX7_init 5 = .ok (.bipush 8, 2) := by decide +kernel
theorem dX7_init_7 : decode cX7_init 7 = .ok (.anewarray 9, 3) := by decide +kernel
theorem dX7_init_10 : decode cX7_init 10 = .ok (.putfield 11, 3) := by decide +kernel
theorem dX7_init_13 : decode cX7_init 13 = .ok (.aload_n 0, 1) := by decide +kernel
theorem dX7_init_14 : decode cX7_init 14 = .ok (.new 15, 3) := by decide +kernel
theorem dX7_init_17 : decode cX7_init 17 = .ok (.dup, 1) := by decide +kernel
theorem dX7_init_18 : decode cX7_init 18 = .ok (.invokespecial 17, 3) := by decide +kernel
theorem dX7_init_21 : decode cX7_init 21 = .ok (.putfield 18, 3) := by decide +kernel
theorem dX7_init_24 : decode cX7_init 24 = .ok (.aload_n 0, 1) := by decide +kernel
theorem dX7_init_25 : decode cX7_init 25 = .ok (.new 22, 3) := by decide +kernel
theorem dX7_init_28 : decode cX7_init 28 = .ok (.dup, 1) := by decide +kernel
theorem dX7_init_29 : decode cX7_init 29 = .ok (.invokespecial 24, 3) := by decide +kernel
theorem dX7_init_32 : decode cX7_init 32 = .ok (.putfield 25, 3) := by decide +kernel
theorem dX7_init_35 : decode cX7_init 35 = .ok (.aload_n 0, 1) := by decide +kernel
theorem dX7_init_36 : decode cX7_init 36 = .ok (.new 22, 3) := by decide +kernel
theorem dX7_init_39 : decode cX7_init 39 = .ok (.dup, 1) := by decide +kernel
theorem dX7_init_40 : decode cX7_init 40 = .ok (.invokespecial 24, 3) := by decide +kernel
theorem dX7_init_43 : decode cX7_init 43 = .ok (.putfield 29, 3) := by decide +kernel
theorem dX7_init_46 : decode cX7_init 46 = .ok (.aload_n 0, 1) := by decide +kernel
theorem dX7_init_47 : decode cX7_init 47 = .ok (.iconst 2, 1) := by decide +kernel
theorem dX7_init_48 : decode cX7_init 48 = .ok (.anewarray 22, 3) := by decide +kernel
theorem dX7_init_51 : decode cX7_init 51 = .ok (.putfield 32, 3) := by decide +kernel
theorem dX7_init_54 : decode cX7_init 54 = .ok (.aload_n 0, 1) := by decide +kernel
theorem dX7_init_55 : decode cX7_init 55 = .ok (.new 36, 3) := by decide +kernel
theorem dX7_init_58 : decode cX7_init 58 = .ok (.dup, 1) := by decide +kernel
theorem dX7_init_59 : decode cX7_init 59 = .ok (.invokespecial 38, 3) := by decide +kernel
theorem dX7_init_62 : decode cX7_init 62 = .ok (.putfield 39, 3) := by decide +kernel
theorem dX7_init_65 : decode cX7_init 65 = .ok (.aload_n 0, 1) := by decide +kernel
theorem dX7_init_66 : decode cX7_init 66 = .ok (.new 43, 3) := by decide +kernel
theorem dX7_init_69 : decode cX7_init 69 = .ok (.dup, 1) := by decide +kernel
theorem dX7_init_70 : decode cX7_init 70 = .ok (.invokespecial 45, 3) := by decide +kernel
theorem dX7_init_73 : decode cX7_init 73 = .ok (.putfield 46, 3) := by decide +kernel
theorem dX7_init_76 : decode cX7_init 76 = .ok (.aload_n 0, 1) := by decide +kernel
theorem dX7_init_77 : decode cX7_init 77 = .ok (.new 50, 3) := by decide +kernel
theorem dX7_init_80 : decode cX7_init 80 = .ok (.dup, 1) := by decide +kernel
theorem dX7_init_81 : decode cX7_init 81 = .ok (.invokespecial 52, 3) := by decide +kernel
theorem dX7_init_84 : decode cX7_init 84 = .ok (.putfield 53, 3) := by decide +kernel
theorem dX7_init_87 : decode cX7_init 87 = .ok (.aload_n 0, 1) := by decide +kernel
theorem dX7_init_88 : decode cX7_init 88 = .ok (.new 57, 3) := by decide +kernel
theorem dX7_init_91 : decode cX7_init 91 = .ok (.dup, 1) := by decide +kernel
theorem dX7_init_92 : decode cX7_init 92 = .ok (.invokespecial 59, 3) := by decide +kernel
theorem dX7_init_95 : decode cX7_init 95 = .ok (.putfield 60, 3) := by decide +kernel
theorem dX7_init_98 : decode cX7_init 98 = .ok (.aload_n 0, 1) := by decide +kernel
theorem dX7_init_99 : decode cX7_init 99 = .ok (.iconst 2, 1) := by decide +kernel
theorem dX7_init_100 : decode cX7_init 100 = .ok (.newarray .int, 2) := by decide +kernel
theorem dX7_init_102 : decode cX7_init 102 = .ok (.putfield 64, 3) := by decide +kernel
theorem dX7_init_105 : decode cX7_init 105 = .ok (.iconst 0, 1) := by decide +kernel
theorem dX7_init_106 : decode cX7_init 106 = .ok (.istore_n 1, 1) := by decide +kernel
theorem dX7_init_107 : decode cX7_init 107 = .ok (.iload_n 1, 1) := by decide +kernel
theorem dX7_init_108 : decode cX7_init 108 = .ok (.bipush 8, 2) := by decide +kernel
theorem dX7_init_110 : decode cX7_init 110 = .ok (.if_icmp .ge 22, 3) := by decide +kernel
theorem dX7_init_113 : decode cX7_init 113 = .ok (.aload_n 0, 1) := by decide +kernel
theorem dX7_init_114 : decode cX7_init 114 = .ok (.getfield 11, 3) := by decide +kernel
theorem dX7_init_117 : decode cX7_init 117 = .ok (.iload_n 1, 1) := by decide +kernel
theorem dX7_init_118 : decode cX7_init 118 = .ok (.new 9, 3) := by decide +kernel
theorem dX7_init_121 : decode cX7_init 121 = .ok (.dup, 1) := by decide +kernel
theorem dX7_init_122 : decode cX7_init 122 = .ok (.invokespecial 68, 3) := by decide +kernel
theorem dX7_init_125 : decode cX7_init 125 = .ok (.aastore, 1) := by decide +kernel
theorem dX7_init_126 : decode cX7_init 126 = .ok (.iinc 1 1, 3) := by decide +kernel
theorem dX7_init_129 : decode cX7_init 129 = .ok (.goto (-22), 3) := by decide +kernel
theorem dX7_init_132 : decode cX7_init 132 = .ok (.iconst 0, 1) := by decide +kernel
theorem dX7_init_133 : decode cX7_init 133 = .ok (.istore_n 1, 1) := by decide +kernel
theorem dX7_init_134 : decode cX7_init 134 = .ok (.iload_n 1, 1) := by decide +kernel
theorem dX7_init_135 : decode cX7_init 135 = .ok (.iconst 2, 1) := by decide +kernel
theorem dX7_init_136 : decode cX7_init 136 = .ok (.if_icmp .ge 22, 3) := by decide +kernel
theorem dX7_init_139 : decode cX7_init 139 = .ok (.aload_n 0, 1) := by decide +kernel
theorem dX7_init_140 : decode cX7_init 140 = .ok (.getfield 32, 3) := by decide +kernel
theorem dX7_init_143 : decode cX7_init 143 = .ok (.iload_n 1, 1) := by decide +kernel
theorem dX7_init_144 : decode cX7_init 144 = .ok (.new 22, 3) := by decide +kernel
theorem dX7_init_147 : decode cX7_init 147 = .ok (.dup, 1) := by decide +kernel
theorem dX7_init_148 : decode cX7_init 148 = .ok (.invokespecial 24, 3) := by decide +kernel
theorem dX7_init_151 : decode cX7_init 151 = .ok (.aastore, 1) := by decide +kernel
theorem dX7_init_152 : decode cX7_init 152 = .ok (.iinc 1 1, 3) := by decide +kernel
theorem dX7_init_155 : decode cX7_init 155 = .ok (.goto (-21), 3) := by decide +kernel
theorem dX7_init_158 : decode cX7_init 158 = .ok (.return_, 1) := by decide +kernel
set_option maxRecDepth 20000 in
theorem ggX7_row_X7_isRow : GoodIn wsX7_row wsX7_isRow := goodIn_r _ [7] (by decide +kernel) (by decide +kernel)
set_option maxRecDepth 20000 in
theorem gX7_row_X7_isRow : GoodIn wsX7_row (va_wsS RX7 69 yX7_isRow wsX7_isRow) := goodIn_app (goodIn_of _ (by decide +kernel)) ggX7_row_X7_isRow
set_option maxRecDepth 20000 in
theorem ggX7_row_X7_found : GoodIn wsX7_row wsX7_found := goodIn_r _ [11, 2, 12, 25, 26, 27, 28, 29, 30, 31, 32, 33, 34, 35] (by decide +kernel) (by decide +kernel)
set_option maxRecDepth 20000 in
theorem gX7_row_X7_found : GoodIn wsX7_row (wsV RX7 74 RX7 yX7_found wsX7_found) := goodIn_app (goodIn_of _ (by decide +kernel)) ggX7_row_X7_found
set_option maxRecDepth 20000 in
theorem ggX7_row_X5_lay : GoodIn wsX7_row wsX5_lay := goodIn_r _ [17, 18, 19, 20, 21, 22, 23, 24, 36, 37, 38] (by decide +kernel) (by decide +kernel)
set_option maxRecDepth 20000 in
theorem gX7_row_X5_lay : GoodIn wsX7_row (wsV RX7 82 RX5 yX5_lay wsX5_lay) := goodIn_app (goodIn_of _ (by decide +kernel)) ggX7_row_X5_lay
theorem dX7_row_0 : decode cX7_row 0 = .ok (.iload_n 1, 1) := by decide +kernel
theorem dX7_row_1 : decode cX7_row 1 = .ok (.invokestatic 69, 3) := by decide +kernel
theorem dX7_row_4 : decode cX7_row 4 = .ok (.ifCond .eq 18, 3) := by decide +kernel
theorem dX7_row_7 : decode cX7_row 7 = .ok (.iload_n 2, 1) := by decide +kernel
theorem dX7_row_8 : decode cX7_row 8 = .ok (.ifCond .lt 14, 3) := by decide +kernel
theorem dX7_row_11 : decode cX7_row 11 = .ok (.iload_n 2, 1) := by decide +kernel
theorem dX7_row_12 : decode cX7_row 12 = .ok (.iconst 3, 1) := by decide +kernel
theorem dX7_row_13 : decode cX7_row 13 = .ok (.if_icmp .ge 9, 3) := by decide +kernel
theorem dX7_row_16 : decode cX7_row 16 = .ok (.iload_n 3, 1) := by decide +kernel
theorem dX7_row_17 : decode cX7_row 17 = .ok (.bipush 40, 2) := by decide +kernel
theorem dX7_row_19 : decode cX7_row 19 = .ok (.if_icmp .le 6, 3) := by decide +kernel
theorem dX7_row_22 : decode cX7_row 22 = .ok (.ldc 73, 2) := by decide +kernel
theorem dX7_row_24 : decode cX7_row 24 = .ok (.ireturn, 1) := by decide +kernel
theorem dX7_row_25 : decode cX7_row 25 = .ok (.iload_n 3, 1) := by decide +kernel
theorem dX7_row_26 : decode cX7_row 26 = .ok (.ifCond .ge 9, 3) := by decide +kernel
theorem dX7_row_29 : decode cX7_row 29 = .ok (.aload_n 0, 1) := by decide +kernel
theorem dX7_row_30 : decode cX7_row 30 = .ok (.iconst 4, 1) := by decide +kernel
theorem dX7_row_31 : decode cX7_row 31 = .ok (.invokevirtual 74, 3) := by decide +kernel
theorem dX7_row_34 : decode cX7_row 34 = .ok (.ireturn, 1) := by decide +kernel
theorem dX7_row_35 : decode cX7_row 35 = .ok (.aload_n 0, 1) := by decide +kernel
theorem dX7_row_36 : decode cX7_row 36 = .ok (.iconst 0, 1) := by decide +kernel
theorem dX7_row_37 : decode cX7_row 37 = .ok (.putfield 78, 3) := by decide +kernel
theorem dX7_row_40 : decode cX7_row 40 = .ok (.aload_n 0, 1) := by decide +kernel
theorem dX7_row_41 : decode cX7_row 41 = .ok (.getfield 11, 3) := by decide +kernel
theorem dX7_row_44 : decode cX7_row 44 = .ok (.iload_n 1, 1) := by decide +kernel
theorem dX7_row_45 : decode cX7_row 45 = .ok (.aaload, 1) := by decide +kernel
theorem dX7_row_46 : decode cX7_row 46 = .ok (.iload_n 2, 1) := by decide +kernel
theorem dX7_row_47 : decode cX7_row 47 = .ok (.iload_n 3, 1) := by decide +kernel
theorem dX7_row_48 : decode cX7_row 48 = .ok (.invokevirtual 82, 3) := by decide +kernel
theorem dX7_row_51 : decode cX7_row 51 = .ok (.iload_n 3, 1) := by decide +kernel
theorem dX7_row_52 : decode cX7_row 52 = .ok (.ireturn, 1) := by decide +kernel
set_option maxRecDepth 20000 in
theorem ggX7_set_X7_isRow : GoodIn wsX7_set wsX7_isRow := goodIn_r _ [7] (by decide +kernel) (by decide +kernel)
set_option maxRecDepth 20000 in
theorem gX7_set_X7_isRow : GoodIn wsX7_set (va_wsS RX7 69 yX7_isRow wsX7_isRow) := goodIn_app (goodIn_of _ (by decide +kernel)) ggX7_set_X7_isRow
set_option maxRecDepth 20000 in
theorem ggX7_set_X7_findingOf : GoodIn wsX7_set wsX7_findingOf := goodIn_r _ [11, 3, 12, 13, 14, 15, 16, 17, 18, 19, 20, 21, 22, 37, 38, 39, 40, 41, 42, 43, 44, 45, 46, 47, 48, 49, 50] (by decide +kernel) (by decide +kernel)
set_option maxRecDepth 20000 in
theorem gX7_set_X7_findingOf : GoodIn wsX7_set (wsV RX7 86 RX7 yX7_findingOf wsX7_findingOf) := goodIn_app (goodIn_of _ (by decide +kernel)) ggX7_set_X7_findingOf
set_option maxRecDepth 20000 in
theorem ggX7_set_X7_found : GoodIn wsX7_set wsX7_found := goodIn_r _ [26, 2, 27, 37, 38, 39, 40, 41, 42, 43, 44, 45, 46, 47] (by decide +kernel) (by decide +kernel)
set_option maxRecDepth 20000 in
theorem gX7_set_X7_found : GoodIn wsX7_set (wsV RX7 74 RX7 yX7_found wsX7_found) := goodIn_app (goodIn_of _ (by decide +kernel)) ggX7_set_X7_found
set_option maxRecDepth 20000 in
theorem ggX7_set_X5_put : GoodIn wsX7_set wsX5_put := goodIn_r _ [31, 32, 33, 34, 35, 15, 36, 17, 48, 49, 50] (by decide +kernel) (by decide +kernel)
set_option maxRecDepth 20000 in
theorem gX7_set_X5_put : GoodIn wsX7_set (wsV RX7 90 RX5 yX5_put wsX5_put) := goodIn_app (goodIn_of _ (by decide +kernel)) ggX7_set_X5_put
theorem dX7_set_0 : decode cX7_set 0 = .ok (.iload_n 1, 1) := by decide +kernel
theorem dX7_set_1 : decode cX7_set 1 = .ok (.invokestatic 69, 3) := by decide +kernel
theorem dX7_set_4 : decode cX7_set 4 = .ok (.ifCond .ne 6, 3) := by decide +kernel
theorem dX7_set_7 : decode cX7_set 7 = .ok (.ldc 73, 2) := by decide +kernel
theorem dX7_set_9 : decode cX7_set 9 = .ok (.ireturn, 1) := by decide +kernel
theorem dX7_set_10 : decode cX7_set 10 = .ok (.aload_n 0, 1) := by decide +kernel
theorem dX7_set_11 : decode cX7_set 11 = .ok (.iload_n 1, 1) := by decide +kernel
theorem dX7_set_12 : decode cX7_set 12 = .ok (.iload_n 2, 1) := by decide +kernel
theorem dX7_set_13 : decode cX7_set 13 = .ok (.iconst 1, 1) := by decide +kernel
theorem dX7_set_14 : decode cX7_set 14 = .ok (.invokevirtual 86, 3) := by decide +kernel
theorem dX7_set_17 : decode cX7_set 17 = .ok (.istore 4, 2) := by decide +kernel
theorem dX7_set_19 : decode cX7_set 19 = .ok (.iload 4, 2) := by decide +kernel
theorem dX7_set_21 : decode cX7_set 21 = .ok (.ifCond .eq 10, 3) := by decide +kernel
theorem dX7_set_24 : decode cX7_set 24 = .ok (.aload_n 0, 1) := by decide +kernel
theorem dX7_set_25 : decode cX7_set 25 = .ok (.iload 4, 2) := by decide +kernel
theorem dX7_set_27 : decode cX7_set 27 = .ok (.invokevirtual 74, 3) := by decide +kernel
theorem dX7_set_30 : decode cX7_set 30 = .ok (.ireturn, 1) := by decide +kernel
theorem dX7_set_31 : decode cX7_set 31 = .ok (.aload_n 0, 1) := by decide +kernel
theorem dX7_set_32 : decode cX7_set 32 = .ok (.iconst 0, 1) := by decide +kernel
theorem dX7_set_33 : decode cX7_set 33 = .ok (.putfield 78, 3) := by decide +kernel
theorem dX7_set_36 : decode cX7_set 36 = .ok (.aload_n 0, 1) := by decide +kernel
theorem dX7_set_37 : decode cX7_set 37 = .ok (.getfield 11, 3) := by decide +kernel
theorem dX7_set_40 : decode cX7_set 40 = .ok (.iload_n 1, 1) := by decide +kernel
theorem dX7_set_41 : decode cX7_set 41 = .ok (.aaload, 1) := by decide +kernel
theorem dX7_set_42 : decode cX7_set 42 = .ok (.iload_n 2, 1) := by decide +kernel
theorem dX7_set_43 : decode cX7_set 43 = .ok (.iload_n 3, 1) := by decide +kernel
theorem dX7_set_44 : decode cX7_set 44 = .ok (.invokevirtual 90, 3) := by decide +kernel
theorem dX7_set_47 : decode cX7_set 47 = .ok (.ireturn, 1) := by decide +kernel
set_option maxRecDepth 20000 in
theorem ggX7_copy_X7_isRow : GoodIn wsX7_copy wsX7_isRow := goodIn_r _ [13] (by decide +kernel) (by decide +kernel)
set_option maxRecDepth 20000 in
theorem gX7_copy_X7_isRow : GoodIn wsX7_copy (va_wsS RX7 69 yX7_isRow wsX7_isRow) := goodIn_app (goodIn_of _ (by decide +kernel)) ggX7_copy_X7_isRow
set_option maxRecDepth 20000 in
theorem ggX7_copy_X5_isMissing : GoodIn wsX7_copy wsX5_isMissing := goodIn_r _ [18, 19, 41, 42, 43] (by decide +kernel) (by decide +kernel)
set_option maxRecDepth 20000 in
theorem gX7_copy_X5_isMissing : GoodIn wsX7_copy (wsV RX7 94 RX5 yX5_isMissing wsX5_isMissing) := goodIn_app (goodIn_of _ (by decide +kernel)) ggX7_copy_X5_isMissing
set_option maxRecDepth 20000 in
theorem ggX7_copy_X7_found : GoodIn wsX7_copy wsX7_found := goodIn_r _ [23, 4, 24, 30, 31, 32, 33, 34, 35, 36, 37, 38, 39, 40] (by decide +kernel) (by decide +kernel)
set_option maxRecDepth 20000 in
theorem gX7_copy_X7_found : GoodIn wsX7_copy (wsV RX7 74 RX7 yX7_found wsX7_found) := goodIn_app (goodIn_of _ (by decide +kernel)) ggX7_copy_X7_found
set_option maxRecDepth 20000 in
theorem ggX7_copy_X5_has : GoodIn wsX7_copy wsX5_has := goodIn_r _ [28, 29, 41, 42, 43] (by decide +kernel) (by decide +kernel)
set_option maxRecDepth 20000 in
theorem gX7_copy_X5_has : GoodIn wsX7_copy (wsV RX7 101 RX5 yX5_has wsX5_has) := goodIn_app (goodIn_of _ (by decide +kernel)) ggX7_copy_X5_has
theorem dX7_copy_0 : decode cX7_copy 0 = .ok (.iload_n 1, 1) := by decide +kernel
theorem dX7_copy_1 : decode cX7_copy 1 = .ok (.invokestatic 69, 3) := by decide +kernel
theorem dX7_copy_4 : decode cX7_copy 4 = .ok (.ifCond .eq 10, 3) := by decide +kernel
theorem dX7_copy_7 : decode cX7_copy 7 = .ok (.iload_n 3, 1) := by decide +kernel
theorem dX7_copy_8 : decode cX7_copy 8 = .ok (.invokestatic 69, 3) := by decide +kernel
theorem dX7_copy_11 : decode cX7_copy 11 = .ok (.ifCond .ne 6, 3) := by decide +kernel
theorem dX7_copy_14 : decode cX7_copy 14 = .ok (.ldc 73, 2) := by decide +kernel
theorem dX7_copy_16 : decode cX7_copy 16 = .ok (.ireturn, 1) := by decide +kernel
theorem dX7_copy_17 : decode cX7_copy 17 = .ok (.aload_n 0, 1) := by decide +kernel
theorem dX7_copy_18 : decode cX7_copy 18 = .ok (.getfield 11, 3) := by decide +kernel
theorem dX7_copy_21 : decode cX7_copy 21 = .ok (.iload_n 1, 1) := by decide +kernel
theorem dX7_copy_22 : decode cX7_copy 22 = .ok (.aaload, 1) := by decide +kernel
theorem dX7_copy_23 : decode cX7_copy 23 = .ok (.astore 6, 2) := by decide +kernel
theorem dX7_copy_25 : decode cX7_copy 25 = .ok (.aload_n 0, 1) := by decide +kernel
theorem dX7_copy_26 : decode cX7_copy 26 = .ok (.getfield 11, 3) := by decide +kernel
theorem dX7_copy_29 : decode cX7_copy 29 = .ok (.iload_n 3, 1) := by decide +kernel
theorem dX7_copy_30 : decode cX7_copy 30 = .ok (.aaload, 1) := by decide +kernel
theorem dX7_copy_31 : decode cX7_copy 31 = .ok (.astore 7, 2) := by decide +kernel
theorem dX7_copy_33 : decode cX7_copy 33 = .ok (.aload 6, 2) := by decide +kernel
theorem dX7_copy_35 : decode cX7_copy 35 = .ok (.invokevirtual 94, 3) := by decide +kernel
theorem dX7_copy_38 : decode cX7_copy 38 = .ok (.ifCond .ne 11, 3) := by decide +kernel
theorem dX7_copy_41 : decode cX7_copy 41 = .ok (.aload 7, 2) := by decide +kernel
theorem dX7_copy_43 : decode cX7_copy 43 = .ok (.invokevirtual 94, 3) := by decide +kernel
theorem dX7_copy_46 : decode cX7_copy 46 = .ok (.ifCond .eq 9, 3) := by decide +kernel
theorem dX7_copy_49 : decode cX7_copy 49 = .ok (.aload_n 0, 1) := by decide +kernel
theorem dX7_copy_50 : decode cX7_copy 50 = .ok (.iconst 1, 1) := by decide +kernel
theorem dX7_copy_51 : decode cX7_copy 51 = .ok (.invokevirtual 74, 3) := by decide +kernel
theorem dX7_copy_54 : decode cX7_copy 54 = .ok (.ireturn, 1) := by decide +kernel
theorem dX7_copy_55 : decode cX7_copy 55 = .ok (.aload 6, 2) := by decide +kernel
theorem dX7_copy_57 : decode cX7_copy 57 = .ok (.getfield 98, 3) := by decide +kernel
theorem dX7_copy_60 : decode cX7_copy 60 = .ok (.aload 7, 2) := by decide +kernel
theorem dX7_copy_62 : decode cX7_copy 62 = .ok (.getfield 98, 3) := by decide +kernel
theorem dX7_copy_65 : decode cX7_copy 65 = .ok (.if_icmp .eq 9, 3) := by decide +kernel
theorem dX7_copy_68 : decode cX7_copy 68 = .ok (.aload_n 0, 1) := by decide +kernel
theorem dX7_copy_69 : decode cX7_copy 69 = .ok (.iconst 5, 1) := by decide +kernel
theorem dX7_copy_70 : decode cX7_copy 70 = .ok (.invokevirtual 74, 3) := by decide +kernel
theorem dX7_copy_73 : decode cX7_copy 73 = .ok (.ireturn, 1) := by decide +kernel
theorem dX7_copy_74 : decode cX7_copy 74 = .ok (.aload 6, 2) := by decide +kernel
theorem dX7_copy_76 : decode cX7_copy 76 = .ok (.iload_n 2, 1) := by decide +kernel
theorem dX7_copy_77 : decode cX7_copy 77 = .ok (.iload 5, 2) := by decide +kernel
theorem dX7_copy_79 : decode cX7_copy 79 = .ok (.invokevirtual 101, 3) := by decide +kernel
theorem dX7_copy_82 : decode cX7_copy 82 = .ok (.ifCond .eq 15, 3) := by decide +kernel
theorem dX7_copy_85 : decode cX7_copy 85 = .ok (.aload 7, 2) := by decide +kernel
theorem dX7_copy_87 : decode cX7_copy 87 = .ok (.iload 4, 2) := by decide +kernel
theorem dX7_copy_89 : decode cX7_copy 89 = .ok (.iload 5, 2) := by decide +kernel
theorem dX7_copy_91 : decode cX7_copy 91 = .ok (.invokevirtual 101, 3) := by decide +kernel
theorem dX7_copy_94 : decode cX7_copy 94 = .ok (.ifCond .ne 9, 3) := by decide +kernel
theorem dX7_copy_97 : decode cX7_copy 97 = .ok (.aload_n 0, 1) := by decide +kernel
theorem dX7_copy_98 : decode cX7_copy 98 = .ok (.iconst 2, 1) := by decide +kernel
theorem dX7_copy_99 : decode cX7_copy 99 = .ok (.invokevirtual 74, 3) := by decide +kernel
theorem dX7_copy_102 : decode cX7_copy 102 = .ok (.ireturn, 1) := by decide +kernel
theorem dX7_copy_103 : decode cX7_copy 103 = .ok (.aload_n 0, 1) := by decide +kernel
theorem dX7_copy_104 : decode cX7_copy 104 = .ok (.iconst 0, 1) := by decide +kernel
theorem dX7_copy_105 : decode cX7_copy 105 = .ok (.putfield 78, 3) := by decide +kernel
theorem dX7_copy_108 : decode cX7_copy 108 = .ok (.aload 6, 2) := by decide +kernel
theorem dX7_copy_110 : decode cX7_copy 110 = .ok (.getfield 105, 3) := by decide +kernel
theorem dX7_copy_113 : decode cX7_copy 113 = .ok (.iload_n 2, 1) := by decide +kernel
theorem dX7_copy_114 : decode cX7_copy 114 = .ok (.aload 7, 2) := by decide +kernel
theorem dX7_copy_116 : decode cX7_copy 116 = .ok (.getfield 105, 3) := by decide +kernel
theorem dX7_copy_119 : decode cX7_copy 119 = .ok (.iload 4, 2) := by decide +kernel
theorem dX7_copy_121 : decode cX7_copy 121 = .ok (.iload 5, 2) := by decide +kernel
theorem dX7_copy_123 : decode cX7_copy 123 = .ok (.invokestatic 108, 3) := by decide +kernel
theorem dX7_copy_126 : decode cX7_copy 126 = .ok (.iload 5, 2) := by decide +kernel
theorem dX7_copy_128 : decode cX7_copy 128 = .ok (.ireturn, 1) := by decide +kernel
set_option maxRecDepth 20000 in
theorem ggX7_drop_X7_isRow : GoodIn wsX7_drop wsX7_isRow := goodIn_r _ [7] (by decide +kernel) (by decide +kernel)
set_option maxRecDepth 20000 in
theorem gX7_drop_X7_isRow : GoodIn wsX7_drop (va_wsS RX7 69 yX7_isRow wsX7_isRow) := goodIn_app (goodIn_of _ (by decide +kernel)) ggX7_drop_X7_isRow
set_option maxRecDepth 20000 in
theorem ggX7_drop_X5_isMissing : GoodIn wsX7_drop wsX5_isMissing := goodIn_r _ [12, 13, 35, 36, 37] (by decide +kernel) (by decide +kernel)
set_option maxRecDepth 20000 in
theorem gX7_drop_X5_isMissing : GoodIn wsX7_drop (wsV RX7 94 RX5 yX5_isMissing wsX5_isMissing) := goodIn_app (goodIn_of _ (by decide +kernel)) ggX7_drop_X5_isMissing
set_option maxRecDepth 20000 in
theorem ggX7_drop_X7_found : GoodIn wsX7_drop wsX7_found := goodIn_r _ [17, 3, 18, 24, 25, 26, 27, 28, 29, 30, 31, 32, 33, 34] (by decide +kernel) (by decide +kernel)
set_option maxRecDepth 20000 in
theorem gX7_drop_X7_found : GoodIn wsX7_drop (wsV RX7 74 RX7 yX7_found wsX7_found) := goodIn_app (goodIn_of _ (by decide +kernel)) ggX7_drop_X7_found
set_option maxRecDepth 20000 in
theorem ggX7_drop_X5_clear : GoodIn wsX7_drop wsX5_clear := goodIn_r _ [22, 23, 13, 35, 36, 37] (by decide +kernel) (by decide +kernel)
set_option maxRecDepth 20000 in
theorem gX7_drop_X5_clear : GoodIn wsX7_drop (wsV RX7 114 RX5 yX5_clear wsX5_clear) := goodIn_app (goodIn_of _ (by decide +kernel)) ggX7_drop_X5_clear
theorem dX7_drop_0 : decode cX7_drop 0 = .ok (.iload_n 1, 1) := by decide +kernel
theorem dX7_drop_1 : decode cX7_drop 1 = .ok (.invokestatic 69, 3) := by decide +kernel
theorem dX7_drop_4 : decode cX7_drop 4 = .ok (.ifCond .ne 6, 3) := by decide +kernel
theorem dX7_drop_7 : decode cX7_drop 7 = .ok (.ldc 73, 2) := by decide +kernel
theorem dX7_drop_9 : decode cX7_drop 9 = .ok (.ireturn, 1) := by decide +kernel
theorem dX7_drop_10 : decode cX7_drop 10 = .ok (.aload_n 0, 1) := by decide +kernel
theorem dX7_drop_11 : decode cX7_drop 11 = .ok (.getfield 11, 3) := by decide +kernel
theorem dX7_drop_14 : decode cX7_drop 14 = .ok (.iload_n 1, 1) := by decide +kernel
theorem dX7_drop_15 : decode cX7_drop 15 = .ok (.aaload, 1) := by decide +kernel
theorem dX7_drop_16 : decode cX7_drop 16 = .ok (.invokevirtual 94, 3) := by decide +kernel
theorem dX7_drop_19 : decode cX7_drop 19 = .ok (.ifCond .eq 9, 3) := by decide +kernel
theorem dX7_drop_22 : decode cX7_drop 22 = .ok (.aload_n 0, 1) := by decide +kernel
theorem dX7_drop_23 : decode cX7_drop 23 = .ok (.iconst 1, 1) := by decide +kernel
theorem dX7_drop_24 : decode cX7_drop 24 = .ok (.invokevirtual 74, 3) := by decide +kernel
theorem dX7_drop_27 : decode cX7_drop 27 = .ok (.ireturn, 1) := by decide +kernel
theorem dX7_drop_28 : decode cX7_drop 28 = .ok (.aload_n 0, 1) := by decide +kernel
theorem dX7_drop_29 : decode cX7_drop 29 = .ok (.iconst 0, 1) := by decide +kernel
theorem dX7_drop_30 : decode cX7_drop 30 = .ok (.putfield 78, 3) := by decide +kernel
theorem dX7_drop_33 : decode cX7_drop 33 = .ok (.aload_n 0, 1) := by decide +kernel
theorem dX7_drop_34 : decode cX7_drop 34 = .ok (.getfield 11, 3) := by decide +kernel
theorem dX7_drop_37 : decode cX7_drop 37 = .ok (.iload_n 1, 1) := by decide +kernel
theorem dX7_drop_38 : decode cX7_drop 38 = .ok (.aaload, 1) := by decide +kernel
theorem dX7_drop_39 : decode cX7_drop 39 = .ok (.invokevirtual 114, 3) := by decide +kernel
theorem dX7_drop_42 : decode cX7_drop 42 = .ok (.ireturn, 1) := by decide +kernel
set_option maxRecDepth 20000 in
theorem ggX7_feed_X6_add : GoodIn wsX7_feed wsX6_add := goodIn_r _ [9, 10, 11, 23, 24, 25, 26, 27] (by decide +kernel) (by decide +kernel)
set_option maxRecDepth 20000 in
theorem gX7_feed_X6_add : GoodIn wsX7_feed (wsV RX7 118 RX6 yX6_add wsX6_add) := goodIn_app (goodIn_of _ (by decide +kernel)) ggX7_feed_X6_add
theorem dX7_feed_0 : decode cX7_feed 0 = .ok (.iload_n 1, 1) := by decide +kernel
theorem dX7_feed_1 : decode cX7_feed 1 = .ok (.ifCond .lt 10, 3) := by decide +kernel
theorem dX7_feed_4 : decode cX7_feed 4 = .ok (.iload_n 1, 1) := by decide +kernel
theorem dX7_feed_5 : decode cX7_feed 5 = .ok (.sipush 255, 3) := by decide +kernel
theorem dX7_feed_8 : decode cX7_feed 8 = .ok (.if_icmp .le 6, 3) := by decide +kernel
theorem dX7_feed_11 : decode cX7_feed 11 = .ok (.ldc 73, 2) := by decide +kernel
theorem dX7_feed_13 : decode cX7_feed 13 = .ok (.ireturn, 1) := by decide +kernel
theorem dX7_feed_14 : decode cX7_feed 14 = .ok (.aload_n 0, 1) := by decide +kernel
theorem dX7_feed_15 : decode cX7_feed 15 = .ok (.getfield 18, 3) := by decide +kernel
theorem dX7_feed_18 : decode cX7_feed 18 = .ok (.iload_n 1, 1) := by decide +kernel
theorem dX7_feed_19 : decode cX7_feed 19 = .ok (.invokevirtual 118, 3) := by decide +kernel
theorem dX7_feed_22 : decode cX7_feed 22 = .ok (.ifCond .eq 13, 3) := by decide +kernel
theorem dX7_feed_25 : decode cX7_feed 25 = .ok (.aload_n 0, 1) := by decide +kernel
theorem dX7_feed_26 : decode cX7_feed 26 = .ok (.getfield 18, 3) := by decide +kernel
theorem dX7_feed_29 : decode cX7_feed 29 = .ok (.getfield 121, 3) := by decide +kernel
theorem dX7_feed_32 : decode cX7_feed 32 = .ok (.goto 5, 3) := by decide +kernel
theorem dX7_feed_35 : decode cX7_feed 35 = .ok (.ldc 124, 2) := by decide +kernel
theorem dX7_feed_37 : decode cX7_feed 37 = .ok (.ireturn, 1) := by decide +kernel
set_option maxRecDepth 20000 in
theorem ggX7_saints_X6_read : GoodIn wsX7_saints wsX6_read := goodIn_r _ [11, 12, 13, 14, 15, 16, 17, 18, 10, 19, 20, 21, 22, 23, 24, 25, 26, 27, 28, 29, 30, 31, 32, 33, 34, 35, 36, 37, 38, 39, 40, 41, 42, 43, 44, 45, 46, 47, 48, 49, 50, 51, 52, 53, 54, 55, 56, 57, 58, 59, 60, 61, 62, 63, 64, 65, 66, 67, 68, 69, 70, 71, 72, 73, 74, 75, 76, 77, 78, 79, 80, 81, 82, 83, 84, 85, 86, 87, 88, 89, 90, 91, 92, 93, 94, 95, 96, 97, 98, 99, 100, 101, 102, 103, 104, 105, 106, 107, 108, 109, 110, 111, 112, 113, 114, 115, 116, 117, 118, 119, 120, 121, 122, 123, 124, 125, 126, 127, 128, 129, 130, 131, 132, 133, 134, 135, 136, 137, 138, 139, 140, 141, 142, 143, 144, 145, 146, 147, 148, 149, 150, 151, 152, 153, 154, 155, 156, 157, 158, 159, 189, 190, 191, 192, 193, 194, 195, 196, 197, 198] (by decide +kernel) (by decide +kernel)
set_option maxRecDepth 20000 in
theorem gX7_saints_X6_read : GoodIn wsX7_saints (wsV RX7 125 RX6 yX6_read wsX6_read) := goodIn_app (goodIn_of _ (by decide +kernel)) ggX7_saints_X6_read
set_option maxRecDepth 20000 in
theorem ggX7_saints_X4_become : GoodIn wsX7_saints wsX4_become := goodIn_r _ [163, 164, 165, 166, 167, 168, 153, 152, 169, 170, 194, 195, 196, 197, 198] (by decide +kernel) (by decide +kernel)
set_option maxRecDepth 20000 in
theorem gX7_saints_X4_become : GoodIn wsX7_saints (wsV RX7 132 RX4 yX4_become wsX4_become) := goodIn_app (goodIn_of _ (by decide +kernel)) ggX7_saints_X4_become
set_option maxRecDepth 20000 in
theorem ggX7_saints_X0_forget : GoodIn wsX7_saints wsX0_forget := goodIn_r _ [175, 176, 177, 199, 200, 201, 202, 203] (by decide +kernel) (by decide +kernel)
set_option maxRecDepth 20000 in
theorem gX7_saints_X0_forget : GoodIn wsX7_saints (wsV RX7 136 RX0 yX0_forget wsX0_forget) := goodIn_app (goodIn_of _ (by decide +kernel)) ggX7_saints_X0_forget
theorem dX7_saints_0 : decode cX7_saints 0 = .ok (.aload_n 0, 1) := by decide +kernel
theorem dX7_saints_1 : decode cX7_saints 1 = .ok (.getfield 18, 3) := by decide +kernel
theorem dX7_saints_4 : decode cX7_saints 4 = .ok (.invokevirtual 125, 3) := by decide +kernel
theorem dX7_saints_7 : decode cX7_saints 7 = .ok (.istore_n 1, 1) := by decide +kernel
theorem dX7_saints_8 : decode cX7_saints 8 = .ok (.iload_n 1, 1) := by decide +kernel
theorem dX7_saints_9 : decode cX7_saints 9 = .ok (.ifCond .lt 8, 3) := by decide +kernel
theorem dX7_saints_12 : decode cX7_saints 12 = .ok (.ldc 128, 2) := by decide +kernel
theorem dX7_saints_14 : decode cX7_saints 14 = .ok (.iload_n 1, 1) := by decide +kernel
theorem dX7_saints_15 : decode cX7_saints 15 = .ok (.isub, 1) := by decide +kernel
theorem dX7_saints_16 : decode cX7_saints 16 = .ok (.ireturn, 1) := by decide +kernel
theorem dX7_saints_17 : decode cX7_saints 17 = .ok (.aload_n 0, 1) := by decide +kernel
theorem dX7_saints_18 : decode cX7_saints 18 = .ok (.getfield 25, 3) := by decide +kernel
theorem dX7_saints_21 : decode cX7_saints 21 = .ok (.aload_n 0, 1) := by decide +kernel
theorem dX7_saints_22 : decode cX7_saints 22 = .ok (.getfield 18, 3) := by decide +kernel
theorem dX7_saints_25 : decode cX7_saints 25 = .ok (.getfield 129, 3) := by decide +kernel
theorem dX7_saints_28 : decode cX7_saints 28 = .ok (.invokevirtual 132, 3) := by decide +kernel
theorem dX7_saints_31 : decode cX7_saints 31 = .ok (.aload_n 0, 1) := by decide +kernel
theorem dX7_saints_32 : decode cX7_saints 32 = .ok (.getfield 39, 3) := by decide +kernel
theorem dX7_saints_35 : decode cX7_saints 35 = .ok (.invokevirtual 136, 3) := by decide +kernel
theorem dX7_saints_38 : decode cX7_saints 38 = .ok (.aload_n 0, 1) := by decide +kernel
theorem dX7_saints_39 : decode cX7_saints 39 = .ok (.getfield 25, 3) := by decide +kernel
theorem dX7_saints_42 : decode cX7_saints 42 = .ok (.getfield 139, 3) := by decide +kernel
theorem dX7_saints_45 : decode cX7_saints 45 = .ok (.ireturn, 1) := by decide +kernel
theorem dX7_fault_0 : decode cX7_fault 0 = .ok (.aload_n 0, 1) := by decide +kernel
theorem dX7_fault_1 : decode cX7_fault 1 = .ok (.getfield 18, 3) := by decide +kernel
theorem dX7_fault_4 : decode cX7_fault 4 = .ok (.getfield 140, 3) := by decide +kernel
theorem dX7_fault_7 : decode cX7_fault 7 = .ok (.ireturn, 1) := by decide +kernel
set_option maxRecDepth 20000 in
theorem ggX7_steps_X0_keep : GoodIn wsX7_steps wsX0_keep := goodIn_r _ [12, 13, 14, 15, 16, 17, 18, 19, 20, 21, 22, 23, 24, 25, 26, 86, 87, 88, 89, 90, 81, 82, 83, 84, 85] (by decide +kernel) (by decide +kernel)
set_option maxRecDepth 20000 in
theorem gX7_steps_X0_keep : GoodIn wsX7_steps (wsV RX7 147 RX0 yX0_keep wsX0_keep) := goodIn_app (goodIn_of _ (by decide +kernel)) ggX7_steps_X0_keep
set_option maxRecDepth 20000 in
theorem ggX7_steps_X4_advance : GoodIn wsX7_steps wsX4_advance := goodIn_r _ [30, 25, 31, 32, 33, 34, 23, 35, 36, 26, 37, 38, 39, 40, 41, 42, 43, 44, 45, 46, 47, 48, 49, 50, 51, 52, 53, 54, 55, 56, 57, 58, 59, 60, 61, 62, 63, 64, 65, 66, 67, 68, 69, 81, 82, 83, 84, 85] (by decide +kernel) (by decide +kernel)
set_option maxRecDepth 20000 in
theorem gX7_steps_X4_advance : GoodIn wsX7_steps (wsV RX7 150 RX4 yX4_advance wsX4_advance) := goodIn_app (goodIn_of _ (by decide +kernel)) ggX7_steps_X4_advance
theorem dX7_steps_0 : decode cX7_steps 0 = .ok (.aload_n 0, 1) := by decide +kernel
theorem dX7_steps_1 : decode cX7_steps 1 = .ok (.getfield 25, 3) := by decide +kernel
theorem dX7_steps_4 : decode cX7_steps 4 = .ok (.getfield 139, 3) := by decide +kernel
theorem dX7_steps_7 : decode cX7_steps 7 = .ok (.ifCond .ne 6, 3) := by decide +kernel
theorem dX7_steps_10 : decode cX7_steps 10 = .ok (.ldc 143, 2) := by decide +kernel
theorem dX7_steps_12 : decode cX7_steps 12 = .ok (.ireturn, 1) := by decide +kernel
theorem dX7_steps_13 : decode cX7_steps 13 = .ok (.iload_n 1, 1) := by decide +kernel
theorem dX7_steps_14 : decode cX7_steps 14 = .ok (.iconst 1, 1) := by decide +kernel
theorem dX7_steps_15 : decode cX7_steps 15 = .ok (.if_icmp .lt 9, 3) := by decide +kernel
theorem dX7_steps_18 : decode cX7_steps 18 = .ok (.iload_n 1, 1) := by decide +kernel
theorem dX7_steps_19 : decode cX7_steps 19 = .ok (.bipush 24, 2) := by decide +kernel
theorem dX7_steps_21 : decode cX7_steps 21 = .ok (.if_icmp .le 6, 3) := by decide +kernel
theorem dX7_steps_24 : decode cX7_steps 24 = .ok (.ldc 73, 2) := by decide +kernel
theorem dX7_steps_26 : decode cX7_steps 26 = .ok (.ireturn, 1) := by decide +kernel
theorem dX7_steps_27 : decode cX7_steps 27 = .ok (.aload_n 0, 1) := by decide +kernel
theorem dX7_steps_28 : decode cX7_steps 28 = .ok (.getfield 25, 3) := by decide +kernel
theorem dX7_steps_31 : decode cX7_steps 31 = .ok (.getfield 144, 3) := by decide +kernel
theorem dX7_steps_34 : decode cX7_steps 34 = .ok (.iload_n 1, 1) := by decide +kernel
theorem dX7_steps_35 : decode cX7_steps 35 = .ok (.iadd, 1) := by decide +kernel
theorem dX7_steps_36 : decode cX7_steps 36 = .ok (.sipush 9999, 3) := by decide +kernel
theorem dX7_steps_39 : decode cX7_steps 39 = .ok (.if_icmp .le 6, 3) := by decide +kernel
theorem dX7_steps_42 : decode cX7_steps 42 = .ok (.ldc 124, 2) := by decide +kernel
theorem dX7_steps_44 : decode cX7_steps 44 = .ok (.ireturn, 1) := by decide +kernel
theorem dX7_steps_45 : decode cX7_steps 45 = .ok (.iconst 0, 1) := by decide +kernel
theorem dX7_steps_46 : decode cX7_steps 46 = .ok (.istore_n 2, 1) := by decide +kernel
theorem dX7_steps_47 : decode cX7_steps 47 = .ok (.iload_n 2, 1) := by decide +kernel
theorem dX7_steps_48 : decode cX7_steps 48 = .ok (.iload_n 1, 1) := by decide +kernel
theorem dX7_steps_49 : decode cX7_steps 49 = .ok (.if_icmp .ge 28, 3) := by decide +kernel
theorem dX7_steps_52 : decode cX7_steps 52 = .ok (.aload_n 0, 1) := by decide +kernel
theorem dX7_steps_53 : decode cX7_steps 53 = .ok (.getfield 39, 3) := by decide +kernel
theorem dX7_steps_56 : decode cX7_steps 56 = .ok (.aload_n 0, 1) := by decide +kernel
theorem dX7_steps_57 : decode cX7_steps 57 = .ok (.getfield 25, 3) := by decide +kernel
theorem dX7_steps_60 : decode cX7_steps 60 = .ok (.invokevirtual 147, 3) := by decide +kernel
theorem dX7_steps_63 : decode cX7_steps 63 = .ok (.aload_n 0, 1) := by decide +kernel
theorem dX7_steps_64 : decode cX7_steps 64 = .ok (.getfield 25, 3) := by decide +kernel
theorem dX7_steps_67 : decode cX7_steps 67 = .ok (.iconst 0, 1) := by decide +kernel
theorem dX7_steps_68 : decode cX7_steps 68 = .ok (.invokevirtual 150, 3) := by decide +kernel
theorem dX7_steps_71 : decode cX7_steps 71 = .ok (.iinc 2 1, 3) := by decide +kernel
theorem dX7_steps_74 : decode cX7_steps 74 = .ok (.goto (-27), 3) := by decide +kernel
theorem dX7_steps_77 : decode cX7_steps 77 = .ok (.aload_n 0, 1) := by decide +kernel
theorem dX7_steps_78 : decode cX7_steps 78 = .ok (.getfield 25, 3) := by decide +kernel
theorem dX7_steps_81 : decode cX7_steps 81 = .ok (.getfield 144, 3) := by decide +kernel
theorem dX7_steps_84 : decode cX7_steps 84 = .ok (.ireturn, 1) := by decide +kernel
set_option maxRecDepth 20000 in
theorem ggX7_swap_X4_isSaint : GoodIn wsX7_swap wsX4_isSaint := goodIn_r _ [9, 10, 43, 44, 45, 46, 47] (by decide +kernel) (by decide +kernel)
set_option maxRecDepth 20000 in
theorem gX7_swap_X4_isSaint : GoodIn wsX7_swap (wsV RX7 154 RX4 yX4_isSaint wsX4_isSaint) := goodIn_app (goodIn_of _ (by decide +kernel)) ggX7_swap_X4_isSaint
set_option maxRecDepth 20000 in
theorem ggX7_swap_X0_keep : GoodIn wsX7_swap wsX0_keep := goodIn_r _ [15, 16, 17, 18, 19, 20, 21, 22, 23, 24, 25, 8, 26, 10, 27, 48, 49, 50, 51, 52, 43, 44, 45, 46, 47] (by decide +kernel) (by decide +kernel)
set_option maxRecDepth 20000 in
theorem gX7_swap_X0_keep : GoodIn wsX7_swap (wsV RX7 147 RX0 yX0_keep wsX0_keep) := goodIn_app (goodIn_of _ (by decide +kernel)) ggX7_swap_X0_keep
set_option maxRecDepth 20000 in
theorem ggX7_swap_X4_exchange : GoodIn wsX7_swap wsX4_exchange := goodIn_r _ [31, 27, 43, 44, 45, 46, 47] (by decide +kernel) (by decide +kernel)
set_option maxRecDepth 20000 in
theorem gX7_swap_X4_exchange : GoodIn wsX7_swap (wsV RX7 157 RX4 yX4_exchange wsX4_exchange) := goodIn_app (goodIn_of _ (by decide +kernel)) ggX7_swap_X4_exchange
theorem dX7_swap_0 : decode cX7_swap 0 = .ok (.aload_n 0, 1) := by decide +kernel
theorem dX7_swap_1 : decode cX7_swap 1 = .ok (.getfield 25, 3) := by decide +kernel
theorem dX7_swap_4 : decode cX7_swap 4 = .ok (.iload_n 1, 1) := by decide +kernel
theorem dX7_swap_5 : decode cX7_swap 5 = .ok (.invokevirtual 154, 3) := by decide +kernel
theorem dX7_swap_8 : decode cX7_swap 8 = .ok (.ifCond .eq 19, 3) := by decide +kernel
theorem dX7_swap_11 : decode cX7_swap 11 = .ok (.aload_n 0, 1) := by decide +kernel
theorem dX7_swap_12 : decode cX7_swap 12 = .ok (.getfield 25, 3) := by decide +kernel
theorem dX7_swap_15 : decode cX7_swap 15 = .ok (.iload_n 2, 1) := by decide +kernel
theorem dX7_swap_16 : decode cX7_swap 16 = .ok (.invokevirtual 154, 3) := by decide +kernel
theorem dX7_swap_19 : decode cX7_swap 19 = .ok (.ifCond .eq 8, 3) := by decide +kernel
theorem dX7_swap_22 : decode cX7_swap 22 = .ok (.iload_n 1, 1) := by decide +kernel
theorem dX7_swap_23 : decode cX7_swap 23 = .ok (.iload_n 2, 1) := by decide +kernel
theorem dX7_swap_24 : decode cX7_swap 24 = .ok (.if_icmp .ne 6, 3) := by decide +kernel
theorem dX7_swap_27 : decode cX7_swap 27 = .ok (.ldc 73, 2) := by decide +kernel
theorem dX7_swap_29 : decode cX7_swap 29 = .ok (.ireturn, 1) := by decide +kernel
theorem dX7_swap_30 : decode cX7_swap 30 = .ok (.aload_n 0, 1) := by decide +kernel
theorem dX7_swap_31 : decode cX7_swap 31 = .ok (.getfield 39, 3) := by decide +kernel
theorem dX7_swap_34 : decode cX7_swap 34 = .ok (.aload_n 0, 1) := by decide +kernel
theorem dX7_swap_35 : decode cX7_swap 35 = .ok (.getfield 25, 3) := by decide +kernel
theorem dX7_swap_38 : decode cX7_swap 38 = .ok (.invokevirtual 147, 3) := by decide +kernel
theorem dX7_swap_41 : decode cX7_swap 41 = .ok (.aload_n 0, 1) := by decide +kernel
theorem dX7_swap_42 : decode cX7_swap 42 = .ok (.getfield 25, 3) := by decide +kernel
theorem dX7_swap_45 : decode cX7_swap 45 = .ok (.iload_n 1, 1) := by decide +kernel
theorem dX7_swap_46 : decode cX7_swap 46 = .ok (.iload_n 2, 1) := by decide +kernel
theorem dX7_swap_47 : decode cX7_swap 47 = .ok (.invokevirtual 157, 3) := by decide +kernel
theorem dX7_swap_50 : decode cX7_swap 50 = .ok (.bipush 10, 2) := by decide +kernel
theorem dX7_swap_52 : decode cX7_swap 52 = .ok (.aload_n 0, 1) := by decide +kernel
theorem dX7_swap_53 : decode cX7_swap 53 = .ok (.getfield 25, 3) := by decide +kernel
theorem dX7_swap_56 : decode cX7_swap 56 = .ok (.getfield 160, 3) := by decide +kernel
theorem dX7_swap_59 : decode cX7_swap 59 = .ok (.iload_n 1, 1) := by decide +kernel
theorem dX7_swap_60 : decode cX7_swap 60 = .ok (.iaload, 1) := by decide +kernel
theorem dX7_swap_61 : decode cX7_swap 61 = .ok (.imul, 1) := by decide +kernel
theorem dX7_swap_62 : decode cX7_swap 62 = .ok (.aload_n 0, 1) := by decide +kernel
theorem dX7_swap_63 : decode cX7_swap 63 = .ok (.getfield 25, 3) := by decide +kernel
theorem dX7_swap_66 : decode cX7_swap 66 = .ok (.getfield 160, 3) := by decide +kernel
theorem dX7_swap_69 : decode cX7_swap 69 = .ok (.iload_n 2, 1) := by decide +kernel
theorem dX7_swap_70 : decode cX7_swap 70 = .ok (.iaload, 1) := by decide +kernel
theorem dX7_swap_71 : decode cX7_swap 71 = .ok (.iadd, 1) := by decide +kernel
theorem dX7_swap_72 : decode cX7_swap 72 = .ok (.ireturn, 1) := by decide +kernel
set_option maxRecDepth 20000 in
theorem ggX7_night_X0_keep : GoodIn wsX7_night wsX0_keep := goodIn_r _ [11, 12, 13, 14, 15, 16, 17, 18, 19, 20, 21, 22, 23, 24, 25, 42, 43, 44, 45, 46, 37, 38, 39, 40, 41] (by decide +kernel) (by decide +kernel)
set_option maxRecDepth 20000 in
theorem gX7_night_X0_keep : GoodIn wsX7_night (wsV RX7 147 RX0 yX0_keep wsX0_keep) := goodIn_app (goodIn_of _ (by decide +kernel)) ggX7_night_X0_keep
theorem dX7_night_0 : decode cX7_night 0 = .ok (.aload_n 0, 1) := by decide +kernel
theorem dX7_night_1 : decode cX7_night 1 = .ok (.getfield 25, 3) := by decide +kernel
theorem dX7_night_4 : decode cX7_night 4 = .ok (.getfield 139, 3) := by decide +kernel
theorem dX7_night_7 : decode cX7_night 7 = .ok (.ifCond .ne 6, 3) := by decide +kernel
theorem dX7_night_10 : decode cX7_night 10 = .ok (.ldc 143, 2) := by decide +kernel
theorem dX7_night_12 : decode cX7_night 12 = .ok (.ireturn, 1) := by decide +kernel
theorem dX7_night_13 : decode cX7_night 13 = .ok (.iload_n 1, 1) := by decide +kernel
theorem dX7_night_14 : decode cX7_night 14 = .ok (.iconst 1, 1) := by decide +kernel
theorem dX7_night_15 : decode cX7_night 15 = .ok (.if_icmp .lt 9, 3) := by decide +kernel
theorem dX7_night_18 : decode cX7_night 18 = .ok (.iload_n 1, 1) := by decide +kernel
theorem dX7_night_19 : decode cX7_night 19 = .ok (.bipush 9, 2) := by decide +kernel
theorem dX7_night_21 : decode cX7_night 21 = .ok (.if_icmp .le 6, 3) := by decide +kernel
theorem dX7_night_24 : decode cX7_night 24 = .ok (.ldc 73, 2) := by decide +kernel
theorem dX7_night_26 : decode cX7_night 26 = .ok (.ireturn, 1) := by decide +kernel
theorem dX7_night_27 : decode cX7_night 27 = .ok (.aload_n 0, 1) := by decide +kernel
theorem dX7_night_28 : decode cX7_night 28 = .ok (.getfield 25, 3) := by decide +kernel
theorem dX7_night_31 : decode cX7_night 31 = .ok (.getfield 163, 3) := by decide +kernel
theorem dX7_night_34 : decode cX7_night 34 = .ok (.istore_n 2, 1) := by decide +kernel
theorem dX7_night_35 : decode cX7_night 35 = .ok (.aload_n 0, 1) := by decide +kernel
theorem dX7_night_36 : decode cX7_night 36 = .ok (.getfield 39, 3) := by decide +kernel
theorem dX7_night_39 : decode cX7_night 39 = .ok (.aload_n 0, 1) := by decide +kernel
theorem dX7_night_40 : decode cX7_night 40 = .ok (.getfield 25, 3) := by decide +kernel
theorem dX7_night_43 : decode cX7_night 43 = .ok (.invokevirtual 147, 3) := by decide +kernel
theorem dX7_night_46 : decode cX7_night 46 = .ok (.aload_n 0, 1) := by decide +kernel
theorem dX7_night_47 : decode cX7_night 47 = .ok (.getfield 25, 3) := by decide +kernel
theorem dX7_night_50 : decode cX7_night 50 = .ok (.iload_n 1, 1) := by decide +kernel
theorem dX7_night_51 : decode cX7_night 51 = .ok (.putfield 163, 3) := by decide +kernel
theorem dX7_night_54 : decode cX7_night 54 = .ok (.iload_n 2, 1) := by decide +kernel
theorem dX7_night_55 : decode cX7_night 55 = .ok (.ireturn, 1) := by decide +kernel
set_option maxRecDepth 20000 in
theorem ggX7_undo_X0_takeBack : GoodIn wsX7_undo wsX0_takeBack := goodIn_r _ [9, 10, 11, 12, 13, 14, 15, 16, 17, 18, 19, 20, 21, 22, 23, 35, 36, 37, 38, 39, 40, 41, 42, 43, 44] (by decide +kernel) (by decide +kernel)
set_option maxRecDepth 20000 in
theorem gX7_undo_X0_takeBack : GoodIn wsX7_undo (wsV RX7 167 RX0 yX0_takeBack wsX0_takeBack) := goodIn_app (goodIn_of _ (by decide +kernel)) ggX7_undo_X0_takeBack
theorem dX7_undo_0 : decode cX7_undo 0 = .ok (.aload_n 0, 1) := by decide +kernel
theorem dX7_undo_1 : decode cX7_undo 1 = .ok (.getfield 39, 3) := by decide +kernel
theorem dX7_undo_4 : decode cX7_undo 4 = .ok (.getfield 166, 3) := by decide +kernel
theorem dX7_undo_7 : decode cX7_undo 7 = .ok (.ifCond .ne 6, 3) := by decide +kernel
theorem dX7_undo_10 : decode cX7_undo 10 = .ok (.ldc 143, 2) := by decide +kernel
theorem dX7_undo_12 : decode cX7_undo 12 = .ok (.ireturn, 1) := by decide +kernel
theorem dX7_undo_13 : decode cX7_undo 13 = .ok (.aload_n 0, 1) := by decide +kernel
theorem dX7_undo_14 : decode cX7_undo 14 = .ok (.getfield 39, 3) := by decide +kernel
theorem dX7_undo_17 : decode cX7_undo 17 = .ok (.aload_n 0, 1) := by decide +kernel
theorem dX7_undo_18 : decode cX7_undo 18 = .ok (.getfield 25, 3) := by decide +kernel
theorem dX7_undo_21 : decode cX7_undo 21 = .ok (.invokevirtual 167, 3) := by decide +kernel
theorem dX7_undo_24 : decode cX7_undo 24 = .ok (.aload_n 0, 1) := by decide +kernel
theorem dX7_undo_25 : decode cX7_undo 25 = .ok (.getfield 39, 3) := by decide +kernel
theorem dX7_undo_28 : decode cX7_undo 28 = .ok (.getfield 166, 3) := by decide +kernel
theorem dX7_undo_31 : decode cX7_undo 31 = .ok (.ireturn, 1) := by decide +kernel
set_option maxRecDepth 20000 in
theorem ggX7_saint_X4_isSaint : GoodIn wsX7_saint wsX4_isSaint := goodIn_r _ [8, 9, 31, 32, 33, 34, 35] (by decide +kernel) (by decide +kernel)
set_option maxRecDepth 20000 in
theorem gX7_saint_X4_isSaint : GoodIn wsX7_saint (wsV RX7 154 RX4 yX4_isSaint wsX4_isSaint) := goodIn_app (goodIn_of _ (by decide +kernel)) ggX7_saint_X4_isSaint
set_option maxRecDepth 20000 in
theorem ggX7_saint_X7_isFirstOrSecond : GoodIn wsX7_saint wsX7_isFirstOrSecond := goodIn_r _ [13] (by decide +kernel) (by decide +kernel)
set_option maxRecDepth 20000 in
theorem gX7_saint_X7_isFirstOrSecond : GoodIn wsX7_saint (va_wsS RX7 170 yX7_isFirstOrSecond wsX7_isFirstOrSecond) := goodIn_app (goodIn_of _ (by decide +kernel)) ggX7_saint_X7_isFirstOrSecond
set_option maxRecDepth 20000 in
theorem ggX7_saint_X4_lets : GoodIn wsX7_saint wsX4_lets := goodIn_r _ [17, 18, 19, 31, 32, 33, 34, 35] (by decide +kernel) (by decide +kernel)
set_option maxRecDepth 20000 in
theorem gX7_saint_X4_lets : GoodIn wsX7_saint (wsV RX7 173 RX4 yX4_lets wsX4_lets) := goodIn_app (goodIn_of _ (by decide +kernel)) ggX7_saint_X4_lets
theorem dX7_saint_0 : decode cX7_saint 0 = .ok (.aload_n 0, 1) := by decide +kernel
theorem dX7_saint_1 : decode cX7_saint 1 = .ok (.getfield 25, 3) := by decide +kernel
theorem dX7_saint_4 : decode cX7_saint 4 = .ok (.iload_n 1, 1) := by decide +kernel
theorem dX7_saint_5 : decode cX7_saint 5 = .ok (.invokevirtual 154, 3) := by decide +kernel
theorem dX7_saint_8 : decode cX7_saint 8 = .ok (.ifCond .eq 10, 3) := by decide +kernel
theorem dX7_saint_11 : decode cX7_saint 11 = .ok (.iload_n 2, 1) := by decide +kernel
theorem dX7_saint_12 : decode cX7_saint 12 = .ok (.invokestatic 170, 3) := by decide +kernel
theorem dX7_saint_15 : decode cX7_saint 15 = .ok (.ifCond .ne 6, 3) := by decide +kernel
theorem dX7_saint_18 : decode cX7_saint 18 = .ok (.ldc 73, 2) := by decide +kernel
theorem dX7_saint_20 : decode cX7_saint 20 = .ok (.ireturn, 1) := by decide +kernel
theorem dX7_saint_21 : decode cX7_saint 21 = .ok (.iload_n 2, 1) := by decide +kernel
theorem dX7_saint_22 : decode cX7_saint 22 = .ok (.ifCond .ne 13, 3) := by decide +kernel
theorem dX7_saint_25 : decode cX7_saint 25 = .ok (.aload_n 0, 1) := by decide +kernel
theorem dX7_saint_26 : decode cX7_saint 26 = .ok (.getfield 25, 3) := by decide +kernel
theorem dX7_saint_29 : decode cX7_saint 29 = .ok (.getfield 160, 3) := by decide +kernel
theorem dX7_saint_32 : decode cX7_saint 32 = .ok (.iload_n 1, 1) := by decide +kernel
theorem dX7_saint_33 : decode cX7_saint 33 = .ok (.iaload, 1) := by decide +kernel
theorem dX7_saint_34 : decode cX7_saint 34 = .ok (.ireturn, 1) := by decide +kernel
theorem dX7_saint_35 : decode cX7_saint 35 = .ok (.aload_n 0, 1) := by decide +kernel
theorem dX7_saint_36 : decode cX7_saint 36 = .ok (.getfield 25, 3) := by decide +kernel
theorem dX7_saint_39 : decode cX7_saint 39 = .ok (.iload_n 1, 1) := by decide +kernel
theorem dX7_saint_40 : decode cX7_saint 40 = .ok (.invokevirtual 173, 3) := by decide +kernel
theorem dX7_saint_43 : decode cX7_saint 43 = .ok (.ifCond .eq 7, 3) := by decide +kernel
theorem dX7_saint_46 : decode cX7_saint 46 = .ok (.iconst 1, 1) := by decide +kernel
theorem dX7_saint_47 : decode cX7_saint 47 = .ok (.goto 4, 3) := by decide +kernel
theorem dX7_saint_50 : decode cX7_saint 50 = .ok (.iconst 0, 1) := by decide +kernel
theorem dX7_saint_51 : decode cX7_saint 51 = .ok (.ireturn, 1) := by decide +kernel
set_option maxRecDepth 20000 in
theorem ggX7_holder_X7_isThing : GoodIn wsX7_holder wsX7_isThing := goodIn_r _ [6] (by decide +kernel) (by decide +kernel)
set_option maxRecDepth 20000 in
theorem gX7_holder_X7_isThing : GoodIn wsX7_holder (va_wsS RX7 176 yX7_isThing wsX7_isThing) := goodIn_app (goodIn_of _ (by decide +kernel)) ggX7_holder_X7_isThing
set_option maxRecDepth 20000 in
theorem ggX7_holder_X4_whoHas : GoodIn wsX7_holder wsX4_whoHas := goodIn_r _ [11, 12, 13, 14, 26, 27, 28, 29, 30] (by decide +kernel) (by decide +kernel)
set_option maxRecDepth 20000 in
theorem gX7_holder_X4_whoHas : GoodIn wsX7_holder (wsV RX7 179 RX4 yX4_whoHas wsX4_whoHas) := goodIn_app (goodIn_of _ (by decide +kernel)) ggX7_holder_X4_whoHas
theorem dX7_holder_0 : decode cX7_holder 0 = .ok (.iload_n 1, 1) := by decide +kernel
theorem dX7_holder_1 : decode cX7_holder 1 = .ok (.invokestatic 176, 3) := by decide +kernel
theorem dX7_holder_4 : decode cX7_holder 4 = .ok (.ifCond .eq 14, 3) := by decide +kernel
theorem dX7_holder_7 : decode cX7_holder 7 = .ok (.aload_n 0, 1) := by decide +kernel
theorem dX7_holder_8 : decode cX7_holder 8 = .ok (.getfield 25, 3) := by decide +kernel
theorem dX7_holder_11 : decode cX7_holder 11 = .ok (.iload_n 1, 1) := by decide +kernel
theorem dX7_holder_12 : decode cX7_holder 12 = .ok (.invokevirtual 179, 3) := by decide +kernel
theorem dX7_holder_15 : decode cX7_holder 15 = .ok (.goto 5, 3) := by decide +kernel
theorem dX7_holder_18 : decode cX7_holder 18 = .ok (.ldc 73, 2) := by decide +kernel
theorem dX7_holder_20 : decode cX7_holder 20 = .ok (.ireturn, 1) := by decide +kernel
set_option maxRecDepth 20000 in
theorem ggX7_ahead_X4_isSaint : GoodIn wsX7_ahead wsX4_isSaint := goodIn_r _ [9, 10, 71, 72, 73, 74, 75] (by decide +kernel) (by decide +kernel)
set_option maxRecDepth 20000 in
theorem gX7_ahead_X4_isSaint : GoodIn wsX7_ahead (wsV RX7 154 RX4 yX4_isSaint wsX4_isSaint) := goodIn_app (goodIn_of _ (by decide +kernel)) ggX7_ahead_X4_isSaint
set_option maxRecDepth 20000 in
theorem ggX7_ahead_X4_become : GoodIn wsX7_ahead wsX4_become := goodIn_r _ [14, 15, 16, 17, 18, 19, 20, 10, 21, 22, 71, 72, 73, 74, 75] (by decide +kernel) (by decide +kernel)
set_option maxRecDepth 20000 in
theorem gX7_ahead_X4_become : GoodIn wsX7_ahead (wsV RX7 132 RX4 yX4_become wsX4_become) := goodIn_app (goodIn_of _ (by decide +kernel)) ggX7_ahead_X4_become
set_option maxRecDepth 20000 in
theorem ggX7_ahead_X4_advance : GoodIn wsX7_ahead wsX4_advance := goodIn_r _ [26, 10, 21, 27, 28, 29, 8, 30, 15, 20, 31, 32, 33, 34, 35, 36, 37, 38, 39, 40, 41, 42, 43, 44, 45, 46, 47, 48, 49, 50, 51, 52, 53, 54, 22, 55, 56, 57, 58, 59, 6, 7, 9, 71, 72, 73, 74, 75] (by decide +kernel) (by decide +kernel)
set_option maxRecDepth 20000 in
theorem gX7_ahead_X4_advance : GoodIn wsX7_ahead (wsV RX7 150 RX4 yX4_advance wsX4_advance) := goodIn_app (goodIn_of _ (by decide +kernel)) ggX7_ahead_X4_advance
theorem dX7_ahead_0 : decode cX7_ahead 0 = .ok (.aload_n 0, 1) := by decide +kernel
theorem dX7_ahead_1 : decode cX7_ahead 1 = .ok (.getfield 25, 3) := by decide +kernel
theorem dX7_ahead_4 : decode cX7_ahead 4 = .ok (.iload_n 1, 1) := by decide +kernel
theorem dX7_ahead_5 : decode cX7_ahead 5 = .ok (.invokevirtual 154, 3) := by decide +kernel
theorem dX7_ahead_8 : decode cX7_ahead 8 = .ok (.ifCond .eq 13, 3) := by decide +kernel
theorem dX7_ahead_11 : decode cX7_ahead 11 = .ok (.iload_n 2, 1) := by decide +kernel
theorem dX7_ahead_12 : decode cX7_ahead 12 = .ok (.ifCond .lt 9, 3) := by decide +kernel
theorem dX7_ahead_15 : decode cX7_ahead 15 = .ok (.iload_n 2, 1) := by decide +kernel
theorem dX7_ahead_16 : decode cX7_ahead 16 = .ok (.bipush 60, 2) := by decide +kernel
theorem dX7_ahead_18 : decode cX7_ahead 18 = .ok (.if_icmp .le 6, 3) := by decide +kernel
theorem dX7_ahead_21 : decode cX7_ahead 21 = .ok (.ldc 73, 2) := by decide +kernel
theorem dX7_ahead_23 : decode cX7_ahead 23 = .ok (.ireturn, 1) := by decide +kernel
theorem dX7_ahead_24 : decode cX7_ahead 24 = .ok (.aload_n 0, 1) := by decide +kernel
theorem dX7_ahead_25 : decode cX7_ahead 25 = .ok (.getfield 29, 3) := by decide +kernel
theorem dX7_ahead_28 : decode cX7_ahead 28 = .ok (.aload_n 0, 1) := by decide +kernel
theorem dX7_ahead_29 : decode cX7_ahead 29 = .ok (.getfield 25, 3) := by decide +kernel
theorem dX7_ahead_32 : decode cX7_ahead 32 = .ok (.invokevirtual 132, 3) := by decide +kernel
theorem dX7_ahead_35 : decode cX7_ahead 35 = .ok (.iconst 0, 1) := by decide +kernel
theorem dX7_ahead_36 : decode cX7_ahead 36 = .ok (.istore_n 3, 1) := by decide +kernel
theorem dX7_ahead_37 : decode cX7_ahead 37 = .ok (.iload_n 3, 1) := by decide +kernel
theorem dX7_ahead_38 : decode cX7_ahead 38 = .ok (.iload_n 2, 1) := by decide +kernel
theorem dX7_ahead_39 : decode cX7_ahead 39 = .ok (.if_icmp .ge 17, 3) := by decide +kernel
theorem dX7_ahead_42 : decode cX7_ahead 42 = .ok (.aload_n 0, 1) := by decide +kernel
theorem dX7_ahead_43 : decode cX7_ahead 43 = .ok (.getfield 29, 3) := by decide +kernel
theorem dX7_ahead_46 : decode cX7_ahead 46 = .ok (.iconst 0, 1) := by decide +kernel
theorem dX7_ahead_47 : decode cX7_ahead 47 = .ok (.invokevirtual 150, 3) := by decide +kernel
theorem dX7_ahead_50 : decode cX7_ahead 50 = .ok (.iinc 3 1, 3) := by decide +kernel
theorem dX7_ahead_53 : decode cX7_ahead 53 = .ok (.goto (-16), 3) := by decide +kernel
theorem dX7_ahead_56 : decode cX7_ahead 56 = .ok (.aload_n 0, 1) := by decide +kernel
theorem dX7_ahead_57 : decode cX7_ahead 57 = .ok (.getfield 29, 3) := by decide +kernel
theorem dX7_ahead_60 : decode cX7_ahead 60 = .ok (.getfield 160, 3) := by decide +kernel
theorem dX7_ahead_63 : decode cX7_ahead 63 = .ok (.iload_n 1, 1) := by decide +kernel
theorem dX7_ahead_64 : decode cX7_ahead 64 = .ok (.iaload, 1) := by decide +kernel
theorem dX7_ahead_65 : decode cX7_ahead 65 = .ok (.ireturn, 1) := by decide +kernel
set_option maxRecDepth 20000 in
theorem ggX7_when_X4_isSaint : GoodIn wsX7_when wsX4_isSaint := goodIn_r _ [10, 11, 76, 77, 78, 79, 80] (by decide +kernel) (by decide +kernel)
set_option maxRecDepth 20000 in
theorem gX7_when_X4_isSaint : GoodIn wsX7_when (wsV RX7 154 RX4 yX4_isSaint wsX4_isSaint) := goodIn_app (goodIn_of _ (by decide +kernel)) ggX7_when_X4_isSaint
set_option maxRecDepth 20000 in
theorem ggX7_when_X7_isThing : GoodIn wsX7_when wsX7_isThing := goodIn_r _ [15] (by decide +kernel) (by decide +kernel)
set_option maxRecDepth 20000 in
theorem gX7_when_X7_isThing : GoodIn wsX7_when (va_wsS RX7 176 yX7_isThing wsX7_isThing) := goodIn_app (goodIn_of _ (by decide +kernel)) ggX7_when_X7_isThing
set_option maxRecDepth 20000 in
theorem ggX7_when_X4_become : GoodIn wsX7_when wsX4_become := goodIn_r _ [19, 20, 21, 22, 23, 24, 25, 11, 26, 27, 76, 77, 78, 79, 80] (by decide +kernel) (by decide +kernel)
set_option maxRecDepth 20000 in
theorem gX7_when_X4_become : GoodIn wsX7_when (wsV RX7 132 RX4 yX4_become wsX4_become) := goodIn_app (goodIn_of _ (by decide +kernel)) ggX7_when_X4_become
set_option maxRecDepth 20000 in
theorem ggX7_when_X4_advance : GoodIn wsX7_when wsX4_advance := goodIn_r _ [31, 11, 26, 32, 33, 34, 9, 35, 20, 25, 36, 37, 38, 39, 40, 41, 42, 43, 44, 45, 46, 47, 48, 49, 50, 51, 52, 53, 54, 55, 56, 57, 58, 59, 27, 60, 61, 62, 63, 64, 7, 8, 10, 76, 77, 78, 79, 80] (by decide +kernel) (by decide +kernel)
set_option maxRecDepth 20000 in
theorem gX7_when_X4_advance : GoodIn wsX7_when (wsV RX7 150 RX4 yX4_advance wsX4_advance) := goodIn_app (goodIn_of _ (by decide +kernel)) ggX7_when_X4_advance
theorem dX7_when_0 : decode cX7_when 0 = .ok (.aload_n 0, 1) := by decide +kernel
theorem dX7_when_1 : decode cX7_when 1 = .ok (.getfield 25, 3) := by decide +kernel
theorem dX7_when_4 : decode cX7_when 4 = .ok (.iload_n 1, 1) := by decide +kernel
theorem dX7_when_5 : decode cX7_when 5 = .ok (.invokevirtual 154, 3) := by decide +kernel
theorem dX7_when_8 : decode cX7_when 8 = .ok (.ifCond .eq 10, 3) := by decide +kernel
theorem dX7_when_11 : decode cX7_when 11 = .ok (.iload_n 2, 1) := by decide +kernel
theorem dX7_when_12 : decode cX7_when 12 = .ok (.invokestatic 176, 3) := by decide +kernel
theorem dX7_when_15 : decode cX7_when 15 = .ok (.ifCond .ne 6, 3) := by decide +kernel
theorem dX7_when_18 : decode cX7_when 18 = .ok (.ldc 73, 2) := by decide +kernel
theorem dX7_when_20 : decode cX7_when 20 = .ok (.ireturn, 1) := by decide +kernel
theorem dX7_when_21 : decode cX7_when 21 = .ok (.aload_n 0, 1) := by decide +kernel
theorem dX7_when_22 : decode cX7_when 22 = .ok (.getfield 29, 3) := by decide +kernel
theorem dX7_when_25 : decode cX7_when 25 = .ok (.aload_n 0, 1) := by decide +kernel
theorem dX7_when_26 : decode cX7_when 26 = .ok (.getfield 25, 3) := by decide +kernel
theorem dX7_when_29 : decode cX7_when 29 = .ok (.invokevirtual 132, 3) := by decide +kernel
theorem dX7_when_32 : decode cX7_when 32 = .ok (.iconst 0, 1) := by decide +kernel
theorem dX7_when_33 : decode cX7_when 33 = .ok (.istore_n 3, 1) := by decide +kernel
theorem dX7_when_34 : decode cX7_when 34 = .ok (.iload_n 3, 1) := by decide +kernel
theorem dX7_when_35 : decode cX7_when 35 = .ok (.bipush 60, 2) := by decide +kernel
theorem dX7_when_37 : decode cX7_when 37 = .ok (.if_icmp .gt 32, 3) := by decide +kernel
theorem dX7_when_40 : decode cX7_when 40 = .ok (.aload_n 0, 1) := by decide +kernel
theorem dX7_when_41 : decode cX7_when 41 = .ok (.getfield 29, 3) := by decide +kernel
theorem dX7_when_44 : decode cX7_when 44 = .ok (.getfield 160, 3) := by decide +kernel
theorem dX7_when_47 : decode cX7_when 47 = .ok (.iload_n 1, 1) := by decide +kernel
theorem dX7_when_48 : decode cX7_when 48 = .ok (.iaload, 1) := by decide +kernel
theorem dX7_when_49 : decode cX7_when 49 = .ok (.iload_n 2, 1) := by decide +kernel
theorem dX7_when_50 : decode cX7_when 50 = .ok (.if_icmp .ne 5, 3) := by decide +kernel
theorem dX7_when_53 : decode cX7_when 53 = .ok (.iload_n 3, 1) := by decide +kernel
theorem dX7_when_54 : decode cX7_when 54 = .ok (.ireturn, 1) := by decide +kernel
theorem dX7_when_55 : decode cX7_when 55 = .ok (.aload_n 0, 1) := by decide +kernel
theorem dX7_when_56 : decode cX7_when 56 = .ok (.getfield 29, 3) := by decide +kernel
theorem dX7_when_59 : decode cX7_when 59 = .ok (.iconst 0, 1) := by decide +kernel
theorem dX7_when_60 : decode cX7_when 60 = .ok (.invokevirtual 150, 3) := by decide +kernel
theorem dX7_when_63 : decode cX7_when 63 = .ok (.iinc 3 1, 3) := by decide +kernel
theorem dX7_when_66 : decode cX7_when 66 = .ok (.goto (-32), 3) := by decide +kernel
theorem dX7_when_69 : decode cX7_when 69 = .ok (.ldc 182, 2) := by decide +kernel
theorem dX7_when_71 : decode cX7_when 71 = .ok (.ireturn, 1) := by decide +kernel
set_option maxRecDepth 20000 in
theorem ggX7_pray_X7_isThing : GoodIn wsX7_pray wsX7_isThing := goodIn_r _ [9] (by decide +kernel) (by decide +kernel)
set_option maxRecDepth 20000 in
theorem gX7_pray_X7_isThing : GoodIn wsX7_pray (va_wsS RX7 176 yX7_isThing wsX7_isThing) := goodIn_app (goodIn_of _ (by decide +kernel)) ggX7_pray_X7_isThing
set_option maxRecDepth 20000 in
theorem ggX7_pray_X4_become : GoodIn wsX7_pray wsX4_become := goodIn_r _ [14, 15, 16, 17, 18, 19, 20, 21, 22, 23, 84, 85, 86, 87, 88] (by decide +kernel) (by decide +kernel)
set_option maxRecDepth 20000 in
theorem gX7_pray_X4_become : GoodIn wsX7_pray (wsV RX7 132 RX4 yX4_become wsX4_become) := goodIn_app (goodIn_of _ (by decide +kernel)) ggX7_pray_X4_become
set_option maxRecDepth 20000 in
theorem ggX7_pray_X4_advanceToMatins : GoodIn wsX7_pray wsX4_advanceToMatins := goodIn_r _ [27, 28, 29, 30, 13, 31, 21, 22, 32, 33, 34, 35, 15, 20, 36, 37, 38, 39, 40, 41, 42, 43, 44, 45, 46, 47, 48, 49, 50, 51, 52, 53, 54, 55, 56, 57, 58, 59, 23, 60, 61, 62, 63, 64, 65, 66, 67, 84, 85, 86, 87, 88] (by decide +kernel) (by decide +kernel)
set_option maxRecDepth 20000 in
theorem gX7_pray_X4_advanceToMatins : GoodIn wsX7_pray (wsV RX7 183 RX4 yX4_advanceToMatins wsX4_advanceToMatins) := goodIn_app (goodIn_of _ (by decide +kernel)) ggX7_pray_X4_advanceToMatins
set_option maxRecDepth 20000 in
theorem ggX7_pray_X4_whoHas : GoodIn wsX7_pray wsX4_whoHas := goodIn_r _ [71, 21, 20, 72, 84, 85, 86, 87, 88] (by decide +kernel) (by decide +kernel)
set_option maxRecDepth 20000 in
theorem gX7_pray_X4_whoHas : GoodIn wsX7_pray (wsV RX7 179 RX4 yX4_whoHas wsX4_whoHas) := goodIn_app (goodIn_of _ (by decide +kernel)) ggX7_pray_X4_whoHas
theorem dX7_pray_0 : decode cX7_pray 0 = .ok (.aload_n 0, 1) := by decide +kernel
theorem dX7_pray_1 : decode cX7_pray 1 = .ok (.getfield 25, 3) := by decide +kernel
theorem dX7_pray_4 : decode cX7_pray 4 = .ok (.getfield 139, 3) := by decide +kernel
theorem dX7_pray_7 : decode cX7_pray 7 = .ok (.ifCond .ne 6, 3) := by decide +kernel
theorem dX7_pray_10 : decode cX7_pray 10 = .ok (.ldc 143, 2) := by decide +kernel
theorem dX7_pray_12 : decode cX7_pray 12 = .ok (.ireturn, 1) := by decide +kernel
theorem dX7_pray_13 : decode cX7_pray 13 = .ok (.iload_n 1, 1) := by decide +kernel
theorem dX7_pray_14 : decode cX7_pray 14 = .ok (.invokestatic 176, 3) := by decide +kernel
theorem dX7_pray_17 : decode cX7_pray 17 = .ok (.ifCond .ne 6, 3) := by decide +kernel
theorem dX7_pray_20 : decode cX7_pray 20 = .ok (.ldc 73, 2) := by decide +kernel
theorem dX7_pray_22 : decode cX7_pray 22 = .ok (.ireturn, 1) := by decide +kernel
theorem dX7_pray_23 : decode cX7_pray 23 = .ok (.aload_n 0, 1) := by decide +kernel
theorem dX7_pray_24 : decode cX7_pray 24 = .ok (.getfield 29, 3) := by decide +kernel
theorem dX7_pray_27 : decode cX7_pray 27 = .ok (.aload_n 0, 1) := by decide +kernel
theorem dX7_pray_28 : decode cX7_pray 28 = .ok (.getfield 25, 3) := by decide +kernel
theorem dX7_pray_31 : decode cX7_pray 31 = .ok (.invokevirtual 132, 3) := by decide +kernel
theorem dX7_pray_34 : decode cX7_pray 34 = .ok (.aload_n 0, 1) := by decide +kernel
theorem dX7_pray_35 : decode cX7_pray 35 = .ok (.getfield 29, 3) := by decide +kernel
theorem dX7_pray_38 : decode cX7_pray 38 = .ok (.invokevirtual 183, 3) := by decide +kernel
theorem dX7_pray_41 : decode cX7_pray 41 = .ok (.aload_n 0, 1) := by decide +kernel
theorem dX7_pray_42 : decode cX7_pray 42 = .ok (.getfield 29, 3) := by decide +kernel
theorem dX7_pray_45 : decode cX7_pray 45 = .ok (.iload_n 1, 1) := by decide +kernel
theorem dX7_pray_46 : decode cX7_pray 46 = .ok (.invokevirtual 179, 3) := by decide +kernel
theorem dX7_pray_49 : decode cX7_pray 49 = .ok (.ireturn, 1) := by decide +kernel
set_option maxRecDepth 20000 in
theorem ggX7_round_X4_figures : GoodIn wsX7_round wsX4_figures := goodIn_r _ [10, 11, 12, 75, 76, 77, 78, 79] (by decide +kernel) (by decide +kernel)
set_option maxRecDepth 20000 in
theorem gX7_round_X4_figures : GoodIn wsX7_round (wsV RX7 186 RX4 yX4_figures wsX4_figures) := goodIn_app (goodIn_of _ (by decide +kernel)) ggX7_round_X4_figures
set_option maxRecDepth 20000 in
theorem ggX7_round_X4_become : GoodIn wsX7_round wsX4_become := goodIn_r _ [16, 17, 18, 19, 20, 21, 12, 11, 22, 23, 75, 76, 77, 78, 79] (by decide +kernel) (by decide +kernel)
set_option maxRecDepth 20000 in
theorem gX7_round_X4_become : GoodIn wsX7_round (wsV RX7 132 RX4 yX4_become wsX4_become) := goodIn_app (goodIn_of _ (by decide +kernel)) ggX7_round_X4_become
set_option maxRecDepth 20000 in
theorem ggX7_round_X4_advance : GoodIn wsX7_round wsX4_advance := goodIn_r _ [27, 11, 22, 28, 29, 30, 9, 31, 17, 12, 32, 33, 34, 35, 36, 37, 38, 39, 40, 41, 42, 43, 44, 45, 46, 47, 48, 49, 50, 51, 52, 53, 54, 55, 23, 56, 57, 58, 59, 60, 61, 62, 63, 75, 76, 77, 78, 79] (by decide +kernel) (by decide +kernel)
set_option maxRecDepth 20000 in
theorem gX7_round_X4_advance : GoodIn wsX7_round (wsV RX7 150 RX4 yX4_advance wsX4_advance) := goodIn_app (goodIn_of _ (by decide +kernel)) ggX7_round_X4_advance
theorem dX7_round_0 : decode cX7_round 0 = .ok (.aload_n 0, 1) := by decide +kernel
theorem dX7_round_1 : decode cX7_round 1 = .ok (.getfield 25, 3) := by decide +kernel
theorem dX7_round_4 : decode cX7_round 4 = .ok (.getfield 139, 3) := by decide +kernel
theorem dX7_round_7 : decode cX7_round 7 = .ok (.ifCond .ne 6, 3) := by decide +kernel
theorem dX7_round_10 : decode cX7_round 10 = .ok (.ldc 143, 2) := by decide +kernel
theorem dX7_round_12 : decode cX7_round 12 = .ok (.ireturn, 1) := by decide +kernel
theorem dX7_round_13 : decode cX7_round 13 = .ok (.aload_n 0, 1) := by decide +kernel
theorem dX7_round_14 : decode cX7_round 14 = .ok (.getfield 25, 3) := by decide +kernel
theorem dX7_round_17 : decode cX7_round 17 = .ok (.invokevirtual 186, 3) := by decide +kernel
theorem dX7_round_20 : decode cX7_round 20 = .ok (.istore_n 1, 1) := by decide +kernel
theorem dX7_round_21 : decode cX7_round 21 = .ok (.aload_n 0, 1) := by decide +kernel
theorem dX7_round_22 : decode cX7_round 22 = .ok (.getfield 29, 3) := by decide +kernel
theorem dX7_round_25 : decode cX7_round 25 = .ok (.aload_n 0, 1) := by decide +kernel
theorem dX7_round_26 : decode cX7_round 26 = .ok (.getfield 25, 3) := by decide +kernel
theorem dX7_round_29 : decode cX7_round 29 = .ok (.invokevirtual 132, 3) := by decide +kernel
theorem dX7_round_32 : decode cX7_round 32 = .ok (.iconst 1, 1) := by decide +kernel
theorem dX7_round_33 : decode cX7_round 33 = .ok (.istore_n 2, 1) := by decide +kernel
theorem dX7_round_34 : decode cX7_round 34 = .ok (.iload_n 2, 1) := by decide +kernel
theorem dX7_round_35 : decode cX7_round 35 = .ok (.sipush 200, 3) := by decide +kernel
theorem dX7_round_38 : decode cX7_round 38 = .ok (.if_icmp .gt 30, 3) := by decide +kernel
theorem dX7_round_41 : decode cX7_round 41 = .ok (.aload_n 0, 1) := by decide +kernel
theorem dX7_round_42 : decode cX7_round 42 = .ok (.getfield 29, 3) := by decide +kernel
theorem dX7_round_45 : decode cX7_round 45 = .ok (.iconst 0, 1) := by decide +kernel
theorem dX7_round_46 : decode cX7_round 46 = .ok (.invokevirtual 150, 3) := by decide +kernel
theorem dX7_round_49 : decode cX7_round 49 = .ok (.aload_n 0, 1) := by decide +kernel
theorem dX7_round_50 : decode cX7_round 50 = .ok (.getfield 29, 3) := by decide +kernel
theorem dX7_round_53 : decode cX7_round 53 = .ok (.invokevirtual 186, 3) := by decide +kernel
theorem dX7_round_56 : decode cX7_round 56 = .ok (.iload_n 1, 1) := by decide +kernel
theorem dX7_round_57 : decode cX7_round 57 = .ok (.if_icmp .ne 5, 3) := by decide +kernel
theorem dX7_round_60 : decode cX7_round 60 = .ok (.iload_n 2, 1) := by decide +kernel
theorem dX7_round_61 : decode cX7_round 61 = .ok (.ireturn, 1) := by decide +kernel
theorem dX7_round_62 : decode cX7_round 62 = .ok (.iinc 2 1, 3) := by decide +kernel
theorem dX7_round_65 : decode cX7_round 65 = .ok (.goto (-31), 3) := by decide +kernel
theorem dX7_round_68 : decode cX7_round 68 = .ok (.ldc 182, 2) := by decide +kernel
theorem dX7_round_70 : decode cX7_round 70 = .ok (.ireturn, 1) := by decide +kernel
set_option maxRecDepth 20000 in
theorem ggX7_home_X4_atHome : GoodIn wsX7_home wsX4_atHome := goodIn_r _ [10, 11, 12, 48, 49, 50, 51, 52] (by decide +kernel) (by decide +kernel)
set_option maxRecDepth 20000 in
theorem gX7_home_X4_atHome : GoodIn wsX7_home (wsV RX7 189 RX4 yX4_atHome wsX4_atHome) := goodIn_app (goodIn_of _ (by decide +kernel)) ggX7_home_X4_atHome
set_option maxRecDepth 20000 in
theorem ggX7_home_X3_placeOf : GoodIn wsX7_home wsX3_placeOf := goodIn_r _ [17, 18, 19, 20, 21, 22, 23, 16, 24, 25, 26, 27, 28, 29, 30, 31, 32, 48, 49, 50, 51, 52, 53, 54, 55] (by decide +kernel) (by decide +kernel)
set_option maxRecDepth 20000 in
theorem gX7_home_X3_placeOf : GoodIn wsX7_home (wsV RX7 192 RX3 yX3_placeOf wsX3_placeOf) := goodIn_app (goodIn_of _ (by decide +kernel)) ggX7_home_X3_placeOf
set_option maxRecDepth 20000 in
theorem ggX7_home_X3_howMany : GoodIn wsX7_home wsX3_howMany := goodIn_r _ [36, 18, 21, 22, 23, 16, 24, 20, 19, 25, 26, 27, 28, 29, 30, 31, 32, 48, 49, 50, 51, 52, 53, 54, 55] (by decide +kernel) (by decide +kernel)
set_option maxRecDepth 20000 in
theorem gX7_home_X3_howMany : GoodIn wsX7_home (wsV RX7 196 RX3 yX3_howMany wsX3_howMany) := goodIn_app (goodIn_of _ (by decide +kernel)) ggX7_home_X3_howMany
theorem dX7_home_0 : decode cX7_home 0 = .ok (.aload_n 0, 1) := by decide +kernel
theorem dX7_home_1 : decode cX7_home 1 = .ok (.getfield 25, 3) := by decide +kernel
theorem dX7_home_4 : decode cX7_home 4 = .ok (.getfield 139, 3) := by decide +kernel
theorem dX7_home_7 : decode cX7_home 7 = .ok (.ifCond .ne 6, 3) := by decide +kernel
theorem dX7_home_10 : decode cX7_home 10 = .ok (.ldc 143, 2) := by decide +kernel
theorem dX7_home_12 : decode cX7_home 12 = .ok (.ireturn, 1) := by decide +kernel
theorem dX7_home_13 : decode cX7_home 13 = .ok (.iload_n 1, 1) := by decide +kernel
theorem dX7_home_14 : decode cX7_home 14 = .ok (.tableswitch 58 0 2 #[26, 34, 46], 26) := by decide +kernel
theorem dX7_home_40 : decode cX7_home 40 = .ok (.aload_n 0, 1) := by decide +kernel
theorem dX7_home_41 : decode cX7_home 41 = .ok (.getfield 25, 3) := by decide +kernel
theorem dX7_home_44 : decode cX7_home 44 = .ok (.invokevirtual 189, 3) := by decide +kernel
theorem dX7_home_47 : decode cX7_home 47 = .ok (.ireturn, 1) := by decide +kernel
theorem dX7_home_48 : decode cX7_home 48 = .ok (.aload_n 0, 1) := by decide +kernel
theorem dX7_home_49 : decode cX7_home 49 = .ok (.getfield 53, 3) := by decide +kernel
theorem dX7_home_52 : decode cX7_home 52 = .ok (.aload_n 0, 1) := by decide +kernel
theorem dX7_home_53 : decode cX7_home 53 = .ok (.getfield 25, 3) := by decide +kernel
theorem dX7_home_56 : decode cX7_home 56 = .ok (.invokevirtual 192, 3) := by decide +kernel
theorem dX7_home_59 : decode cX7_home 59 = .ok (.ireturn, 1) := by decide +kernel
theorem dX7_home_60 : decode cX7_home 60 = .ok (.aload_n 0, 1) := by decide +kernel
theorem dX7_home_61 : decode cX7_home 61 = .ok (.getfield 53, 3) := by decide +kernel
theorem dX7_home_64 : decode cX7_home 64 = .ok (.aload_n 0, 1) := by decide +kernel
theorem dX7_home_65 : decode cX7_home 65 = .ok (.getfield 25, 3) := by decide +kernel
theorem dX7_home_68 : decode cX7_home 68 = .ok (.invokevirtual 196, 3) := by decide +kernel
theorem dX7_home_71 : decode cX7_home 71 = .ok (.ireturn, 1) := by decide +kernel
theorem dX7_home_72 : decode cX7_home 72 = .ok (.ldc 73, 2) := by decide +kernel
theorem dX7_home_74 : decode cX7_home 74 = .ok (.ireturn, 1) := by decide +kernel
set_option maxRecDepth 20000 in
theorem ggX7_swaps_X7_isRow : GoodIn wsX7_swaps wsX7_isRow := goodIn_r _ [12] (by decide +kernel) (by decide +kernel)
set_option maxRecDepth 20000 in
theorem gX7_swaps_X7_isRow : GoodIn wsX7_swaps (va_wsS RX7 69 yX7_isRow wsX7_isRow) := goodIn_app (goodIn_of _ (by decide +kernel)) ggX7_swaps_X7_isRow
set_option maxRecDepth 20000 in
theorem ggX7_swaps_X7_isFirstOrSecond : GoodIn wsX7_swaps wsX7_isFirstOrSecond := goodIn_r _ [15] (by decide +kernel) (by decide +kernel)
set_option maxRecDepth 20000 in
theorem gX7_swaps_X7_isFirstOrSecond : GoodIn wsX7_swaps (va_wsS RX7 170 yX7_isFirstOrSecond wsX7_isFirstOrSecond) := goodIn_app (goodIn_of _ (by decide +kernel)) ggX7_swaps_X7_isFirstOrSecond
set_option maxRecDepth 20000 in
theorem ggX7_swaps_X7_findingOf : GoodIn wsX7_swaps wsX7_findingOf := goodIn_r _ [19, 7, 20, 21, 22, 23, 24, 25, 26, 27, 28, 29, 30, 70, 71, 72, 73, 74, 75, 76, 77, 78, 79, 80, 86, 87, 88] (by decide +kernel) (by decide +kernel)
set_option maxRecDepth 20000 in
theorem gX7_swaps_X7_findingOf : GoodIn wsX7_swaps (wsV RX7 86 RX7 yX7_findingOf wsX7_findingOf) := goodIn_app (goodIn_of _ (by decide +kernel)) ggX7_swaps_X7_findingOf
set_option maxRecDepth 20000 in
theorem ggX7_swaps_X7_found : GoodIn wsX7_swaps wsX7_found := goodIn_r _ [34, 5, 35, 70, 71, 72, 73, 74, 75, 76, 77, 78, 79, 80] (by decide +kernel) (by decide +kernel)
set_option maxRecDepth 20000 in
theorem gX7_swaps_X7_found : GoodIn wsX7_swaps (wsV RX7 74 RX7 yX7_found wsX7_found) := goodIn_app (goodIn_of _ (by decide +kernel)) ggX7_swaps_X7_found
set_option maxRecDepth 20000 in
theorem ggX7_swaps_X2_take : GoodIn wsX7_swaps wsX2_take := goodIn_r _ [40, 41, 42, 43, 44, 45, 46, 47, 48, 39, 49, 81, 82, 83, 84, 85, 89, 90, 86, 87, 88] (by decide +kernel) (by decide +kernel)
set_option maxRecDepth 20000 in
theorem gX7_swaps_X2_take : GoodIn wsX7_swaps (wsV RX7 199 RX2 yX2_take wsX2_take) := goodIn_app (goodIn_of _ (by decide +kernel)) ggX7_swaps_X2_take
set_option maxRecDepth 20000 in
theorem ggX7_swaps_X2_fewestChanges : GoodIn wsX7_swaps wsX2_fewestChanges := goodIn_r _ [53, 41, 54, 55, 56, 57, 58, 59, 60, 61, 62, 63, 39, 64, 44, 45, 81, 82, 83, 84, 85, 89, 90] (by decide +kernel) (by decide +kernel)
set_option maxRecDepth 20000 in
theorem gX7_swaps_X2_fewestChanges : GoodIn wsX7_swaps (wsV RX7 203 RX2 yX2_fewestChanges wsX2_fewestChanges) := goodIn_app (goodIn_of _ (by decide +kernel)) ggX7_swaps_X2_fewestChanges
set_option maxRecDepth 20000 in
theorem ggX7_swaps_X2_evenOrOdd : GoodIn wsX7_swaps wsX2_evenOrOdd := goodIn_r _ [68, 54, 55, 56, 57, 58, 59, 60, 69, 51, 52, 39, 53, 41, 61, 62, 63, 64, 44, 45, 81, 82, 83, 84, 85, 89, 90] (by decide +kernel) (by decide +kernel)
set_option maxRecDepth 20000 in
theorem gX7_swaps_X2_evenOrOdd : GoodIn wsX7_swaps (wsV RX7 206 RX2 yX2_evenOrOdd wsX2_evenOrOdd) := goodIn_app (goodIn_of _ (by decide +kernel)) ggX7_swaps_X2_evenOrOdd
theorem dX7_swaps_0 : decode cX7_swaps 0 = .ok (.aload_n 0, 1) := by decide +kernel
theorem dX7_swaps_1 : decode cX7_swaps 1 = .ok (.getfield 25, 3) := by decide +kernel
theorem dX7_swaps_4 : decode cX7_swaps 4 = .ok (.getfield 139, 3) := by decide +kernel
theorem dX7_swaps_7 : decode cX7_swaps 7 = .ok (.ifCond .ne 6, 3) := by decide +kernel
theorem dX7_swaps_10 : decode cX7_swaps 10 = .ok (.ldc 143, 2) := by decide +kernel
theorem dX7_swaps_12 : decode cX7_swaps 12 = .ok (.ireturn, 1) := by decide +kernel
theorem dX7_swaps_13 : decode cX7_swaps 13 = .ok (.iload_n 1, 1) := by decide +kernel
theorem dX7_swaps_14 : decode cX7_swaps 14 = .ok (.invokestatic 69, 3) := by decide +kernel
theorem dX7_swaps_17 : decode cX7_swaps 17 = .ok (.ifCond .eq 10, 3) := by decide +kernel
theorem dX7_swaps_20 : decode cX7_swaps 20 = .ok (.iload_n 3, 1) := by decide +kernel
theorem dX7_swaps_21 : decode cX7_swaps 21 = .ok (.invokestatic 170, 3) := by decide +kernel
theorem dX7_swaps_24 : decode cX7_swaps 24 = .ok (.ifCond .ne 6, 3) := by decide +kernel
theorem dX7_swaps_27 : decode cX7_swaps 27 = .ok (.ldc 73, 2) := by decide +kernel
theorem dX7_swaps_29 : decode cX7_swaps 29 = .ok (.ireturn, 1) := by decide +kernel
theorem dX7_swaps_30 : decode cX7_swaps 30 = .ok (.aload_n 0, 1) := by decide +kernel
theorem dX7_swaps_31 : decode cX7_swaps 31 = .ok (.iload_n 1, 1) := by decide +kernel
theorem dX7_swaps_32 : decode cX7_swaps 32 = .ok (.iload_n 2, 1) := by decide +kernel
theorem dX7_swaps_33 : decode cX7_swaps 33 = .ok (.aload_n 0, 1) := by decide +kernel
theorem dX7_swaps_34 : decode cX7_swaps 34 = .ok (.getfield 25, 3) := by decide +kernel
theorem dX7_swaps_37 : decode cX7_swaps 37 = .ok (.getfield 139, 3) := by decide +kernel
theorem dX7_swaps_40 : decode cX7_swaps 40 = .ok (.invokevirtual 86, 3) := by decide +kernel
theorem dX7_swaps_43 : decode cX7_swaps 43 = .ok (.istore 4, 2) := by decide +kernel
theorem dX7_swaps_45 : decode cX7_swaps 45 = .ok (.iload 4, 2) := by decide +kernel
theorem dX7_swaps_47 : decode cX7_swaps 47 = .ok (.ifCond .eq 10, 3) := by decide +kernel
theorem dX7_swaps_50 : decode cX7_swaps 50 = .ok (.aload_n 0, 1) := by decide +kernel
theorem dX7_swaps_51 : decode cX7_swaps 51 = .ok (.iload 4, 2) := by decide +kernel
theorem dX7_swaps_53 : decode cX7_swaps 53 = .ok (.invokevirtual 74, 3) := by decide +kernel
theorem dX7_swaps_56 : decode cX7_swaps 56 = .ok (.ireturn, 1) := by decide +kernel
theorem dX7_swaps_57 : decode cX7_swaps 57 = .ok (.aload_n 0, 1) := by decide +kernel
theorem dX7_swaps_58 : decode cX7_swaps 58 = .ok (.iconst 0, 1) := by decide +kernel
theorem dX7_swaps_59 : decode cX7_swaps 59 = .ok (.putfield 78, 3) := by decide +kernel
theorem dX7_swaps_62 : decode cX7_swaps 62 = .ok (.aload_n 0, 1) := by decide +kernel
theorem dX7_swaps_63 : decode cX7_swaps 63 = .ok (.getfield 46, 3) := by decide +kernel
theorem dX7_swaps_66 : decode cX7_swaps 66 = .ok (.aload_n 0, 1) := by decide +kernel
theorem dX7_swaps_67 : decode cX7_swaps 67 = .ok (.getfield 25, 3) := by decide +kernel
theorem dX7_swaps_70 : decode cX7_swaps 70 = .ok (.aload_n 0, 1) := by decide +kernel
theorem dX7_swaps_71 : decode cX7_swaps 71 = .ok (.getfield 11, 3) := by decide +kernel
theorem dX7_swaps_74 : decode cX7_swaps 74 = .ok (.iload_n 1, 1) := by decide +kernel
theorem dX7_swaps_75 : decode cX7_swaps 75 = .ok (.aaload, 1) := by decide +kernel
theorem dX7_swaps_76 : decode cX7_swaps 76 = .ok (.iload_n 2, 1) := by decide +kernel
theorem dX7_swaps_77 : decode cX7_swaps 77 = .ok (.invokevirtual 199, 3) := by decide +kernel
theorem dX7_swaps_80 : decode cX7_swaps 80 = .ok (.ifCond .ne 6, 3) := by decide +kernel
theorem dX7_swaps_83 : decode cX7_swaps 83 = .ok (.ldc 182, 2) := by decide +kernel
theorem dX7_swaps_85 : decode cX7_swaps 85 = .ok (.ireturn, 1) := by decide +kernel
theorem dX7_swaps_86 : decode cX7_swaps 86 = .ok (.iload_n 3, 1) := by decide +kernel
theorem dX7_swaps_87 : decode cX7_swaps 87 = .ok (.ifCond .ne 17, 3) := by decide +kernel
theorem dX7_swaps_90 : decode cX7_swaps 90 = .ok (.aload_n 0, 1) := by decide +kernel
theorem dX7_swaps_91 : decode cX7_swaps 91 = .ok (.getfield 46, 3) := by decide +kernel
theorem dX7_swaps_94 : decode cX7_swaps 94 = .ok (.aload_n 0, 1) := by decide +kernel
theorem dX7_swaps_95 : decode cX7_swaps 95 = .ok (.getfield 25, 3) := by decide +kernel
theorem dX7_swaps_98 : decode cX7_swaps 98 = .ok (.invokevirtual 203, 3) := by decide +kernel
theorem dX7_swaps_101 : decode cX7_swaps 101 = .ok (.goto 14, 3) := by decide +kernel
theorem dX7_swaps_104 : decode cX7_swaps 104 = .ok (.aload_n 0, 1) := by decide +kernel
theorem dX7_swaps_105 : decode cX7_swaps 105 = .ok (.getfield 46, 3) := by decide +kernel
theorem dX7_swaps_108 : decode cX7_swaps 108 = .ok (.aload_n 0, 1) := by decide +kernel
theorem dX7_swaps_109 : decode cX7_swaps 109 = .ok (.getfield 25, 3) := by decide +kernel
theorem dX7_swaps_112 : decode cX7_swaps 112 = .ok (.invokevirtual 206, 3) := by decide +kernel
theorem dX7_swaps_115 : decode cX7_swaps 115 = .ok (.ireturn, 1) := by decide +kernel
set_option maxRecDepth 20000 in
theorem ggX7_sort_X7_isRow : GoodIn wsX7_sort wsX7_isRow := goodIn_r _ [12] (by decide +kernel) (by decide +kernel)
set_option maxRecDepth 20000 in
theorem gX7_sort_X7_isRow : GoodIn wsX7_sort (va_wsS RX7 69 yX7_isRow wsX7_isRow) := goodIn_app (goodIn_of _ (by decide +kernel)) ggX7_sort_X7_isRow
set_option maxRecDepth 20000 in
theorem ggX7_sort_X7_findingOf : GoodIn wsX7_sort wsX7_findingOf := goodIn_r _ [16, 7, 17, 18, 19, 20, 21, 22, 23, 24, 25, 26, 27, 60, 61, 62, 63, 64, 65, 66, 67, 68, 69, 70, 76, 77, 78] (by decide +kernel) (by decide +kernel)
set_option maxRecDepth 20000 in
theorem gX7_sort_X7_findingOf : GoodIn wsX7_sort (wsV RX7 86 RX7 yX7_findingOf wsX7_findingOf) := goodIn_app (goodIn_of _ (by decide +kernel)) ggX7_sort_X7_findingOf
set_option maxRecDepth 20000 in
theorem ggX7_sort_X7_found : GoodIn wsX7_sort wsX7_found := goodIn_r _ [31, 5, 32, 60, 61, 62, 63, 64, 65, 66, 67, 68, 69, 70] (by decide +kernel) (by decide +kernel)
set_option maxRecDepth 20000 in
theorem gX7_sort_X7_found : GoodIn wsX7_sort (wsV RX7 74 RX7 yX7_found wsX7_found) := goodIn_app (goodIn_of _ (by decide +kernel)) ggX7_sort_X7_found
set_option maxRecDepth 20000 in
theorem ggX7_sort_X2_take : GoodIn wsX7_sort wsX2_take := goodIn_r _ [37, 38, 39, 40, 41, 42, 43, 44, 45, 36, 46, 71, 72, 73, 74, 75, 79, 80, 76, 77, 78] (by decide +kernel) (by decide +kernel)
set_option maxRecDepth 20000 in
theorem gX7_sort_X2_take : GoodIn wsX7_sort (wsV RX7 199 RX2 yX2_take wsX2_take) := goodIn_app (goodIn_of _ (by decide +kernel)) ggX7_sort_X2_take
set_option maxRecDepth 20000 in
theorem ggX7_sort_X2_neighbourChanges : GoodIn wsX7_sort wsX2_neighbourChanges := goodIn_r _ [50, 38, 42, 71, 72, 73, 74, 75, 79, 80] (by decide +kernel) (by decide +kernel)
set_option maxRecDepth 20000 in
theorem gX7_sort_X2_neighbourChanges : GoodIn wsX7_sort (wsV RX7 209 RX2 yX2_neighbourChanges wsX2_neighbourChanges) := goodIn_app (goodIn_of _ (by decide +kernel)) ggX7_sort_X2_neighbourChanges
set_option maxRecDepth 20000 in
theorem ggX7_sort_X2_neighbourChange : GoodIn wsX7_sort wsX2_neighbourChange := goodIn_r _ [54, 55, 38, 42, 56, 57, 58, 36, 59, 71, 72, 73, 74, 75, 79, 80] (by decide +kernel) (by decide +kernel)
set_option maxRecDepth 20000 in
theorem gX7_sort_X2_neighbourChange : GoodIn wsX7_sort (wsV RX7 212 RX2 yX2_neighbourChange wsX2_neighbourChange) := goodIn_app (goodIn_of _ (by decide +kernel)) ggX7_sort_X2_neighbourChange
theorem dX7_sort_0 : decode cX7_sort 0 = .ok (.aload_n 0, 1) := by decide +kernel
theorem dX7_sort_1 : decode cX7_sort 1 = .ok (.getfield 25, 3) := by decide +kernel
theorem dX7_sort_4 : decode cX7_sort 4 = .ok (.getfield 139, 3) := by decide +kernel
theorem dX7_sort_7 : decode cX7_sort 7 = .ok (.ifCond .ne 6, 3) := by decide +kernel
theorem dX7_sort_10 : decode cX7_sort 10 = .ok (.ldc 143, 2) := by decide +kernel
theorem dX7_sort_12 : decode cX7_sort 12 = .ok (.ireturn, 1) := by decide +kernel
theorem dX7_sort_13 : decode cX7_sort 13 = .ok (.iload_n 1, 1) := by decide +kernel
theorem dX7_sort_14 : decode cX7_sort 14 = .ok (.invokestatic 69, 3) := by decide +kernel
theorem dX7_sort_17 : decode cX7_sort 17 = .ok (.ifCond .eq 8, 3) := by decide +kernel
theorem dX7_sort_20 : decode cX7_sort 20 = .ok (.iload_n 3, 1) := by decide +kernel
theorem dX7_sort_21 : decode cX7_sort 21 = .ok (.iconst (-1), 1) := by decide +kernel
theorem dX7_sort_22 : decode cX7_sort 22 = .ok (.if_icmp .ge 6, 3) := by decide +kernel
theorem dX7_sort_25 : decode cX7_sort 25 = .ok (.ldc 73, 2) := by decide +kernel
theorem dX7_sort_27 : decode cX7_sort 27 = .ok (.ireturn, 1) := by decide +kernel
theorem dX7_sort_28 : decode cX7_sort 28 = .ok (.aload_n 0, 1) := by decide +kernel
theorem dX7_sort_29 : decode cX7_sort 29 = .ok (.iload_n 1, 1) := by decide +kernel
theorem dX7_sort_30 : decode cX7_sort 30 = .ok (.iload_n 2, 1) := by decide +kernel
theorem dX7_sort_31 : decode cX7_sort 31 = .ok (.aload_n 0, 1) := by decide +kernel
theorem dX7_sort_32 : decode cX7_sort 32 = .ok (.getfield 25, 3) := by decide +kernel
theorem dX7_sort_35 : decode cX7_sort 35 = .ok (.getfield 139, 3) := by decide +kernel
theorem dX7_sort_38 : decode cX7_sort 38 = .ok (.invokevirtual 86, 3) := by decide +kernel
theorem dX7_sort_41 : decode cX7_sort 41 = .ok (.istore 4, 2) := by decide +kernel
theorem dX7_sort_43 : decode cX7_sort 43 = .ok (.iload 4, 2) := by decide +kernel
theorem dX7_sort_45 : decode cX7_sort 45 = .ok (.ifCond .eq 10, 3) := by decide +kernel
theorem dX7_sort_48 : decode cX7_sort 48 = .ok (.aload_n 0, 1) := by decide +kernel
theorem dX7_sort_49 : decode cX7_sort 49 = .ok (.iload 4, 2) := by decide +kernel
theorem dX7_sort_51 : decode cX7_sort 51 = .ok (.invokevirtual 74, 3) := by decide +kernel
theorem dX7_sort_54 : decode cX7_sort 54 = .ok (.ireturn, 1) := by decide +kernel
theorem dX7_sort_55 : decode cX7_sort 55 = .ok (.aload_n 0, 1) := by decide +kernel
theorem dX7_sort_56 : decode cX7_sort 56 = .ok (.iconst 0, 1) := by decide +kernel
theorem dX7_sort_57 : decode cX7_sort 57 = .ok (.putfield 78, 3) := by decide +kernel
theorem dX7_sort_60 : decode cX7_sort 60 = .ok (.aload_n 0, 1) := by decide +kernel
theorem dX7_sort_61 : decode cX7_sort 61 = .ok (.getfield 46, 3) := by decide +kernel
theorem dX7_sort_64 : decode cX7_sort 64 = .ok (.aload_n 0, 1) := by decide +kernel
theorem dX7_sort_65 : decode cX7_sort 65 = .ok (.getfield 25, 3) := by decide +kernel
theorem dX7_sort_68 : decode cX7_sort 68 = .ok (.aload_n 0, 1) := by decide +kernel
theorem dX7_sort_69 : decode cX7_sort 69 = .ok (.getfield 11, 3) := by decide +kernel
theorem dX7_sort_72 : decode cX7_sort 72 = .ok (.iload_n 1, 1) := by decide +kernel
theorem dX7_sort_73 : decode cX7_sort 73 = .ok (.aaload, 1) := by decide +kernel
theorem dX7_sort_74 : decode cX7_sort 74 = .ok (.iload_n 2, 1) := by decide +kernel
theorem dX7_sort_75 : decode cX7_sort 75 = .ok (.invokevirtual 199, 3) := by decide +kernel
theorem dX7_sort_78 : decode cX7_sort 78 = .ok (.ifCond .ne 6, 3) := by decide +kernel
theorem dX7_sort_81 : decode cX7_sort 81 = .ok (.ldc 182, 2) := by decide +kernel
theorem dX7_sort_83 : decode cX7_sort 83 = .ok (.ireturn, 1) := by decide +kernel
theorem dX7_sort_84 : decode cX7_sort 84 = .ok (.iload_n 3, 1) := by decide +kernel
theorem dX7_sort_85 : decode cX7_sort 85 = .ok (.ifCond .ge 17, 3) := by decide +kernel
theorem dX7_sort_88 : decode cX7_sort 88 = .ok (.aload_n 0, 1) := by decide +kernel
theorem dX7_sort_89 : decode cX7_sort 89 = .ok (.getfield 46, 3) := by decide +kernel
theorem dX7_sort_92 : decode cX7_sort 92 = .ok (.aload_n 0, 1) := by decide +kernel
theorem dX7_sort_93 : decode cX7_sort 93 = .ok (.getfield 25, 3) := by decide +kernel
theorem dX7_sort_96 : decode cX7_sort 96 = .ok (.invokevirtual 209, 3) := by decide +kernel
theorem dX7_sort_99 : decode cX7_sort 99 = .ok (.goto 15, 3) := by decide +kernel
theorem dX7_sort_102 : decode cX7_sort 102 = .ok (.aload_n 0, 1) := by decide +kernel
theorem dX7_sort_103 : decode cX7_sort 103 = .ok (.getfield 46, 3) := by decide +kernel
theorem dX7_sort_106 : decode cX7_sort 106 = .ok (.aload_n 0, 1) := by decide +kernel
theorem dX7_sort_107 : decode cX7_sort 107 = .ok (.getfield 25, 3) := by decide +kernel
theorem dX7_sort_110 : decode cX7_sort 110 = .ok (.iload_n 3, 1) := by decide +kernel
theorem dX7_sort_111 : decode cX7_sort 111 = .ok (.invokevirtual 212, 3) := by decide +kernel
theorem dX7_sort_114 : decode cX7_sort 114 = .ok (.ireturn, 1) := by decide +kernel
set_option maxRecDepth 20000 in
theorem ggX7_plan_X4_isSaint : GoodIn wsX7_plan wsX4_isSaint := goodIn_r _ [9, 10, 95, 96, 97, 98, 99] (by decide +kernel) (by decide +kernel)
set_option maxRecDepth 20000 in
theorem gX7_plan_X4_isSaint : GoodIn wsX7_plan (wsV RX7 154 RX4 yX4_isSaint wsX4_isSaint) := goodIn_app (goodIn_of _ (by decide +kernel)) ggX7_plan_X4_isSaint
set_option maxRecDepth 20000 in
theorem ggX7_plan_X7_isThing : GoodIn wsX7_plan wsX7_isThing := goodIn_r _ [14] (by decide +kernel) (by decide +kernel)
set_option maxRecDepth 20000 in
theorem gX7_plan_X7_isThing : GoodIn wsX7_plan (va_wsS RX7 176 yX7_isThing wsX7_isThing) := goodIn_app (goodIn_of _ (by decide +kernel)) ggX7_plan_X7_isThing
set_option maxRecDepth 20000 in
theorem ggX7_plan_X7_fewestByHand : GoodIn wsX7_plan wsX7_fewestByHand := goodIn_r _ [18, 4, 19, 20, 21, 13, 22, 23, 1, 24, 25, 26, 27, 8, 28, 29, 30, 31, 32, 33, 34, 10, 35, 36, 37, 38, 39, 40, 41, 42, 43, 44, 45, 46, 47, 48, 49, 50, 51, 52, 53, 54, 55, 56, 57, 58, 59, 60, 61, 62, 63, 64, 65, 66, 67, 68, 69, 70, 71, 72, 73, 74, 75, 76, 77, 78, 6, 7, 9, 79, 80, 81, 82, 83, 84, 85, 86, 87, 88, 89, 90, 91, 92, 93, 94, 95, 96, 97, 98, 99] (by decide +kernel) (by decide +kernel)
set_option maxRecDepth 20000 in
theorem gX7_plan_X7_fewestByHand : GoodIn wsX7_plan (wsV RX7 216 RX7 yX7_fewestByHand wsX7_fewestByHand) := goodIn_app (goodIn_of _ (by decide +kernel)) ggX7_plan_X7_fewestByHand
theorem dX7_plan_0 : decode cX7_plan 0 = .ok (.aload_n 0, 1) := by decide +kernel
theorem dX7_plan_1 : decode cX7_plan 1 = .ok (.getfield 25, 3) := by decide +kernel
theorem dX7_plan_4 : decode cX7_plan 4 = .ok (.iload_n 1, 1) := by decide +kernel
theorem dX7_plan_5 : decode cX7_plan 5 = .ok (.invokevirtual 154, 3) := by decide +kernel
theorem dX7_plan_8 : decode cX7_plan 8 = .ok (.ifCond .eq 20, 3) := by decide +kernel
theorem dX7_plan_11 : decode cX7_plan 11 = .ok (.iload_n 2, 1) := by decide +kernel
theorem dX7_plan_12 : decode cX7_plan 12 = .ok (.invokestatic 176, 3) := by decide +kernel
theorem dX7_plan_15 : decode cX7_plan 15 = .ok (.ifCond .eq 13, 3) := by decide +kernel
theorem dX7_plan_18 : decode cX7_plan 18 = .ok (.iload_n 3, 1) := by decide +kernel
theorem dX7_plan_19 : decode cX7_plan 19 = .ok (.iconst (-1), 1) := by decide +kernel
theorem dX7_plan_20 : decode cX7_plan 20 = .ok (.if_icmp .lt 8, 3) := by decide +kernel
theorem dX7_plan_23 : decode cX7_plan 23 = .ok (.iload_n 3, 1) := by decide +kernel
theorem dX7_plan_24 : decode cX7_plan 24 = .ok (.iconst 1, 1) := by decide +kernel
theorem dX7_plan_25 : decode cX7_plan 25 = .ok (.if_icmp .le 6, 3) := by decide +kernel
theorem dX7_plan_28 : decode cX7_plan 28 = .ok (.ldc 73, 2) := by decide +kernel
theorem dX7_plan_30 : decode cX7_plan 30 = .ok (.ireturn, 1) := by decide +kernel
theorem dX7_plan_31 : decode cX7_plan 31 = .ok (.aload_n 0, 1) := by decide +kernel
theorem dX7_plan_32 : decode cX7_plan 32 = .ok (.iload_n 1, 1) := by decide +kernel
theorem dX7_plan_33 : decode cX7_plan 33 = .ok (.iload_n 2, 1) := by decide +kernel
theorem dX7_plan_34 : decode cX7_plan 34 = .ok (.invokevirtual 216, 3) := by decide +kernel
theorem dX7_plan_37 : decode cX7_plan 37 = .ok (.istore 4, 2) := by decide +kernel
theorem dX7_plan_39 : decode cX7_plan 39 = .ok (.iload 4, 2) := by decide +kernel
theorem dX7_plan_41 : decode cX7_plan 41 = .ok (.ifCond .ge 6, 3) := by decide +kernel
theorem dX7_plan_44 : decode cX7_plan 44 = .ok (.ldc 182, 2) := by decide +kernel
theorem dX7_plan_46 : decode cX7_plan 46 = .ok (.ireturn, 1) := by decide +kernel
theorem dX7_plan_47 : decode cX7_plan 47 = .ok (.iload_n 3, 1) := by decide +kernel
theorem dX7_plan_48 : decode cX7_plan 48 = .ok (.ifCond .ge 6, 3) := by decide +kernel
theorem dX7_plan_51 : decode cX7_plan 51 = .ok (.iload 4, 2) := by decide +kernel
theorem dX7_plan_53 : decode cX7_plan 53 = .ok (.ireturn, 1) := by decide +kernel
theorem dX7_plan_54 : decode cX7_plan 54 = .ok (.iload_n 3, 1) := by decide +kernel
theorem dX7_plan_55 : decode cX7_plan 55 = .ok (.iload 4, 2) := by decide +kernel
theorem dX7_plan_57 : decode cX7_plan 57 = .ok (.if_icmp .ge 12, 3) := by decide +kernel
theorem dX7_plan_60 : decode cX7_plan 60 = .ok (.aload_n 0, 1) := by decide +kernel
theorem dX7_plan_61 : decode cX7_plan 61 = .ok (.getfield 64, 3) := by decide +kernel
theorem dX7_plan_64 : decode cX7_plan 64 = .ok (.iload_n 3, 1) := by decide +kernel
theorem dX7_plan_65 : decode cX7_plan 65 = .ok (.iaload, 1) := by decide +kernel
theorem dX7_plan_66 : decode cX7_plan 66 = .ok (.goto 5, 3) := by decide +kernel
theorem dX7_plan_69 : decode cX7_plan 69 = .ok (.ldc 182, 2) := by decide +kernel
theorem dX7_plan_71 : decode cX7_plan 71 = .ok (.ireturn, 1) := by decide +kernel
set_option maxRecDepth 20000 in
theorem ggX7_fits_X7_areCluesAsTold : GoodIn wsX7_fits wsX7_areCluesAsTold := goodIn_r _ [7, 8, 9, 10, 11, 12, 13, 14, 15, 16, 6, 17, 18, 19, 20, 108, 109, 110, 111, 112, 113, 114, 115, 116, 117, 118, 119, 120, 121, 122, 123] (by decide +kernel) (by decide +kernel)
set_option maxRecDepth 20000 in
theorem gX7_fits_X7_areCluesAsTold : GoodIn wsX7_fits (wsV RX7 219 RX7 yX7_areCluesAsTold wsX7_areCluesAsTold) := goodIn_app (goodIn_of _ (by decide +kernel)) ggX7_fits_X7_areCluesAsTold
set_option maxRecDepth 20000 in
theorem ggX7_fits_X7_findingOf : GoodIn wsX7_fits wsX7_findingOf := goodIn_r _ [24, 25, 26, 27, 28, 29, 30, 31, 32, 33, 34, 35, 36, 108, 109, 110, 111, 112, 113, 114, 115, 116, 117, 118, 124, 125, 126] (by decide +kernel) (by decide +kernel)
set_option maxRecDepth 20000 in
theorem gX7_fits_X7_findingOf : GoodIn wsX7_fits (wsV RX7 86 RX7 yX7_findingOf wsX7_findingOf) := goodIn_app (goodIn_of _ (by decide +kernel)) ggX7_fits_X7_findingOf
set_option maxRecDepth 20000 in
theorem ggX7_fits_X7_found : GoodIn wsX7_fits wsX7_found := goodIn_r _ [40, 2, 41, 108, 109, 110, 111, 112, 113, 114, 115, 116, 117, 118] (by decide +kernel) (by decide +kernel)
set_option maxRecDepth 20000 in
theorem gX7_fits_X7_found : GoodIn wsX7_fits (wsV RX7 74 RX7 yX7_found wsX7_found) := goodIn_app (goodIn_of _ (by decide +kernel)) ggX7_fits_X7_found
set_option maxRecDepth 20000 in
theorem ggX7_fits_X7_kindsThatFit : GoodIn wsX7_fits wsX7_kindsThatFit := goodIn_r _ [45, 46, 8, 47, 48, 49, 50, 12, 51, 52, 53, 54, 55, 56, 57, 14, 58, 59, 60, 61, 62, 6, 63, 25, 64, 65, 66, 67, 68, 69, 70, 71, 72, 73, 74, 75, 76, 77, 78, 79, 80, 81, 82, 83, 84, 85, 86, 87, 88, 89, 90, 91, 92, 93, 94, 95, 96, 97, 98, 99, 100, 101, 102, 10, 11, 13, 108, 109, 110, 111, 112, 113, 114, 115, 116, 117, 118, 119, 120, 121, 122, 123, 124, 125, 126] (by decide +kernel) (by decide +kernel)
set_option maxRecDepth 20000 in
theorem gX7_fits_X7_kindsThatFit : GoodIn wsX7_fits (wsV RX7 223 RX7 yX7_kindsThatFit wsX7_kindsThatFit) := goodIn_app (goodIn_of _ (by decide +kernel)) ggX7_fits_X7_kindsThatFit
set_option maxRecDepth 20000 in
theorem ggX7_fits_X7_nightsThatFit : GoodIn wsX7_fits wsX7_nightsThatFit := goodIn_r _ [106, 46, 8, 107, 48, 49, 50, 12, 51, 52, 53, 54, 55, 56, 57, 14, 58, 59, 60, 61, 62, 6, 63, 25, 64, 65, 66, 67, 68, 69, 70, 71, 72, 73, 74, 75, 76, 77, 78, 79, 80, 81, 82, 83, 84, 85, 86, 87, 88, 89, 90, 91, 92, 93, 94, 95, 96, 97, 98, 99, 100, 101, 102, 10, 11, 13, 108, 109, 110, 111, 112, 113, 114, 115, 116, 117, 118, 119, 120, 121, 122, 123, 124, 125, 126] (by decide +kernel) (by decide +kernel)
set_option maxRecDepth 20000 in
theorem gX7_fits_X7_nightsThatFit : GoodIn wsX7_fits (wsV RX7 227 RX7 yX7_nightsThatFit wsX7_nightsThatFit) := goodIn_app (goodIn_of _ (by decide +kernel)) ggX7_fits_X7_nightsThatFit
theorem dX7_fits_0 : decode cX7_fits 0 = .ok (.aload_n 0, 1) := by decide +kernel
theorem dX7_fits_1 : decode cX7_fits 1 = .ok (.iload_n 1, 1) := by decide +kernel
theorem dX7_fits_2 : decode cX7_fits 2 = .ok (.iload_n 2, 1) := by decide +kernel
theorem dX7_fits_3 : decode cX7_fits 3 = .ok (.iload 4, 2) := by decide +kernel
theorem dX7_fits_5 : decode cX7_fits 5 = .ok (.iload 5, 2) := by decide +kernel
theorem dX7_fits_7 : decode cX7_fits 7 = .ok (.invokevirtual 219, 3) := by decide +kernel
theorem dX7_fits_10 : decode cX7_fits 10 = .ok (.ifCond .ne 6, 3) := by decide +kernel
theorem dX7_fits_13 : decode cX7_fits 13 = .ok (.ldc 73, 2) := by decide +kernel
theorem dX7_fits_15 : decode cX7_fits 15 = .ok (.ireturn, 1) := by decide +kernel
theorem dX7_fits_16 : decode cX7_fits 16 = .ok (.aload_n 0, 1) := by decide +kernel
theorem dX7_fits_17 : decode cX7_fits 17 = .ok (.iload_n 2, 1) := by decide +kernel
theorem dX7_fits_18 : decode cX7_fits 18 = .ok (.iload_n 3, 1) := by decide +kernel
theorem dX7_fits_19 : decode cX7_fits 19 = .ok (.iload 4, 2) := by decide +kernel
theorem dX7_fits_21 : decode cX7_fits 21 = .ok (.invokevirtual 86, 3) := by decide +kernel
theorem dX7_fits_24 : decode cX7_fits 24 = .ok (.istore 6, 2) := by decide +kernel
theorem dX7_fits_26 : decode cX7_fits 26 = .ok (.iload 6, 2) := by decide +kernel
theorem dX7_fits_28 : decode cX7_fits 28 = .ok (.ifCond .eq 10, 3) := by decide +kernel
theorem dX7_fits_31 : decode cX7_fits 31 = .ok (.aload_n 0, 1) := by decide +kernel
theorem dX7_fits_32 : decode cX7_fits 32 = .ok (.iload 6, 2) := by decide +kernel
theorem dX7_fits_34 : decode cX7_fits 34 = .ok (.invokevirtual 74, 3) := by decide +kernel
theorem dX7_fits_37 : decode cX7_fits 37 = .ok (.ireturn, 1) := by decide +kernel
theorem dX7_fits_38 : decode cX7_fits 38 = .ok (.aload_n 0, 1) := by decide +kernel
theorem dX7_fits_39 : decode cX7_fits 39 = .ok (.iconst 0, 1) := by decide +kernel
theorem dX7_fits_40 : decode cX7_fits 40 = .ok (.putfield 78, 3) := by decide +kernel
theorem dX7_fits_43 : decode cX7_fits 43 = .ok (.iload 5, 2) := by decide +kernel
theorem dX7_fits_45 : decode cX7_fits 45 = .ok (.ifCond .ne 15, 3) := by decide +kernel
theorem dX7_fits_48 : decode cX7_fits 48 = .ok (.aload_n 0, 1) := by decide +kernel
theorem dX7_fits_49 : decode cX7_fits 49 = .ok (.iload_n 1, 1) := by decide +kernel
theorem dX7_fits_50 : decode cX7_fits 50 = .ok (.iload_n 2, 1) := by decide +kernel
theorem dX7_fits_51 : decode cX7_fits 51 = .ok (.iload_n 3, 1) := by decide +kernel
theorem dX7_fits_52 : decode cX7_fits 52 = .ok (.iload 4, 2) := by decide +kernel
theorem dX7_fits_54 : decode cX7_fits 54 = .ok (.invokevirtual 223, 3) := by decide +kernel
theorem dX7_fits_57 : decode cX7_fits 57 = .ok (.goto 12, 3) := by decide +kernel
theorem dX7_fits_60 : decode cX7_fits 60 = .ok (.aload_n 0, 1) := by decide +kernel
theorem dX7_fits_61 : decode cX7_fits 61 = .ok (.iload_n 1, 1) := by decide +kernel
theorem dX7_fits_62 : decode cX7_fits 62 = .ok (.iload_n 2, 1) := by decide +kernel
theorem dX7_fits_63 : decode cX7_fits 63 = .ok (.iload_n 3, 1) := by decide +kernel
theorem dX7_fits_64 : decode cX7_fits 64 = .ok (.iload 4, 2) := by decide +kernel
theorem dX7_fits_66 : decode cX7_fits 66 = .ok (.invokevirtual 227, 3) := by decide +kernel
theorem dX7_fits_69 : decode cX7_fits 69 = .ok (.ireturn, 1) := by decide +kernel
set_option maxRecDepth 20000 in
theorem ggX7_began_X7_areCluesAsTold : GoodIn wsX7_began wsX7_areCluesAsTold := goodIn_r _ [7, 8, 9, 10, 11, 12, 13, 14, 15, 16, 6, 17, 18, 19, 20, 141, 142, 143, 144, 145, 146, 147, 148, 149, 150, 151, 152, 153, 154, 155, 156] (by decide +kernel) (by decide +kernel)
set_option maxRecDepth 20000 in
theorem gX7_began_X7_areCluesAsTold : GoodIn wsX7_began (wsV RX7 219 RX7 yX7_areCluesAsTold wsX7_areCluesAsTold) := goodIn_app (goodIn_of _ (by decide +kernel)) ggX7_began_X7_areCluesAsTold
set_option maxRecDepth 20000 in
theorem ggX7_began_X7_findingOf : GoodIn wsX7_began wsX7_findingOf := goodIn_r _ [24, 25, 26, 27, 28, 29, 30, 31, 32, 33, 34, 35, 36, 141, 142, 143, 144, 145, 146, 147, 148, 149, 150, 151, 157, 158, 159] (by decide +kernel) (by decide +kernel)
set_option maxRecDepth 20000 in
theorem gX7_began_X7_findingOf : GoodIn wsX7_began (wsV RX7 86 RX7 yX7_findingOf wsX7_findingOf) := goodIn_app (goodIn_of _ (by decide +kernel)) ggX7_began_X7_findingOf
set_option maxRecDepth 20000 in
theorem ggX7_began_X7_found : GoodIn wsX7_began wsX7_found := goodIn_r _ [40, 2, 41, 141, 142, 143, 144, 145, 146, 147, 148, 149, 150, 151] (by decide +kernel) (by decide +kernel)
set_option maxRecDepth 20000 in
theorem gX7_began_X7_found : GoodIn wsX7_began (wsV RX7 74 RX7 yX7_found wsX7_found) := goodIn_app (goodIn_of _ (by decide +kernel)) ggX7_began_X7_found
set_option maxRecDepth 20000 in
theorem ggX7_began_X7_ordersThatFit : GoodIn wsX7_began wsX7_ordersThatFit := goodIn_r _ [45, 46, 8, 47, 48, 49, 50, 51, 52, 53, 54, 55, 56, 57, 58, 59, 60, 61, 62, 63, 64, 65, 66, 67, 68, 69, 70, 71, 72, 73, 74, 75, 76, 77, 78, 79, 80, 81, 82, 83, 84, 12, 85, 86, 87, 88, 14, 89, 90, 91, 92, 93, 6, 94, 25, 95, 96, 97, 98, 99, 100, 101, 102, 103, 104, 105, 106, 107, 108, 109, 110, 111, 112, 113, 114, 115, 116, 117, 118, 119, 120, 121, 122, 123, 124, 125, 126, 127, 128, 129, 130, 131, 132, 10, 11, 13, 133, 134, 135, 136, 137, 138, 139, 140, 141, 142, 143, 144, 145, 146, 147, 148, 149, 150, 151, 160, 161, 162, 152, 153, 154, 155, 156, 157, 158, 159] (by decide +kernel) (by decide +kernel)
set_option maxRecDepth 20000 in
theorem gX7_began_X7_ordersThatFit : GoodIn wsX7_began (wsV RX7 230 RX7 yX7_ordersThatFit wsX7_ordersThatFit) := goodIn_app (goodIn_of _ (by decide +kernel)) ggX7_began_X7_ordersThatFit
theorem dX7_began_0 : decode cX7_began 0 = .ok (.aload_n 0, 1) := by decide +kernel
theorem dX7_began_1 : decode cX7_began 1 = .ok (.iload_n 1, 1) := by decide +kernel
theorem dX7_began_2 : decode cX7_began 2 = .ok (.iload_n 2, 1) := by decide +kernel
theorem dX7_began_3 : decode cX7_began 3 = .ok (.iload 4, 2) := by decide +kernel
theorem dX7_began_5 : decode cX7_began 5 = .ok (.iload 5, 2) := by decide +kernel
theorem dX7_began_7 : decode cX7_began 7 = .ok (.invokevirtual 219, 3) := by decide +kernel
theorem dX7_began_10 : decode cX7_began 10 = .ok (.ifCond .ne 6, 3) := by decide +kernel
theorem dX7_began_13 : decode cX7_began 13 = .ok (.ldc 73, 2) := by decide +kernel
theorem dX7_began_15 : decode cX7_began 15 = .ok (.ireturn, 1) := by decide +kernel
theorem dX7_began_16 : decode cX7_began 16 = .ok (.aload_n 0, 1) := by decide +kernel
theorem dX7_began_17 : decode cX7_began 17 = .ok (.iload_n 2, 1) := by decide +kernel
theorem dX7_began_18 : decode cX7_began 18 = .ok (.iload_n 3, 1) := by decide +kernel
theorem dX7_began_19 : decode cX7_began 19 = .ok (.iload 4, 2) := by decide +kernel
theorem dX7_began_21 : decode cX7_began 21 = .ok (.invokevirtual 86, 3) := by decide +kernel
theorem dX7_began_24 : decode cX7_began 24 = .ok (.istore 6, 2) := by decide +kernel
theorem dX7_began_26 : decode cX7_began 26 = .ok (.iload 6, 2) := by decide +kernel
theorem dX7_began_28 : decode cX7_began 28 = .ok (.ifCond .eq 10, 3) := by decide +kernel
theorem dX7_began_31 : decode cX7_began 31 = .ok (.aload_n 0, 1) := by decide +kernel
theorem dX7_began_32 : decode cX7_began 32 = .ok (.iload 6, 2) := by decide +kernel
theorem dX7_began_34 : decode cX7_began 34 = .ok (.invokevirtual 74, 3) := by decide +kernel
theorem dX7_began_37 : decode cX7_began 37 = .ok (.ireturn, 1) := by decide +kernel
theorem dX7_began_38 : decode cX7_began 38 = .ok (.aload_n 0, 1) := by decide +kernel
theorem dX7_began_39 : decode cX7_began 39 = .ok (.iconst 0, 1) := by decide +kernel
theorem dX7_began_40 : decode cX7_began 40 = .ok (.putfield 78, 3) := by decide +kernel
theorem dX7_began_43 : decode cX7_began 43 = .ok (.aload_n 0, 1) := by decide +kernel
theorem dX7_began_44 : decode cX7_began 44 = .ok (.iload_n 1, 1) := by decide +kernel
theorem dX7_began_45 : decode cX7_began 45 = .ok (.iload_n 2, 1) := by decide +kernel
theorem dX7_began_46 : decode cX7_began 46 = .ok (.iload_n 3, 1) := by decide +kernel
theorem dX7_began_47 : decode cX7_began 47 = .ok (.iload 4, 2) := by decide +kernel
theorem dX7_began_49 : decode cX7_began 49 = .ok (.iload 5, 2) := by decide +kernel
theorem dX7_began_51 : decode cX7_began 51 = .ok (.invokevirtual 230, 3) := by decide +kernel
theorem dX7_began_54 : decode cX7_began 54 = .ok (.ireturn, 1) := by decide +kernel
set_option maxRecDepth 20000 in
theorem ggX7_sleep_X4_isSaint : GoodIn wsX7_sleep wsX4_isSaint := goodIn_r _ [10, 11, 89, 90, 91, 92, 93] (by decide +kernel) (by decide +kernel)
set_option maxRecDepth 20000 in
theorem gX7_sleep_X4_isSaint : GoodIn wsX7_sleep (wsV RX7 154 RX4 yX4_isSaint wsX4_isSaint) := goodIn_app (goodIn_of _ (by decide +kernel)) ggX7_sleep_X4_isSaint
set_option maxRecDepth 20000 in
theorem ggX7_sleep_X7_isFirstOrSecond : GoodIn wsX7_sleep wsX7_isFirstOrSecond := goodIn_r _ [15] (by decide +kernel) (by decide +kernel)
set_option maxRecDepth 20000 in
theorem gX7_sleep_X7_isFirstOrSecond : GoodIn wsX7_sleep (va_wsS RX7 170 yX7_isFirstOrSecond wsX7_isFirstOrSecond) := goodIn_app (goodIn_of _ (by decide +kernel)) ggX7_sleep_X7_isFirstOrSecond
set_option maxRecDepth 20000 in
theorem ggX7_sleep_X4_become : GoodIn wsX7_sleep wsX4_become := goodIn_r _ [19, 20, 21, 22, 23, 24, 25, 11, 26, 27, 89, 90, 91, 92, 93] (by decide +kernel) (by decide +kernel)
set_option maxRecDepth 20000 in
theorem gX7_sleep_X4_become : GoodIn wsX7_sleep (wsV RX7 132 RX4 yX4_become wsX4_become) := goodIn_app (goodIn_of _ (by decide +kernel)) ggX7_sleep_X4_become
set_option maxRecDepth 20000 in
theorem ggX7_sleep_X4_advance : GoodIn wsX7_sleep wsX4_advance := goodIn_r _ [31, 11, 26, 32, 33, 34, 9, 35, 20, 25, 36, 37, 38, 39, 40, 41, 42, 43, 44, 45, 46, 47, 48, 49, 50, 51, 52, 53, 54, 55, 56, 57, 58, 59, 27, 60, 61, 62, 63, 64, 7, 8, 10, 89, 90, 91, 92, 93] (by decide +kernel) (by decide +kernel)
set_option maxRecDepth 20000 in
theorem gX7_sleep_X4_advance : GoodIn wsX7_sleep (wsV RX7 150 RX4 yX4_advance wsX4_advance) := goodIn_app (goodIn_of _ (by decide +kernel)) ggX7_sleep_X4_advance
set_option maxRecDepth 20000 in
theorem ggX7_sleep_J6_bitCount_0f7a4 : GoodIn wsX7_sleep wsJ6_bitCount_0f7a4 := goodIn_r _ [68, 69, 70, 71] (by decide +kernel) (by decide +kernel)
set_option maxRecDepth 20000 in
theorem gX7_sleep_J6_bitCount_0f7a4 : GoodIn wsX7_sleep (va_wsS RX7 234 yJ6_bitCount_0f7a4 wsJ6_bitCount_0f7a4) := goodIn_app (goodIn_of _ (by decide +kernel)) ggX7_sleep_J6_bitCount_0f7a4
set_option maxRecDepth 20000 in
theorem ggX7_sleep_X7_power : GoodIn wsX7_sleep wsX7_power := goodIn_r _ [74] (by decide +kernel) (by decide +kernel)
set_option maxRecDepth 20000 in
theorem gX7_sleep_X7_power : GoodIn wsX7_sleep (va_wsS RX7 239 yX7_power wsX7_power) := goodIn_app (goodIn_of _ (by decide +kernel)) ggX7_sleep_X7_power
set_option maxRecDepth 20000 in
theorem ggX7_sleep_X7_commonDivisor : GoodIn wsX7_sleep wsX7_commonDivisor := goodIn_r _ [77] (by decide +kernel) (by decide +kernel)
set_option maxRecDepth 20000 in
theorem gX7_sleep_X7_commonDivisor : GoodIn wsX7_sleep (va_wsS RX7 242 yX7_commonDivisor wsX7_commonDivisor) := goodIn_app (goodIn_of _ (by decide +kernel)) ggX7_sleep_X7_commonDivisor
theorem dX7_sleep_0 : decode cX7_sleep 0 = .ok (.aload_n 0, 1) := by decide +kernel
theorem dX7_sleep_1 : decode cX7_sleep 1 = .ok (.getfield 25, 3) := by decide +kernel
theorem dX7_sleep_4 : decode cX7_sleep 4 = .ok (.iload_n 1, 1) := by decide +kernel
theorem dX7_sleep_5 : decode cX7_sleep 5 = .ok (.invokevirtual 154, 3) := by decide +kernel
theorem dX7_sleep_8 : decode cX7_sleep 8 = .ok (.ifCond .eq 31, 3) := by decide +kernel
theorem dX7_sleep_11 : decode cX7_sleep 11 = .ok (.iload_n 2, 1) := by decide +kernel
theorem dX7_sleep_12 : decode cX7_sleep 12 = .ok (.ifCond .lt 27, 3) := by decide +kernel
theorem dX7_sleep_15 : decode cX7_sleep 15 = .ok (.iload_n 2, 1) := by decide +kernel
theorem dX7_sleep_16 : decode cX7_sleep 16 = .ok (.bipush 9, 2) := by decide +kernel
theorem dX7_sleep_18 : decode cX7_sleep 18 = .ok (.if_icmp .gt 21, 3) := by decide +kernel
theorem dX7_sleep_21 : decode cX7_sleep 21 = .ok (.iload_n 3, 1) := by decide +kernel
theorem dX7_sleep_22 : decode cX7_sleep 22 = .ok (.ifCond .lt 17, 3) := by decide +kernel
theorem dX7_sleep_25 : decode cX7_sleep 25 = .ok (.iload_n 3, 1) := by decide +kernel
theorem dX7_sleep_26 : decode cX7_sleep 26 = .ok (.bipush 10, 2) := by decide +kernel
theorem dX7_sleep_28 : decode cX7_sleep 28 = .ok (.if_icmp .gt 11, 3) := by decide +kernel
theorem dX7_sleep_31 : decode cX7_sleep 31 = .ok (.iload 4, 2) := by decide +kernel
theorem dX7_sleep_33 : decode cX7_sleep 33 = .ok (.invokestatic 170, 3) := by decide +kernel
theorem dX7_sleep_36 : decode cX7_sleep 36 = .ok (.ifCond .ne 6, 3) := by decide +kernel
theorem dX7_sleep_39 : decode cX7_sleep 39 = .ok (.ldc 73, 2) := by decide +kernel
theorem dX7_sleep_41 : decode cX7_sleep 41 = .ok (.ireturn, 1) := by decide +kernel
theorem dX7_sleep_42 : decode cX7_sleep 42 = .ok (.iconst 0, 1) := by decide +kernel
theorem dX7_sleep_43 : decode cX7_sleep 43 = .ok (.istore 5, 2) := by decide +kernel
theorem dX7_sleep_45 : decode cX7_sleep 45 = .ok (.iconst 0, 1) := by decide +kernel
theorem dX7_sleep_46 : decode cX7_sleep 46 = .ok (.istore 6, 2) := by decide +kernel
theorem dX7_sleep_48 : decode cX7_sleep 48 = .ok (.iload 6, 2) := by decide +kernel
theorem dX7_sleep_50 : decode cX7_sleep 50 = .ok (.iconst 1, 1) := by decide +kernel
theorem dX7_sleep_51 : decode cX7_sleep 51 = .ok (.aload_n 0, 1) := by decide +kernel
theorem dX7_sleep_52 : decode cX7_sleep 52 = .ok (.getfield 25, 3) := by decide +kernel
theorem dX7_sleep_55 : decode cX7_sleep 55 = .ok (.getfield 139, 3) := by decide +kernel
theorem dX7_sleep_58 : decode cX7_sleep 58 = .ok (.ishl, 1) := by decide +kernel
theorem dX7_sleep_59 : decode cX7_sleep 59 = .ok (.if_icmp .ge 78, 3) := by decide +kernel
theorem dX7_sleep_62 : decode cX7_sleep 62 = .ok (.aload_n 0, 1) := by decide +kernel
theorem dX7_sleep_63 : decode cX7_sleep 63 = .ok (.getfield 29, 3) := by decide +kernel
theorem dX7_sleep_66 : decode cX7_sleep 66 = .ok (.aload_n 0, 1) := by decide +kernel
theorem dX7_sleep_67 : decode cX7_sleep 67 = .ok (.getfield 25, 3) := by decide +kernel
theorem dX7_sleep_70 : decode cX7_sleep 70 = .ok (.invokevirtual 132, 3) := by decide +kernel
theorem dX7_sleep_73 : decode cX7_sleep 73 = .ok (.aload_n 0, 1) := by decide +kernel
theorem dX7_sleep_74 : decode cX7_sleep 74 = .ok (.getfield 29, 3) := by decide +kernel
theorem dX7_sleep_77 : decode cX7_sleep 77 = .ok (.iload 6, 2) := by decide +kernel
theorem dX7_sleep_79 : decode cX7_sleep 79 = .ok (.invokevirtual 150, 3) := by decide +kernel
theorem dX7_sleep_82 : decode cX7_sleep 82 = .ok (.aload_n 0, 1) := by decide +kernel
theorem dX7_sleep_83 : decode cX7_sleep 83 = .ok (.getfield 29, 3) := by decide +kernel
theorem dX7_sleep_86 : decode cX7_sleep 86 = .ok (.getfield 160, 3) := by decide +kernel
theorem dX7_sleep_89 : decode cX7_sleep 89 = .ok (.iload_n 1, 1) := by decide +kernel
theorem dX7_sleep_90 : decode cX7_sleep 90 = .ok (.iaload, 1) := by decide +kernel
theorem dX7_sleep_91 : decode cX7_sleep 91 = .ok (.iload_n 2, 1) := by decide +kernel
theorem dX7_sleep_92 : decode cX7_sleep 92 = .ok (.if_icmp .ne 39, 3) := by decide +kernel
theorem dX7_sleep_95 : decode cX7_sleep 95 = .ok (.iload 6, 2) := by decide +kernel
theorem dX7_sleep_97 : decode cX7_sleep 97 = .ok (.invokestatic 234, 3) := by decide +kernel
theorem dX7_sleep_100 : decode cX7_sleep 100 = .ok (.istore 7, 2) := by decide +kernel
theorem dX7_sleep_102 : decode cX7_sleep 102 = .ok (.iload 5, 2) := by decide +kernel
theorem dX7_sleep_104 : decode cX7_sleep 104 = .ok (.iload_n 3, 1) := by decide +kernel
theorem dX7_sleep_105 : decode cX7_sleep 105 = .ok (.iload 7, 2) := by decide +kernel
theorem dX7_sleep_107 : decode cX7_sleep 107 = .ok (.invokestatic 239, 3) := by decide +kernel
theorem dX7_sleep_110 : decode cX7_sleep 110 = .ok (.bipush 10, 2) := by decide +kernel
theorem dX7_sleep_112 : decode cX7_sleep 112 = .ok (.iload_n 3, 1) := by decide +kernel
theorem dX7_sleep_113 : decode cX7_sleep 113 = .ok (.isub, 1) := by decide +kernel
theorem dX7_sleep_114 : decode cX7_sleep 114 = .ok (.aload_n 0, 1) := by decide +kernel
theorem dX7_sleep_115 : decode cX7_sleep 115 = .ok (.getfield 25, 3) := by decide +kernel
theorem dX7_sleep_118 : decode cX7_sleep 118 = .ok (.getfield 139, 3) := by decide +kernel
theorem dX7_sleep_121 : decode cX7_sleep 121 = .ok (.iload 7, 2) := by decide +kernel
theorem dX7_sleep_123 : decode cX7_sleep 123 = .ok (.isub, 1) := by decide +kernel
theorem dX7_sleep_124 : decode cX7_sleep 124 = .ok (.invokestatic 239, 3) := by decide +kernel
theorem dX7_sleep_127 : decode cX7_sleep 127 = .ok (.imul, 1) := by decide +kernel
theorem dX7_sleep_128 : decode cX7_sleep 128 = .ok (.iadd, 1) := by decide +kernel
theorem dX7_sleep_129 : decode cX7_sleep 129 = .ok (.istore 5, 2) := by decide +kernel
theorem dX7_sleep_131 : decode cX7_sleep 131 = .ok (.iinc 6 1, 3) := by decide +kernel
theorem dX7_sleep_134 : decode cX7_sleep 134 = .ok (.goto (-86), 3) := by decide +kernel
theorem dX7_sleep_137 : decode cX7_sleep 137 = .ok (.bipush 10, 2) := by decide +kernel
theorem dX7_sleep_139 : decode cX7_sleep 139 = .ok (.aload_n 0, 1) := by decide +kernel
theorem dX7_sleep_140 : decode cX7_sleep 140 = .ok (.getfield 25, 3) := by decide +kernel
theorem dX7_sleep_143 : decode cX7_sleep 143 = .ok (.getfield 139, 3) := by decide +kernel
theorem dX7_sleep_146 : decode cX7_sleep 146 = .ok (.invokestatic 239, 3) := by decide +kernel
theorem dX7_sleep_149 : decode cX7_sleep 149 = .ok (.istore 6, 2) := by decide +kernel
theorem dX7_sleep_151 : decode cX7_sleep 151 = .ok (.iload 5, 2) := by decide +kernel
theorem dX7_sleep_153 : decode cX7_sleep 153 = .ok (.iload 6, 2) := by decide +kernel
theorem dX7_sleep_155 : decode cX7_sleep 155 = .ok (.invokestatic 242, 3) := by decide +kernel
theorem dX7_sleep_158 : decode cX7_sleep 158 = .ok (.istore 7, 2) := by decide +kernel
theorem dX7_sleep_160 : decode cX7_sleep 160 = .ok (.iload 7, 2) := by decide +kernel
theorem dX7_sleep_162 : decode cX7_sleep 162 = .ok (.ifCond .gt 6, 3) := by decide +kernel
theorem dX7_sleep_165 : decode cX7_sleep 165 = .ok (.ldc 73, 2) := by decide +kernel
theorem dX7_sleep_167 : decode cX7_sleep 167 = .ok (.ireturn, 1) := by decide +kernel
theorem dX7_sleep_168 : decode cX7_sleep 168 = .ok (.iload 4, 2) := by decide +kernel
theorem dX7_sleep_170 : decode cX7_sleep 170 = .ok (.ifCond .ne 11, 3) := by decide +kernel
theorem dX7_sleep_173 : decode cX7_sleep 173 = .ok (.iload 5, 2) := by decide +kernel
theorem dX7_sleep_175 : decode cX7_sleep 175 = .ok (.iload 7, 2) := by decide +kernel
theorem dX7_sleep_177 : decode cX7_sleep 177 = .ok (.idiv, 1) := by decide +kernel
theorem dX7_sleep_178 : decode cX7_sleep 178 = .ok (.goto 8, 3) := by decide +kernel
theorem dX7_sleep_181 : decode cX7_sleep 181 = .ok (.iload 6, 2) := by decide +kernel
theorem dX7_sleep_183 : decode cX7_sleep 183 = .ok (.iload 7, 2) := by decide +kernel
theorem dX7_sleep_185 : decode cX7_sleep 185 = .ok (.idiv, 1) := by decide +kernel
theorem dX7_sleep_186 : decode cX7_sleep 186 = .ok (.ireturn, 1) := by decide +kernel
set_option maxRecDepth 20000 in
theorem ggX7_drawn_X7_isFirstOrSecond : GoodIn wsX7_drawn wsX7_isFirstOrSecond := goodIn_r _ [12] (by decide +kernel) (by decide +kernel)
set_option maxRecDepth 20000 in
theorem gX7_drawn_X7_isFirstOrSecond : GoodIn wsX7_drawn (va_wsS RX7 170 yX7_isFirstOrSecond wsX7_isFirstOrSecond) := goodIn_app (goodIn_of _ (by decide +kernel)) ggX7_drawn_X7_isFirstOrSecond
set_option maxRecDepth 20000 in
theorem ggX7_drawn_X4_become : GoodIn wsX7_drawn wsX4_become := goodIn_r _ [17, 18, 19, 20, 21, 22, 23, 24, 25, 26, 88, 89, 90, 91, 92] (by decide +kernel) (by decide +kernel)
set_option maxRecDepth 20000 in
theorem gX7_drawn_X4_become : GoodIn wsX7_drawn (wsV RX7 132 RX4 yX4_become wsX4_become) := goodIn_app (goodIn_of _ (by decide +kernel)) ggX7_drawn_X4_become
set_option maxRecDepth 20000 in
theorem ggX7_drawn_X4_after : GoodIn wsX7_drawn wsX4_after := goodIn_r _ [30, 24, 88, 89, 90, 91, 92] (by decide +kernel) (by decide +kernel)
set_option maxRecDepth 20000 in
theorem gX7_drawn_X4_after : GoodIn wsX7_drawn (wsV RX7 250 RX4 yX4_after wsX4_after) := goodIn_app (goodIn_of _ (by decide +kernel)) ggX7_drawn_X4_after
set_option maxRecDepth 20000 in
theorem ggX7_drawn_X4_exchange : GoodIn wsX7_drawn wsX4_exchange := goodIn_r _ [34, 23, 88, 89, 90, 91, 92] (by decide +kernel) (by decide +kernel)
set_option maxRecDepth 20000 in
theorem gX7_drawn_X4_exchange : GoodIn wsX7_drawn (wsV RX7 157 RX4 yX4_exchange wsX4_exchange) := goodIn_app (goodIn_of _ (by decide +kernel)) ggX7_drawn_X4_exchange
set_option maxRecDepth 20000 in
theorem ggX7_drawn_X4_advance : GoodIn wsX7_drawn wsX4_advance := goodIn_r _ [38, 24, 25, 39, 40, 41, 16, 42, 18, 23, 43, 28, 29, 30, 44, 45, 46, 47, 48, 49, 50, 51, 52, 32, 33, 34, 53, 54, 55, 56, 57, 58, 59, 60, 26, 61, 62, 63, 64, 65, 66, 67, 68, 88, 89, 90, 91, 92] (by decide +kernel) (by decide +kernel)
set_option maxRecDepth 20000 in
theorem gX7_drawn_X4_advance : GoodIn wsX7_drawn (wsV RX7 150 RX4 yX4_advance wsX4_advance) := goodIn_app (goodIn_of _ (by decide +kernel)) ggX7_drawn_X4_advance
set_option maxRecDepth 20000 in
theorem ggX7_drawn_X4_hasHoodWithThing : GoodIn wsX7_drawn wsX4_hasHoodWithThing := goodIn_r _ [72, 24, 18, 23, 88, 89, 90, 91, 92] (by decide +kernel) (by decide +kernel)
set_option maxRecDepth 20000 in
theorem gX7_drawn_X4_hasHoodWithThing : GoodIn wsX7_drawn (wsV RX7 253 RX4 yX4_hasHoodWithThing wsX4_hasHoodWithThing) := goodIn_app (goodIn_of _ (by decide +kernel)) ggX7_drawn_X4_hasHoodWithThing
set_option maxRecDepth 20000 in
theorem ggX7_drawn_X4_figures : GoodIn wsX7_drawn wsX4_figures := goodIn_r _ [76, 24, 23, 88, 89, 90, 91, 92] (by decide +kernel) (by decide +kernel)
set_option maxRecDepth 20000 in
theorem gX7_drawn_X4_figures : GoodIn wsX7_drawn (wsV RX7 186 RX4 yX4_figures wsX4_figures) := goodIn_app (goodIn_of _ (by decide +kernel)) ggX7_drawn_X4_figures
theorem dX7_drawn_0 : decode cX7_drawn 0 = .ok (.aload_n 0, 1) := by decide +kernel
theorem dX7_drawn_1 : decode cX7_drawn 1 = .ok (.getfield 25, 3) := by decide +kernel
theorem dX7_drawn_4 : decode cX7_drawn 4 = .ok (.getfield 139, 3) := by decide +kernel
theorem dX7_drawn_7 : decode cX7_drawn 7 = .ok (.ifCond .ne 6, 3) := by decide +kernel
theorem dX7_drawn_10 : decode cX7_drawn 10 = .ok (.ldc 143, 2) := by decide +kernel
theorem dX7_drawn_12 : decode cX7_drawn 12 = .ok (.ireturn, 1) := by decide +kernel
theorem dX7_drawn_13 : decode cX7_drawn 13 = .ok (.iload_n 1, 1) := by decide +kernel
theorem dX7_drawn_14 : decode cX7_drawn 14 = .ok (.ifCond .lt 27, 3) := by decide +kernel
theorem dX7_drawn_17 : decode cX7_drawn 17 = .ok (.iload_n 1, 1) := by decide +kernel
theorem dX7_drawn_18 : decode cX7_drawn 18 = .ok (.bipush 60, 2) := by decide +kernel
theorem dX7_drawn_20 : decode cX7_drawn 20 = .ok (.if_icmp .gt 21, 3) := by decide +kernel
theorem dX7_drawn_23 : decode cX7_drawn 23 = .ok (.iload_n 2, 1) := by decide +kernel
theorem dX7_drawn_24 : decode cX7_drawn 24 = .ok (.iconst 1, 1) := by decide +kernel
theorem dX7_drawn_25 : decode cX7_drawn 25 = .ok (.if_icmp .lt 16, 3) := by decide +kernel
theorem dX7_drawn_28 : decode cX7_drawn 28 = .ok (.iload_n 2, 1) := by decide +kernel
theorem dX7_drawn_29 : decode cX7_drawn 29 = .ok (.ldc 245, 2) := by decide +kernel
theorem dX7_drawn_31 : decode cX7_drawn 31 = .ok (.if_icmp .gt 10, 3) := by decide +kernel
theorem dX7_drawn_34 : decode cX7_drawn 34 = .ok (.iload_n 3, 1) := by decide +kernel
theorem dX7_drawn_35 : decode cX7_drawn 35 = .ok (.invokestatic 170, 3) := by decide +kernel
theorem dX7_drawn_38 : decode cX7_drawn 38 = .ok (.ifCond .ne 6, 3) := by decide +kernel
theorem dX7_drawn_41 : decode cX7_drawn 41 = .ok (.ldc 73, 2) := by decide +kernel
theorem dX7_drawn_43 : decode cX7_drawn 43 = .ok (.ireturn, 1) := by decide +kernel
theorem dX7_drawn_44 : decode cX7_drawn 44 = .ok (.aload_n 0, 1) := by decide +kernel
theorem dX7_drawn_45 : decode cX7_drawn 45 = .ok (.getfield 29, 3) := by decide +kernel
theorem dX7_drawn_48 : decode cX7_drawn 48 = .ok (.aload_n 0, 1) := by decide +kernel
theorem dX7_drawn_49 : decode cX7_drawn 49 = .ok (.getfield 25, 3) := by decide +kernel
theorem dX7_drawn_52 : decode cX7_drawn 52 = .ok (.invokevirtual 132, 3) := by decide +kernel
theorem dX7_drawn_55 : decode cX7_drawn 55 = .ok (.iload_n 2, 1) := by decide +kernel
theorem dX7_drawn_56 : decode cX7_drawn 56 = .ok (.i2l, 1) := by decide +kernel
theorem dX7_drawn_57 : decode cX7_drawn 57 = .ok (.lstore 4, 2) := by decide +kernel
theorem dX7_drawn_59 : decode cX7_drawn 59 = .ok (.iconst 0, 1) := by decide +kernel
theorem dX7_drawn_60 : decode cX7_drawn 60 = .ok (.istore 6, 2) := by decide +kernel
theorem dX7_drawn_62 : decode cX7_drawn 62 = .ok (.iconst 0, 1) := by decide +kernel
theorem dX7_drawn_63 : decode cX7_drawn 63 = .ok (.istore 7, 2) := by decide +kernel
theorem dX7_drawn_65 : decode cX7_drawn 65 = .ok (.iload 7, 2) := by decide +kernel
theorem dX7_drawn_67 : decode cX7_drawn 67 = .ok (.iload_n 1, 1) := by decide +kernel
theorem dX7_drawn_68 : decode cX7_drawn 68 = .ok (.if_icmp .ge 74, 3) := by decide +kernel
theorem dX7_drawn_71 : decode cX7_drawn 71 = .ok (.lload 4, 2) := by decide +kernel
theorem dX7_drawn_73 : decode cX7_drawn 73 = .ok (.ldc2_w 246, 3) := by decide +kernel
theorem dX7_drawn_76 : decode cX7_drawn 76 = .ok (.lmul, 1) := by decide +kernel
theorem dX7_drawn_77 : decode cX7_drawn 77 = .ok (.ldc2_w 248, 3) := by decide +kernel
theorem dX7_drawn_80 : decode cX7_drawn 80 = .ok (.lrem, 1) := by decide +kernel
theorem dX7_drawn_81 : decode cX7_drawn 81 = .ok (.lstore 4, 2) := by decide +kernel
theorem dX7_drawn_83 : decode cX7_drawn 83 = .ok (.lload 4, 2) := by decide +kernel
theorem dX7_drawn_85 : decode cX7_drawn 85 = .ok (.aload_n 0, 1) := by decide +kernel
theorem dX7_drawn_86 : decode cX7_drawn 86 = .ok (.getfield 25, 3) := by decide +kernel
theorem dX7_drawn_89 : decode cX7_drawn 89 = .ok (.getfield 139, 3) := by decide +kernel
theorem dX7_drawn_92 : decode cX7_drawn 92 = .ok (.i2l, 1) := by decide +kernel
theorem dX7_drawn_93 : decode cX7_drawn 93 = .ok (.lrem, 1) := by decide +kernel
theorem dX7_drawn_94 : decode cX7_drawn 94 = .ok (.l2i, 1) := by decide +kernel
theorem dX7_drawn_95 : decode cX7_drawn 95 = .ok (.istore 8, 2) := by decide +kernel
theorem dX7_drawn_97 : decode cX7_drawn 97 = .ok (.aload_n 0, 1) := by decide +kernel
theorem dX7_drawn_98 : decode cX7_drawn 98 = .ok (.getfield 29, 3) := by decide +kernel
theorem dX7_drawn_101 : decode cX7_drawn 101 = .ok (.iload 8, 2) := by decide +kernel
theorem dX7_drawn_103 : decode cX7_drawn 103 = .ok (.aload_n 0, 1) := by decide +kernel
theorem dX7_drawn_104 : decode cX7_drawn 104 = .ok (.getfield 29, 3) := by decide +kernel
theorem dX7_drawn_107 : decode cX7_drawn 107 = .ok (.iload 8, 2) := by decide +kernel
theorem dX7_drawn_109 : decode cX7_drawn 109 = .ok (.invokevirtual 250, 3) := by decide +kernel
theorem dX7_drawn_112 : decode cX7_drawn 112 = .ok (.invokevirtual 157, 3) := by decide +kernel
theorem dX7_drawn_115 : decode cX7_drawn 115 = .ok (.aload_n 0, 1) := by decide +kernel
theorem dX7_drawn_116 : decode cX7_drawn 116 = .ok (.getfield 29, 3) := by decide +kernel
theorem dX7_drawn_119 : decode cX7_drawn 119 = .ok (.iconst 0, 1) := by decide +kernel
theorem dX7_drawn_120 : decode cX7_drawn 120 = .ok (.invokevirtual 150, 3) := by decide +kernel
theorem dX7_drawn_123 : decode cX7_drawn 123 = .ok (.aload_n 0, 1) := by decide +kernel
theorem dX7_drawn_124 : decode cX7_drawn 124 = .ok (.getfield 29, 3) := by decide +kernel
theorem dX7_drawn_127 : decode cX7_drawn 127 = .ok (.invokevirtual 253, 3) := by decide +kernel
theorem dX7_drawn_130 : decode cX7_drawn 130 = .ok (.ifCond .eq 6, 3) := by decide +kernel
theorem dX7_drawn_133 : decode cX7_drawn 133 = .ok (.iinc 6 1, 3) := by decide +kernel
theorem dX7_drawn_136 : decode cX7_drawn 136 = .ok (.iinc 7 1, 3) := by decide +kernel
theorem dX7_drawn_139 : decode cX7_drawn 139 = .ok (.goto (-74), 3) := by decide +kernel
theorem dX7_drawn_142 : decode cX7_drawn 142 = .ok (.iload_n 3, 1) := by decide +kernel
theorem dX7_drawn_143 : decode cX7_drawn 143 = .ok (.ifCond .ne 13, 3) := by decide +kernel
theorem dX7_drawn_146 : decode cX7_drawn 146 = .ok (.aload_n 0, 1) := by decide +kernel
theorem dX7_drawn_147 : decode cX7_drawn 147 = .ok (.getfield 29, 3) := by decide +kernel
theorem dX7_drawn_150 : decode cX7_drawn 150 = .ok (.invokevirtual 186, 3) := by decide +kernel
theorem dX7_drawn_153 : decode cX7_drawn 153 = .ok (.goto 5, 3) := by decide +kernel
theorem dX7_drawn_156 : decode cX7_drawn 156 = .ok (.iload 6, 2) := by decide +kernel
theorem dX7_drawn_158 : decode cX7_drawn 158 = .ok (.ireturn, 1) := by decide +kernel
set_option maxRecDepth 20000 in
theorem ggX7_image_X4_become : GoodIn wsX7_image wsX4_become := goodIn_r _ [10, 11, 12, 13, 14, 15, 16, 17, 18, 19, 31, 32, 33, 34, 35] (by decide +kernel) (by decide +kernel)
set_option maxRecDepth 20000 in
theorem gX7_image_X4_become : GoodIn wsX7_image (wsV RX7 132 RX4 yX4_become wsX4_become) := goodIn_app (goodIn_of _ (by decide +kernel)) ggX7_image_X4_become
theorem dX7_image_0 : decode cX7_image 0 = .ok (.iload_n 1, 1) := by decide +kernel
theorem dX7_image_1 : decode cX7_image 1 = .ok (.ifCond .lt 8, 3) := by decide +kernel
theorem dX7_image_4 : decode cX7_image 4 = .ok (.iload_n 1, 1) := by decide +kernel
theorem dX7_image_5 : decode cX7_image 5 = .ok (.iconst 2, 1) := by decide +kernel
theorem dX7_image_6 : decode cX7_image 6 = .ok (.if_icmp .lt 6, 3) := by decide +kernel
theorem dX7_image_9 : decode cX7_image 9 = .ok (.ldc 73, 2) := by decide +kernel
theorem dX7_image_11 : decode cX7_image 11 = .ok (.ireturn, 1) := by decide +kernel
theorem dX7_image_12 : decode cX7_image 12 = .ok (.aload_n 0, 1) := by decide +kernel
theorem dX7_image_13 : decode cX7_image 13 = .ok (.getfield 25, 3) := by decide +kernel
theorem dX7_image_16 : decode cX7_image 16 = .ok (.getfield 139, 3) := by decide +kernel
theorem dX7_image_19 : decode cX7_image 19 = .ok (.ifCond .ne 6, 3) := by decide +kernel
theorem dX7_image_22 : decode cX7_image 22 = .ok (.ldc 143, 2) := by decide +kernel
theorem dX7_image_24 : decode cX7_image 24 = .ok (.ireturn, 1) := by decide +kernel
theorem dX7_image_25 : decode cX7_image 25 = .ok (.aload_n 0, 1) := by decide +kernel
theorem dX7_image_26 : decode cX7_image 26 = .ok (.getfield 32, 3) := by decide +kernel
theorem dX7_image_29 : decode cX7_image 29 = .ok (.iload_n 1, 1) := by decide +kernel
theorem dX7_image_30 : decode cX7_image 30 = .ok (.aaload, 1) := by decide +kernel
theorem dX7_image_31 : decode cX7_image 31 = .ok (.aload_n 0, 1) := by decide +kernel
theorem dX7_image_32 : decode cX7_image 32 = .ok (.getfield 25, 3) := by decide +kernel
theorem dX7_image_35 : decode cX7_image 35 = .ok (.invokevirtual 132, 3) := by decide +kernel
theorem dX7_image_38 : decode cX7_image 38 = .ok (.iconst 1, 1) := by decide +kernel
theorem dX7_image_39 : decode cX7_image 39 = .ok (.ireturn, 1) := by decide +kernel
set_option maxRecDepth 20000 in
theorem ggX7_restore_X4_become : GoodIn wsX7_restore wsX4_become := goodIn_r _ [11, 12, 13, 14, 15, 16, 17, 18, 19, 20, 39, 40, 41, 42, 43] (by decide +kernel) (by decide +kernel)
set_option maxRecDepth 20000 in
theorem gX7_restore_X4_become : GoodIn wsX7_restore (wsV RX7 132 RX4 yX4_become wsX4_become) := goodIn_app (goodIn_of _ (by decide +kernel)) ggX7_restore_X4_become
set_option maxRecDepth 20000 in
theorem ggX7_restore_X0_forget : GoodIn wsX7_restore wsX0_forget := goodIn_r _ [25, 26, 27, 44, 45, 46, 47, 48] (by decide +kernel) (by decide +kernel)
set_option maxRecDepth 20000 in
theorem gX7_restore_X0_forget : GoodIn wsX7_restore (wsV RX7 136 RX0 yX0_forget wsX0_forget) := goodIn_app (goodIn_of _ (by decide +kernel)) ggX7_restore_X0_forget
theorem dX7_restore_0 : decode cX7_restore 0 = .ok (.iload_n 1, 1) := by decide +kernel
theorem dX7_restore_1 : decode cX7_restore 1 = .ok (.ifCond .lt 8, 3) := by decide +kernel
theorem dX7_restore_4 : decode cX7_restore 4 = .ok (.iload_n 1, 1) := by decide +kernel
theorem dX7_restore_5 : decode cX7_restore 5 = .ok (.iconst 2, 1) := by decide +kernel
theorem dX7_restore_6 : decode cX7_restore 6 = .ok (.if_icmp .lt 6, 3) := by decide +kernel
theorem dX7_restore_9 : decode cX7_restore 9 = .ok (.ldc 73, 2) := by decide +kernel
theorem dX7_restore_11 : decode cX7_restore 11 = .ok (.ireturn, 1) := by decide +kernel
theorem dX7_restore_12 : decode cX7_restore 12 = .ok (.aload_n 0, 1) := by decide +kernel
theorem dX7_restore_13 : decode cX7_restore 13 = .ok (.getfield 32, 3) := by decide +kernel
theorem dX7_restore_16 : decode cX7_restore 16 = .ok (.iload_n 1, 1) := by decide +kernel
theorem dX7_restore_17 : decode cX7_restore 17 = .ok (.aaload, 1) := by decide +kernel
theorem dX7_restore_18 : decode cX7_restore 18 = .ok (.getfield 139, 3) := by decide +kernel
theorem dX7_restore_21 : decode cX7_restore 21 = .ok (.ifCond .ne 6, 3) := by decide +kernel
theorem dX7_restore_24 : decode cX7_restore 24 = .ok (.ldc 143, 2) := by decide +kernel
theorem dX7_restore_26 : decode cX7_restore 26 = .ok (.ireturn, 1) := by decide +kernel
theorem dX7_restore_27 : decode cX7_restore 27 = .ok (.aload_n 0, 1) := by decide +kernel
theorem dX7_restore_28 : decode cX7_restore 28 = .ok (.getfield 25, 3) := by decide +kernel
theorem dX7_restore_31 : decode cX7_restore 31 = .ok (.aload_n 0, 1) := by decide +kernel
theorem dX7_restore_32 : decode cX7_restore 32 = .ok (.getfield 32, 3) := by decide +kernel
theorem dX7_restore_35 : decode cX7_restore 35 = .ok (.iload_n 1, 1) := by decide +kernel
theorem dX7_restore_36 : decode cX7_restore 36 = .ok (.aaload, 1) := by decide +kernel
theorem dX7_restore_37 : decode cX7_restore 37 = .ok (.invokevirtual 132, 3) := by decide +kernel
theorem dX7_restore_40 : decode cX7_restore 40 = .ok (.aload_n 0, 1) := by decide +kernel
theorem dX7_restore_41 : decode cX7_restore 41 = .ok (.getfield 39, 3) := by decide +kernel
theorem dX7_restore_44 : decode cX7_restore 44 = .ok (.invokevirtual 136, 3) := by decide +kernel
theorem dX7_restore_47 : decode cX7_restore 47 = .ok (.iconst 1, 1) := by decide +kernel
theorem dX7_restore_48 : decode cX7_restore 48 = .ok (.ireturn, 1) := by decide +kernel
set_option maxRecDepth 20000 in
theorem ggX7_kind_X4_isSaint : GoodIn wsX7_kind wsX4_isSaint := goodIn_r _ [8, 9, 21, 22, 23, 24, 25] (by decide +kernel) (by decide +kernel)
set_option maxRecDepth 20000 in
theorem gX7_kind_X4_isSaint : GoodIn wsX7_kind (wsV RX7 154 RX4 yX4_isSaint wsX4_isSaint) := goodIn_app (goodIn_of _ (by decide +kernel)) ggX7_kind_X4_isSaint
theorem dX7_kind_0 : decode cX7_kind 0 = .ok (.aload_n 0, 1) := by decide +kernel
theorem dX7_kind_1 : decode cX7_kind 1 = .ok (.getfield 25, 3) := by decide +kernel
theorem dX7_kind_4 : decode cX7_kind 4 = .ok (.iload_n 1, 1) := by decide +kernel
theorem dX7_kind_5 : decode cX7_kind 5 = .ok (.invokevirtual 154, 3) := by decide +kernel
theorem dX7_kind_8 : decode cX7_kind 8 = .ok (.ifCond .eq 15, 3) := by decide +kernel
theorem dX7_kind_11 : decode cX7_kind 11 = .ok (.aload_n 0, 1) := by decide +kernel
theorem dX7_kind_12 : decode cX7_kind 12 = .ok (.getfield 25, 3) := by decide +kernel
theorem dX7_kind_15 : decode cX7_kind 15 = .ok (.getfield 256, 3) := by decide +kernel
theorem dX7_kind_18 : decode cX7_kind 18 = .ok (.iload_n 1, 1) := by decide +kernel
theorem dX7_kind_19 : decode cX7_kind 19 = .ok (.iaload, 1) := by decide +kernel
theorem dX7_kind_20 : decode cX7_kind 20 = .ok (.goto 5, 3) := by decide +kernel
theorem dX7_kind_23 : decode cX7_kind 23 = .ok (.ldc 73, 2) := by decide +kernel
theorem dX7_kind_25 : decode cX7_kind 25 = .ok (.ireturn, 1) := by decide +kernel
set_option maxRecDepth 20000 in
theorem ggX7_as_X4_isSaint : GoodIn wsX7_as wsX4_isSaint := goodIn_r _ [9, 10, 32, 33, 34, 35, 36] (by decide +kernel) (by decide +kernel)
set_option maxRecDepth 20000 in
theorem gX7_as_X4_isSaint : GoodIn wsX7_as (wsV RX7 154 RX4 yX4_isSaint wsX4_isSaint) := goodIn_app (goodIn_of _ (by decide +kernel)) ggX7_as_X4_isSaint
set_option maxRecDepth 20000 in
theorem ggX7_as_X7_isOfKind : GoodIn wsX7_as wsX7_isOfKind := goodIn_r _ [14, 15] (by decide +kernel) (by decide +kernel)
set_option maxRecDepth 20000 in
theorem gX7_as_X7_isOfKind : GoodIn wsX7_as (va_wsS RX7 259 yX7_isOfKind wsX7_isOfKind) := goodIn_app (goodIn_of _ (by decide +kernel)) ggX7_as_X7_isOfKind
set_option maxRecDepth 20000 in
theorem ggX7_as_X7_found : GoodIn wsX7_as wsX7_found := goodIn_r _ [19, 4, 20, 21, 22, 23, 24, 25, 26, 27, 28, 29, 30, 31] (by decide +kernel) (by decide +kernel)
set_option maxRecDepth 20000 in
theorem gX7_as_X7_found : GoodIn wsX7_as (wsV RX7 74 RX7 yX7_found wsX7_found) := goodIn_app (goodIn_of _ (by decide +kernel)) ggX7_as_X7_found
theorem dX7_as_0 : decode cX7_as 0 = .ok (.aload_n 0, 1) := by decide +kernel
theorem dX7_as_1 : decode cX7_as 1 = .ok (.getfield 25, 3) := by decide +kernel
theorem dX7_as_4 : decode cX7_as 4 = .ok (.iload_n 1, 1) := by decide +kernel
theorem dX7_as_5 : decode cX7_as 5 = .ok (.invokevirtual 154, 3) := by decide +kernel
theorem dX7_as_8 : decode cX7_as 8 = .ok (.ifCond .eq 12, 3) := by decide +kernel
theorem dX7_as_11 : decode cX7_as 11 = .ok (.iload_n 2, 1) := by decide +kernel
theorem dX7_as_12 : decode cX7_as 12 = .ok (.ifCond .lt 8, 3) := by decide +kernel
theorem dX7_as_15 : decode cX7_as 15 = .ok (.iload_n 2, 1) := by decide +kernel
theorem dX7_as_16 : decode cX7_as 16 = .ok (.iconst 5, 1) := by decide +kernel
theorem dX7_as_17 : decode cX7_as 17 = .ok (.if_icmp .le 6, 3) := by decide +kernel
theorem dX7_as_20 : decode cX7_as 20 = .ok (.ldc 73, 2) := by decide +kernel
theorem dX7_as_22 : decode cX7_as 22 = .ok (.ireturn, 1) := by decide +kernel
theorem dX7_as_23 : decode cX7_as 23 = .ok (.aload_n 0, 1) := by decide +kernel
theorem dX7_as_24 : decode cX7_as 24 = .ok (.getfield 25, 3) := by decide +kernel
theorem dX7_as_27 : decode cX7_as 27 = .ok (.getfield 256, 3) := by decide +kernel
theorem dX7_as_30 : decode cX7_as 30 = .ok (.iload_n 1, 1) := by decide +kernel
theorem dX7_as_31 : decode cX7_as 31 = .ok (.iaload, 1) := by decide +kernel
theorem dX7_as_32 : decode cX7_as 32 = .ok (.iload_n 2, 1) := by decide +kernel
theorem dX7_as_33 : decode cX7_as 33 = .ok (.invokestatic 259, 3) := by decide +kernel
theorem dX7_as_36 : decode cX7_as 36 = .ok (.ifCond .ne 9, 3) := by decide +kernel
theorem dX7_as_39 : decode cX7_as 39 = .ok (.aload_n 0, 1) := by decide +kernel
theorem dX7_as_40 : decode cX7_as 40 = .ok (.iconst 3, 1) := by decide +kernel
theorem dX7_as_41 : decode cX7_as 41 = .ok (.invokevirtual 74, 3) := by decide +kernel
theorem dX7_as_44 : decode cX7_as 44 = .ok (.ireturn, 1) := by decide +kernel
theorem dX7_as_45 : decode cX7_as 45 = .ok (.aload_n 0, 1) := by decide +kernel
theorem dX7_as_46 : decode cX7_as 46 = .ok (.iconst 0, 1) := by decide +kernel
theorem dX7_as_47 : decode cX7_as 47 = .ok (.putfield 78, 3) := by decide +kernel
theorem dX7_as_50 : decode cX7_as 50 = .ok (.iload_n 1, 1) := by decide +kernel
theorem dX7_as_51 : decode cX7_as 51 = .ok (.ireturn, 1) := by decide +kernel
set_option maxRecDepth 20000 in
theorem ggX7_ask_X4_isSaint : GoodIn wsX7_ask wsX4_isSaint := goodIn_r _ [8, 9, 47, 48, 49, 50, 51] (by decide +kernel) (by decide +kernel)
set_option maxRecDepth 20000 in
theorem gX7_ask_X4_isSaint : GoodIn wsX7_ask (wsV RX7 154 RX4 yX4_isSaint wsX4_isSaint) := goodIn_app (goodIn_of _ (by decide +kernel)) ggX7_ask_X4_isSaint
set_option maxRecDepth 20000 in
theorem ggX7_ask_X7_isFirstOrSecond : GoodIn wsX7_ask wsX7_isFirstOrSecond := goodIn_r _ [13] (by decide +kernel) (by decide +kernel)
set_option maxRecDepth 20000 in
theorem gX7_ask_X7_isFirstOrSecond : GoodIn wsX7_ask (va_wsS RX7 170 yX7_isFirstOrSecond wsX7_isFirstOrSecond) := goodIn_app (goodIn_of _ (by decide +kernel)) ggX7_ask_X7_isFirstOrSecond
set_option maxRecDepth 20000 in
theorem ggX7_ask_X1_answer : GoodIn wsX7_ask wsX1_answer := goodIn_r _ [18, 19, 20, 21, 22, 23, 17, 24, 25, 26, 27, 28, 29, 30, 31, 32, 33, 7, 34, 9, 35, 52, 53, 47, 48, 49, 50, 51] (by decide +kernel) (by decide +kernel)
set_option maxRecDepth 20000 in
theorem gX7_ask_X1_answer : GoodIn wsX7_ask (wsV RX7 262 RX1 yX1_answer wsX1_answer) := goodIn_app (goodIn_of _ (by decide +kernel)) ggX7_ask_X1_answer
theorem dX7_ask_0 : decode cX7_ask 0 = .ok (.aload_n 0, 1) := by decide +kernel
theorem dX7_ask_1 : decode cX7_ask 1 = .ok (.getfield 25, 3) := by decide +kernel
