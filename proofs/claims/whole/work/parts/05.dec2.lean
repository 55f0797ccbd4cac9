set_option maxRecDepth 20000 in
theorem ggX3_first_X3_isInDoubt : GoodIn wsX3_first wsX3_isInDoubt := goodIn_r _ [5, 6, 31, 32, 33, 34, 35, 36, 37, 38, 39, 40, 41, 42] (by decide +kernel) (by decide +kernel)
set_option maxRecDepth 20000 in
theorem gX3_first_X3_isInDoubt : GoodIn wsX3_first (va_wsS RX3 167 yX3_isInDoubt wsX3_isInDoubt) := goodIn_app (goodIn_of _ (by decide +kernel)) ggX3_first_X3_isInDoubt
set_option maxRecDepth 20000 in
theorem ggX3_first_X3_countDoubtsAlike : GoodIn wsX3_first wsX3_countDoubtsAlike := goodIn_r _ [10, 1, 2, 3, 4, 5, 6, 11, 12, 13, 14, 15, 16, 17, 18, 19, 20, 21, 22, 23, 24, 25, 26, 27, 28, 29, 30, 31, 32, 33, 34, 35, 36, 37, 38, 39, 40, 41, 42] (by decide +kernel) (by decide +kernel)
set_option maxRecDepth 20000 in
theorem gX3_first_X3_countDoubtsAlike : GoodIn wsX3_first (wsV RX3 170 RX3 yX3_countDoubtsAlike wsX3_countDoubtsAlike) := goodIn_app (goodIn_of _ (by decide +kernel)) ggX3_first_X3_countDoubtsAlike
theorem dX3_first_0 : decode cX3_first 0 = .ok (.bipush (-2), 2) := by decide +kernel
theorem dX3_first_2 : decode cX3_first 2 = .ok (.istore_n 1, 1) := by decide +kernel
theorem dX3_first_3 : decode cX3_first 3 = .ok (.iconst 0, 1) := by decide +kernel
theorem dX3_first_4 : decode cX3_first 4 = .ok (.istore_n 2, 1) := by decide +kernel
theorem dX3_first_5 : decode cX3_first 5 = .ok (.iconst 0, 1) := by decide +kernel
theorem dX3_first_6 : decode cX3_first 6 = .ok (.istore_n 3, 1) := by decide +kernel
theorem dX3_first_7 : decode cX3_first 7 = .ok (.iload_n 3, 1) := by decide +kernel
theorem dX3_first_8 : decode cX3_first 8 = .ok (.aload_n 0, 1) := by decide +kernel
theorem dX3_first_9 : decode cX3_first 9 = .ok (.getfield 34, 3) := by decide +kernel
theorem dX3_first_12 : decode cX3_first 12 = .ok (.arraylength, 1) := by decide +kernel
theorem dX3_first_13 : decode cX3_first 13 = .ok (.if_icmp .ge 44, 3) := by decide +kernel
theorem dX3_first_16 : decode cX3_first 16 = .ok (.aload_n 0, 1) := by decide +kernel
theorem dX3_first_17 : decode cX3_first 17 = .ok (.getfield 34, 3) := by decide +kernel
theorem dX3_first_20 : decode cX3_first 20 = .ok (.iload_n 3, 1) := by decide +kernel
theorem dX3_first_21 : decode cX3_first 21 = .ok (.aaload, 1) := by decide +kernel
theorem dX3_first_22 : decode cX3_first 22 = .ok (.invokestatic 167, 3) := by decide +kernel
theorem dX3_first_25 : decode cX3_first 25 = .ok (.ifCond .eq 26, 3) := by decide +kernel
theorem dX3_first_28 : decode cX3_first 28 = .ok (.aload_n 0, 1) := by decide +kernel
theorem dX3_first_29 : decode cX3_first 29 = .ok (.aload_n 0, 1) := by decide +kernel
theorem dX3_first_30 : decode cX3_first 30 = .ok (.getfield 34, 3) := by decide +kernel
theorem dX3_first_33 : decode cX3_first 33 = .ok (.iload_n 3, 1) := by decide +kernel
theorem dX3_first_34 : decode cX3_first 34 = .ok (.aaload, 1) := by decide +kernel
theorem dX3_first_35 : decode cX3_first 35 = .ok (.invokevirtual 170, 3) := by decide +kernel
theorem dX3_first_38 : decode cX3_first 38 = .ok (.istore 4, 2) := by decide +kernel
theorem dX3_first_40 : decode cX3_first 40 = .ok (.iload 4, 2) := by decide +kernel
theorem dX3_first_42 : decode cX3_first 42 = .ok (.iload_n 2, 1) := by decide +kernel
theorem dX3_first_43 : decode cX3_first 43 = .ok (.if_icmp .le 8, 3) := by decide +kernel
theorem dX3_first_46 : decode cX3_first 46 = .ok (.iload 4, 2) := by decide +kernel
theorem dX3_first_48 : decode cX3_first 48 = .ok (.istore_n 2, 1) := by decide +kernel
theorem dX3_first_49 : decode cX3_first 49 = .ok (.iload_n 3, 1) := by decide +kernel
theorem dX3_first_50 : decode cX3_first 50 = .ok (.istore_n 1, 1) := by decide +kernel
theorem dX3_first_51 : decode cX3_first 51 = .ok (.iinc 3 1, 3) := by decide +kernel
theorem dX3_first_54 : decode cX3_first 54 = .ok (.goto (-47), 3) := by decide +kernel
theorem dX3_first_57 : decode cX3_first 57 = .ok (.iload_n 1, 1) := by decide +kernel
theorem dX3_first_58 : decode cX3_first 58 = .ok (.ireturn, 1) := by decide +kernel
set_option maxRecDepth 20000 in
theorem ggX3_settle_X3_itemAt : GoodIn wsX3_settle wsX3_itemAt := goodIn_r _ [6, 1, 45, 46, 47, 48, 49, 50, 51, 52, 53, 54, 55, 56] (by decide +kernel) (by decide +kernel)
set_option maxRecDepth 20000 in
theorem gX3_settle_X3_itemAt : GoodIn wsX3_settle (wsV RX3 103 RX3 yX3_itemAt wsX3_itemAt) := goodIn_app (goodIn_of _ (by decide +kernel)) ggX3_settle_X3_itemAt
set_option maxRecDepth 20000 in
theorem ggX3_settle_X3_isDigit : GoodIn wsX3_settle wsX3_isDigit := goodIn_r _ [9, 10, 11, 5, 12] (by decide +kernel) (by decide +kernel)
set_option maxRecDepth 20000 in
theorem gX3_settle_X3_isDigit : GoodIn wsX3_settle (va_wsS RX3 97 yX3_isDigit wsX3_isDigit) := goodIn_app (goodIn_of _ (by decide +kernel)) ggX3_settle_X3_isDigit
set_option maxRecDepth 20000 in
theorem ggX3_settle_X3_isCode : GoodIn wsX3_settle wsX3_isCode := goodIn_r _ [16, 17, 18, 19, 20, 21, 22, 23, 24, 45, 46, 47, 48, 49, 50, 51, 52, 53, 54, 55, 56, 57, 58, 59] (by decide +kernel) (by decide +kernel)
set_option maxRecDepth 20000 in
theorem gX3_settle_X3_isCode : GoodIn wsX3_settle (wsV RX3 64 RX3 yX3_isCode wsX3_isCode) := goodIn_app (goodIn_of _ (by decide +kernel)) ggX3_settle_X3_isCode
set_option maxRecDepth 20000 in
theorem ggX3_settle_X3_isInDoubt : GoodIn wsX3_settle wsX3_isInDoubt := goodIn_r _ [27, 28, 60, 61, 62, 63, 64, 65, 66, 67, 68, 69, 70, 71] (by decide +kernel) (by decide +kernel)
set_option maxRecDepth 20000 in
theorem gX3_settle_X3_isInDoubt : GoodIn wsX3_settle (va_wsS RX3 167 yX3_isInDoubt wsX3_isInDoubt) := goodIn_app (goodIn_of _ (by decide +kernel)) ggX3_settle_X3_isInDoubt
set_option maxRecDepth 20000 in
theorem ggX3_settle_X0_isAlike : GoodIn wsX3_settle wsX0_isAlike := goodIn_r _ [33, 34, 35, 36, 60, 61, 62, 63, 64, 65, 66, 67, 68, 69, 70, 71] (by decide +kernel) (by decide +kernel)
set_option maxRecDepth 20000 in
theorem gX3_settle_X0_isAlike : GoodIn wsX3_settle (wsV RX3 173 RX0 yX0_isAlike wsX0_isAlike) := goodIn_app (goodIn_of _ (by decide +kernel)) ggX3_settle_X0_isAlike
set_option maxRecDepth 20000 in
theorem ggX3_settle_X0_take : GoodIn wsX3_settle wsX0_take := goodIn_r _ [40, 41, 42, 43, 44, 60, 61, 62, 63, 64, 65, 66, 67, 68, 69, 70, 71] (by decide +kernel) (by decide +kernel)
set_option maxRecDepth 20000 in
theorem gX3_settle_X0_take : GoodIn wsX3_settle (wsV RX3 176 RX0 yX0_take wsX0_take) := goodIn_app (goodIn_of _ (by decide +kernel)) ggX3_settle_X0_take
theorem dX3_settle_0 : decode cX3_settle 0 = .ok (.aload_n 0, 1) := by decide +kernel
theorem dX3_settle_1 : decode cX3_settle 1 = .ok (.iload_n 1, 1) := by decide +kernel
theorem dX3_settle_2 : decode cX3_settle 2 = .ok (.invokevirtual 103, 3) := by decide +kernel
theorem dX3_settle_5 : decode cX3_settle 5 = .ok (.astore 4, 2) := by decide +kernel
theorem dX3_settle_7 : decode cX3_settle 7 = .ok (.aload 4, 2) := by decide +kernel
theorem dX3_settle_9 : decode cX3_settle 9 = .ok (.ifnull 18, 3) := by decide +kernel
theorem dX3_settle_12 : decode cX3_settle 12 = .ok (.iload_n 2, 1) := by decide +kernel
theorem dX3_settle_13 : decode cX3_settle 13 = .ok (.invokestatic 97, 3) := by decide +kernel
theorem dX3_settle_16 : decode cX3_settle 16 = .ok (.ifCond .eq 11, 3) := by decide +kernel
theorem dX3_settle_19 : decode cX3_settle 19 = .ok (.aload_n 0, 1) := by decide +kernel
theorem dX3_settle_20 : decode cX3_settle 20 = .ok (.iload_n 3, 1) := by decide +kernel
theorem dX3_settle_21 : decode cX3_settle 21 = .ok (.invokevirtual 64, 3) := by decide +kernel
theorem dX3_settle_24 : decode cX3_settle 24 = .ok (.ifCond .ne 5, 3) := by decide +kernel
theorem dX3_settle_27 : decode cX3_settle 27 = .ok (.iconst (-1), 1) := by decide +kernel
theorem dX3_settle_28 : decode cX3_settle 28 = .ok (.ireturn, 1) := by decide +kernel
theorem dX3_settle_29 : decode cX3_settle 29 = .ok (.aload 4, 2) := by decide +kernel
theorem dX3_settle_31 : decode cX3_settle 31 = .ok (.invokestatic 167, 3) := by decide +kernel
theorem dX3_settle_34 : decode cX3_settle 34 = .ok (.ifCond .ne 6, 3) := by decide +kernel
theorem dX3_settle_37 : decode cX3_settle 37 = .ok (.bipush (-2), 2) := by decide +kernel
theorem dX3_settle_39 : decode cX3_settle 39 = .ok (.ireturn, 1) := by decide +kernel
theorem dX3_settle_40 : decode cX3_settle 40 = .ok (.iconst 0, 1) := by decide +kernel
theorem dX3_settle_41 : decode cX3_settle 41 = .ok (.istore 5, 2) := by decide +kernel
theorem dX3_settle_43 : decode cX3_settle 43 = .ok (.iconst 0, 1) := by decide +kernel
theorem dX3_settle_44 : decode cX3_settle 44 = .ok (.istore 6, 2) := by decide +kernel
theorem dX3_settle_46 : decode cX3_settle 46 = .ok (.iload 6, 2) := by decide +kernel
theorem dX3_settle_48 : decode cX3_settle 48 = .ok (.aload_n 0, 1) := by decide +kernel
theorem dX3_settle_49 : decode cX3_settle 49 = .ok (.getfield 34, 3) := by decide +kernel
theorem dX3_settle_52 : decode cX3_settle 52 = .ok (.arraylength, 1) := by decide +kernel
theorem dX3_settle_53 : decode cX3_settle 53 = .ok (.if_icmp .ge 53, 3) := by decide +kernel
theorem dX3_settle_56 : decode cX3_settle 56 = .ok (.aload_n 0, 1) := by decide +kernel
theorem dX3_settle_57 : decode cX3_settle 57 = .ok (.getfield 34, 3) := by decide +kernel
theorem dX3_settle_60 : decode cX3_settle 60 = .ok (.iload 6, 2) := by decide +kernel
theorem dX3_settle_62 : decode cX3_settle 62 = .ok (.aaload, 1) := by decide +kernel
theorem dX3_settle_63 : decode cX3_settle 63 = .ok (.invokestatic 167, 3) := by decide +kernel
theorem dX3_settle_66 : decode cX3_settle 66 = .ok (.ifCond .eq 34, 3) := by decide +kernel
theorem dX3_settle_69 : decode cX3_settle 69 = .ok (.aload 4, 2) := by decide +kernel
theorem dX3_settle_71 : decode cX3_settle 71 = .ok (.aload_n 0, 1) := by decide +kernel
theorem dX3_settle_72 : decode cX3_settle 72 = .ok (.getfield 34, 3) := by decide +kernel
theorem dX3_settle_75 : decode cX3_settle 75 = .ok (.iload 6, 2) := by decide +kernel
theorem dX3_settle_77 : decode cX3_settle 77 = .ok (.aaload, 1) := by decide +kernel
theorem dX3_settle_78 : decode cX3_settle 78 = .ok (.invokevirtual 173, 3) := by decide +kernel
theorem dX3_settle_81 : decode cX3_settle 81 = .ok (.ifCond .eq 19, 3) := by decide +kernel
theorem dX3_settle_84 : decode cX3_settle 84 = .ok (.aload_n 0, 1) := by decide +kernel
theorem dX3_settle_85 : decode cX3_settle 85 = .ok (.getfield 34, 3) := by decide +kernel
theorem dX3_settle_88 : decode cX3_settle 88 = .ok (.iload 6, 2) := by decide +kernel
theorem dX3_settle_90 : decode cX3_settle 90 = .ok (.aaload, 1) := by decide +kernel
theorem dX3_settle_91 : decode cX3_settle 91 = .ok (.iload_n 3, 1) := by decide +kernel
theorem dX3_settle_92 : decode cX3_settle 92 = .ok (.iconst 2, 1) := by decide +kernel
theorem dX3_settle_93 : decode cX3_settle 93 = .ok (.iload_n 2, 1) := by decide +kernel
theorem dX3_settle_94 : decode cX3_settle 94 = .ok (.invokevirtual 176, 3) := by decide +kernel
theorem dX3_settle_97 : decode cX3_settle 97 = .ok (.iinc 5 1, 3) := by decide +kernel
theorem dX3_settle_100 : decode cX3_settle 100 = .ok (.iinc 6 1, 3) := by decide +kernel
theorem dX3_settle_103 : decode cX3_settle 103 = .ok (.goto (-57), 3) := by decide +kernel
theorem dX3_settle_106 : decode cX3_settle 106 = .ok (.iload 5, 2) := by decide +kernel
theorem dX3_settle_108 : decode cX3_settle 108 = .ok (.ireturn, 1) := by decide +kernel
set_option maxRecDepth 20000 in
theorem ggX3_recode_X3_isStale : GoodIn wsX3_recode wsX3_isStale := goodIn_r _ [6, 7, 8, 9, 10, 11, 5, 12, 13, 14, 15, 16, 17, 18, 19, 20, 21, 22, 23, 24, 25, 26, 27, 28, 29, 30, 31, 32, 33, 34, 35, 36, 37, 60, 61, 62, 63, 64, 65, 66, 67, 68, 69, 70, 71, 48, 49, 50, 51, 52, 53, 54, 55, 56, 57, 58, 59, 72, 73, 74, 75, 76, 77] (by decide +kernel) (by decide +kernel)
set_option maxRecDepth 20000 in
theorem gX3_recode_X3_isStale : GoodIn wsX3_recode (wsV RX3 179 RX3 yX3_isStale wsX3_isStale) := goodIn_app (goodIn_of _ (by decide +kernel)) ggX3_recode_X3_isStale
set_option maxRecDepth 20000 in
theorem ggX3_recode_X0_renew : GoodIn wsX3_recode wsX0_renew := goodIn_r _ [42, 43, 44, 45, 46, 47, 60, 61, 62, 63, 64, 65, 66, 67, 68, 69, 70, 71] (by decide +kernel) (by decide +kernel)
set_option maxRecDepth 20000 in
theorem gX3_recode_X0_renew : GoodIn wsX3_recode (wsV RX3 182 RX0 yX0_renew wsX0_renew) := goodIn_app (goodIn_of _ (by decide +kernel)) ggX3_recode_X0_renew
theorem dX3_recode_0 : decode cX3_recode 0 = .ok (.iconst 0, 1) := by decide +kernel
theorem dX3_recode_1 : decode cX3_recode 1 = .ok (.istore_n 1, 1) := by decide +kernel
theorem dX3_recode_2 : decode cX3_recode 2 = .ok (.iconst 0, 1) := by decide +kernel
theorem dX3_recode_3 : decode cX3_recode 3 = .ok (.istore_n 2, 1) := by decide +kernel
theorem dX3_recode_4 : decode cX3_recode 4 = .ok (.iload_n 2, 1) := by decide +kernel
theorem dX3_recode_5 : decode cX3_recode 5 = .ok (.aload_n 0, 1) := by decide +kernel
theorem dX3_recode_6 : decode cX3_recode 6 = .ok (.getfield 34, 3) := by decide +kernel
theorem dX3_recode_9 : decode cX3_recode 9 = .ok (.arraylength, 1) := by decide +kernel
theorem dX3_recode_10 : decode cX3_recode 10 = .ok (.if_icmp .ge 34, 3) := by decide +kernel
theorem dX3_recode_13 : decode cX3_recode 13 = .ok (.aload_n 0, 1) := by decide +kernel
theorem dX3_recode_14 : decode cX3_recode 14 = .ok (.aload_n 0, 1) := by decide +kernel
theorem dX3_recode_15 : decode cX3_recode 15 = .ok (.getfield 34, 3) := by decide +kernel
theorem dX3_recode_18 : decode cX3_recode 18 = .ok (.iload_n 2, 1) := by decide +kernel
theorem dX3_recode_19 : decode cX3_recode 19 = .ok (.aaload, 1) := by decide +kernel
theorem dX3_recode_20 : decode cX3_recode 20 = .ok (.invokevirtual 179, 3) := by decide +kernel
theorem dX3_recode_23 : decode cX3_recode 23 = .ok (.ifCond .eq 15, 3) := by decide +kernel
theorem dX3_recode_26 : decode cX3_recode 26 = .ok (.aload_n 0, 1) := by decide +kernel
theorem dX3_recode_27 : decode cX3_recode 27 = .ok (.getfield 34, 3) := by decide +kernel
theorem dX3_recode_30 : decode cX3_recode 30 = .ok (.iload_n 2, 1) := by decide +kernel
theorem dX3_recode_31 : decode cX3_recode 31 = .ok (.aaload, 1) := by decide +kernel
theorem dX3_recode_32 : decode cX3_recode 32 = .ok (.invokevirtual 182, 3) := by decide +kernel
theorem dX3_recode_35 : decode cX3_recode 35 = .ok (.iinc 1 1, 3) := by decide +kernel
theorem dX3_recode_38 : decode cX3_recode 38 = .ok (.iinc 2 1, 3) := by decide +kernel
theorem dX3_recode_41 : decode cX3_recode 41 = .ok (.goto (-37), 3) := by decide +kernel
theorem dX3_recode_44 : decode cX3_recode 44 = .ok (.iload_n 1, 1) := by decide +kernel
theorem dX3_recode_45 : decode cX3_recode 45 = .ok (.ireturn, 1) := by decide +kernel
set_option maxRecDepth 20000 in
theorem ggX3_second_X3_itemAt : GoodIn wsX3_second wsX3_itemAt := goodIn_r _ [9, 10, 41, 42, 43, 44, 45, 46, 47, 48, 49, 50, 51, 52] (by decide +kernel) (by decide +kernel)
set_option maxRecDepth 20000 in
theorem gX3_second_X3_itemAt : GoodIn wsX3_second (wsV RX3 103 RX3 yX3_itemAt wsX3_itemAt) := goodIn_app (goodIn_of _ (by decide +kernel)) ggX3_second_X3_itemAt
set_option maxRecDepth 20000 in
theorem ggX3_second_X3_isDigit : GoodIn wsX3_second wsX3_isDigit := goodIn_r _ [13, 14, 15, 8, 16] (by decide +kernel) (by decide +kernel)
set_option maxRecDepth 20000 in
theorem gX3_second_X3_isDigit : GoodIn wsX3_second (va_wsS RX3 97 yX3_isDigit wsX3_isDigit) := goodIn_app (goodIn_of _ (by decide +kernel)) ggX3_second_X3_isDigit
set_option maxRecDepth 20000 in
theorem ggX3_second_X3_isCode : GoodIn wsX3_second wsX3_isCode := goodIn_r _ [20, 21, 22, 23, 24, 25, 26, 27, 28, 41, 42, 43, 44, 45, 46, 47, 48, 49, 50, 51, 52, 53, 54, 55] (by decide +kernel) (by decide +kernel)
set_option maxRecDepth 20000 in
theorem gX3_second_X3_isCode : GoodIn wsX3_second (wsV RX3 64 RX3 yX3_isCode wsX3_isCode) := goodIn_app (goodIn_of _ (by decide +kernel)) ggX3_second_X3_isCode
theorem dX3_second_0 : decode cX3_second 0 = .ok (.aload_n 0, 1) := by decide +kernel
theorem dX3_second_1 : decode cX3_second 1 = .ok (.iload_n 1, 1) := by decide +kernel
theorem dX3_second_2 : decode cX3_second 2 = .ok (.invokevirtual 103, 3) := by decide +kernel
theorem dX3_second_5 : decode cX3_second 5 = .ok (.astore 4, 2) := by decide +kernel
theorem dX3_second_7 : decode cX3_second 7 = .ok (.aload 4, 2) := by decide +kernel
theorem dX3_second_9 : decode cX3_second 9 = .ok (.ifnull 18, 3) := by decide +kernel
theorem dX3_second_12 : decode cX3_second 12 = .ok (.iload_n 2, 1) := by decide +kernel
theorem dX3_second_13 : decode cX3_second 13 = .ok (.invokestatic 97, 3) := by decide +kernel
theorem dX3_second_16 : decode cX3_second 16 = .ok (.ifCond .eq 11, 3) := by decide +kernel
theorem dX3_second_19 : decode cX3_second 19 = .ok (.aload_n 0, 1) := by decide +kernel
theorem dX3_second_20 : decode cX3_second 20 = .ok (.iload_n 3, 1) := by decide +kernel
theorem dX3_second_21 : decode cX3_second 21 = .ok (.invokevirtual 64, 3) := by decide +kernel
theorem dX3_second_24 : decode cX3_second 24 = .ok (.ifCond .ne 5, 3) := by decide +kernel
theorem dX3_second_27 : decode cX3_second 27 = .ok (.iconst (-1), 1) := by decide +kernel
theorem dX3_second_28 : decode cX3_second 28 = .ok (.ireturn, 1) := by decide +kernel
theorem dX3_second_29 : decode cX3_second 29 = .ok (.aload 4, 2) := by decide +kernel
theorem dX3_second_31 : decode cX3_second 31 = .ok (.getfield 185, 3) := by decide +kernel
theorem dX3_second_34 : decode cX3_second 34 = .ok (.iconst 2, 1) := by decide +kernel
theorem dX3_second_35 : decode cX3_second 35 = .ok (.if_icmp .ne 16, 3) := by decide +kernel
theorem dX3_second_38 : decode cX3_second 38 = .ok (.aload 4, 2) := by decide +kernel
theorem dX3_second_40 : decode cX3_second 40 = .ok (.getfield 188, 3) := by decide +kernel
theorem dX3_second_43 : decode cX3_second 43 = .ok (.iload_n 2, 1) := by decide +kernel
theorem dX3_second_44 : decode cX3_second 44 = .ok (.if_icmp .ne 7, 3) := by decide +kernel
theorem dX3_second_47 : decode cX3_second 47 = .ok (.iconst 1, 1) := by decide +kernel
theorem dX3_second_48 : decode cX3_second 48 = .ok (.goto 4, 3) := by decide +kernel
theorem dX3_second_51 : decode cX3_second 51 = .ok (.iconst 0, 1) := by decide +kernel
theorem dX3_second_52 : decode cX3_second 52 = .ok (.istore 5, 2) := by decide +kernel
theorem dX3_second_54 : decode cX3_second 54 = .ok (.aload 4, 2) := by decide +kernel
theorem dX3_second_56 : decode cX3_second 56 = .ok (.getfield 107, 3) := by decide +kernel
theorem dX3_second_59 : decode cX3_second 59 = .ok (.iconst 1, 1) := by decide +kernel
theorem dX3_second_60 : decode cX3_second 60 = .ok (.if_icmp .ne 8, 3) := by decide +kernel
theorem dX3_second_63 : decode cX3_second 63 = .ok (.iload 5, 2) := by decide +kernel
theorem dX3_second_65 : decode cX3_second 65 = .ok (.ifCond .eq 6, 3) := by decide +kernel
theorem dX3_second_68 : decode cX3_second 68 = .ok (.bipush (-2), 2) := by decide +kernel
theorem dX3_second_70 : decode cX3_second 70 = .ok (.ireturn, 1) := by decide +kernel
theorem dX3_second_71 : decode cX3_second 71 = .ok (.aload 4, 2) := by decide +kernel
theorem dX3_second_73 : decode cX3_second 73 = .ok (.iload_n 3, 1) := by decide +kernel
theorem dX3_second_74 : decode cX3_second 74 = .ok (.putfield 191, 3) := by decide +kernel
theorem dX3_second_77 : decode cX3_second 77 = .ok (.iconst 1, 1) := by decide +kernel
theorem dX3_second_78 : decode cX3_second 78 = .ok (.ireturn, 1) := by decide +kernel
set_option maxRecDepth 20000 in
theorem ggX3_told_X3_itemAt : GoodIn wsX3_told wsX3_itemAt := goodIn_r _ [10, 11, 57, 58, 59, 60, 61, 62, 63, 64, 65, 66, 67, 68] (by decide +kernel) (by decide +kernel)
set_option maxRecDepth 20000 in
theorem gX3_told_X3_itemAt : GoodIn wsX3_told (wsV RX3 103 RX3 yX3_itemAt wsX3_itemAt) := goodIn_app (goodIn_of _ (by decide +kernel)) ggX3_told_X3_itemAt
set_option maxRecDepth 20000 in
theorem ggX3_told_X3_isStale : GoodIn wsX3_told wsX3_isStale := goodIn_r _ [15, 3, 2, 16, 17, 18, 9, 19, 20, 21, 22, 23, 24, 25, 26, 27, 28, 29, 30, 31, 32, 33, 34, 35, 36, 37, 38, 39, 40, 41, 42, 43, 44, 45, 46, 47, 48, 49, 50, 51, 52, 53, 54, 55, 56, 57, 58, 59, 60, 61, 62, 63, 64, 65, 66, 67, 68, 69, 70, 71, 72, 73, 74] (by decide +kernel) (by decide +kernel)
set_option maxRecDepth 20000 in
theorem gX3_told_X3_isStale : GoodIn wsX3_told (wsV RX3 179 RX3 yX3_isStale wsX3_isStale) := goodIn_app (goodIn_of _ (by decide +kernel)) ggX3_told_X3_isStale
theorem dX3_told_0 : decode cX3_told 0 = .ok (.aload_n 0, 1) := by decide +kernel
theorem dX3_told_1 : decode cX3_told 1 = .ok (.iload_n 1, 1) := by decide +kernel
theorem dX3_told_2 : decode cX3_told 2 = .ok (.invokevirtual 103, 3) := by decide +kernel
theorem dX3_told_5 : decode cX3_told 5 = .ok (.astore_n 3, 1) := by decide +kernel
theorem dX3_told_6 : decode cX3_told 6 = .ok (.aload_n 3, 1) := by decide +kernel
theorem dX3_told_7 : decode cX3_told 7 = .ok (.ifnonnull 5, 3) := by decide +kernel
theorem dX3_told_10 : decode cX3_told 10 = .ok (.iconst (-1), 1) := by decide +kernel
theorem dX3_told_11 : decode cX3_told 11 = .ok (.ireturn, 1) := by decide +kernel
theorem dX3_told_12 : decode cX3_told 12 = .ok (.iload_n 2, 1) := by decide +kernel
theorem dX3_told_13 : decode cX3_told 13 = .ok (.tableswitch 78 0 5 #[39, 44, 49, 54, 59, 64], 39) := by decide +kernel
theorem dX3_told_52 : decode cX3_told 52 = .ok (.aload_n 3, 1) := by decide +kernel
theorem dX3_told_53 : decode cX3_told 53 = .ok (.getfield 107, 3) := by decide +kernel
theorem dX3_told_56 : decode cX3_told 56 = .ok (.ireturn, 1) := by decide +kernel
theorem dX3_told_57 : decode cX3_told 57 = .ok (.aload_n 3, 1) := by decide +kernel
theorem dX3_told_58 : decode cX3_told 58 = .ok (.getfield 194, 3) := by decide +kernel
theorem dX3_told_61 : decode cX3_told 61 = .ok (.ireturn, 1) := by decide +kernel
theorem dX3_told_62 : decode cX3_told 62 = .ok (.aload_n 3, 1) := by decide +kernel
theorem dX3_told_63 : decode cX3_told 63 = .ok (.getfield 185, 3) := by decide +kernel
theorem dX3_told_66 : decode cX3_told 66 = .ok (.ireturn, 1) := by decide +kernel
theorem dX3_told_67 : decode cX3_told 67 = .ok (.aload_n 3, 1) := by decide +kernel
theorem dX3_told_68 : decode cX3_told 68 = .ok (.getfield 188, 3) := by decide +kernel
theorem dX3_told_71 : decode cX3_told 71 = .ok (.ireturn, 1) := by decide +kernel
theorem dX3_told_72 : decode cX3_told 72 = .ok (.aload_n 3, 1) := by decide +kernel
theorem dX3_told_73 : decode cX3_told 73 = .ok (.getfield 191, 3) := by decide +kernel
theorem dX3_told_76 : decode cX3_told 76 = .ok (.ireturn, 1) := by decide +kernel
theorem dX3_told_77 : decode cX3_told 77 = .ok (.aload_n 0, 1) := by decide +kernel
theorem dX3_told_78 : decode cX3_told 78 = .ok (.aload_n 3, 1) := by decide +kernel
theorem dX3_told_79 : decode cX3_told 79 = .ok (.invokevirtual 179, 3) := by decide +kernel
theorem dX3_told_82 : decode cX3_told 82 = .ok (.ifCond .eq 7, 3) := by decide +kernel
theorem dX3_told_85 : decode cX3_told 85 = .ok (.iconst 1, 1) := by decide +kernel
theorem dX3_told_86 : decode cX3_told 86 = .ok (.goto 4, 3) := by decide +kernel
theorem dX3_told_89 : decode cX3_told 89 = .ok (.iconst 0, 1) := by decide +kernel
theorem dX3_told_90 : decode cX3_told 90 = .ok (.ireturn, 1) := by decide +kernel
theorem dX3_told_91 : decode cX3_told 91 = .ok (.iconst (-1), 1) := by decide +kernel
theorem dX3_told_92 : decode cX3_told 92 = .ok (.ireturn, 1) := by decide +kernel
set_option maxRecDepth 20000 in
theorem ggX3_coded_X3_isCode : GoodIn wsX3_coded wsX3_isCode := goodIn_r _ [6, 1, 7, 8, 9, 10, 11, 12, 13, 27, 28, 29, 30, 31, 32, 33, 34, 35, 36, 37, 38, 39, 40, 41] (by decide +kernel) (by decide +kernel)
set_option maxRecDepth 20000 in
theorem gX3_coded_X3_isCode : GoodIn wsX3_coded (wsV RX3 64 RX3 yX3_isCode wsX3_isCode) := goodIn_app (goodIn_of _ (by decide +kernel)) ggX3_coded_X3_isCode
set_option maxRecDepth 20000 in
theorem ggX3_coded_X2_below : GoodIn wsX3_coded wsX2_below := goodIn_r _ [17, 12, 13, 18, 5, 19, 39, 40, 41] (by decide +kernel) (by decide +kernel)
set_option maxRecDepth 20000 in
theorem gX3_coded_X2_below : GoodIn wsX3_coded (wsV RX3 197 RX2 yX2_below wsX2_below) := goodIn_app (goodIn_of _ (by decide +kernel)) ggX3_coded_X2_below
set_option maxRecDepth 20000 in
theorem ggX3_coded_X3_countCodedWith : GoodIn wsX3_coded wsX3_countCodedWith := goodIn_r _ [23, 24, 25, 2, 3, 4, 5, 6, 1, 7, 8, 9, 10, 11, 12, 13, 26, 18, 19, 27, 28, 29, 30, 31, 32, 33, 34, 35, 36, 37, 38, 42, 43, 44, 45, 46, 47, 48, 49, 50, 51, 52, 53, 39, 40, 41] (by decide +kernel) (by decide +kernel)
set_option maxRecDepth 20000 in
theorem gX3_coded_X3_countCodedWith : GoodIn wsX3_coded (wsV RX3 200 RX3 yX3_countCodedWith wsX3_countCodedWith) := goodIn_app (goodIn_of _ (by decide +kernel)) ggX3_coded_X3_countCodedWith
theorem dX3_coded_0 : decode cX3_coded 0 = .ok (.aload_n 0, 1) := by decide +kernel
theorem dX3_coded_1 : decode cX3_coded 1 = .ok (.iload_n 1, 1) := by decide +kernel
theorem dX3_coded_2 : decode cX3_coded 2 = .ok (.invokevirtual 64, 3) := by decide +kernel
theorem dX3_coded_5 : decode cX3_coded 5 = .ok (.ifCond .ne 5, 3) := by decide +kernel
theorem dX3_coded_8 : decode cX3_coded 8 = .ok (.iconst (-1), 1) := by decide +kernel
theorem dX3_coded_9 : decode cX3_coded 9 = .ok (.ireturn, 1) := by decide +kernel
theorem dX3_coded_10 : decode cX3_coded 10 = .ok (.aload_n 0, 1) := by decide +kernel
theorem dX3_coded_11 : decode cX3_coded 11 = .ok (.aload_n 0, 1) := by decide +kernel
theorem dX3_coded_12 : decode cX3_coded 12 = .ok (.getfield 14, 3) := by decide +kernel
theorem dX3_coded_15 : decode cX3_coded 15 = .ok (.lconst 1, 1) := by decide +kernel
theorem dX3_coded_16 : decode cX3_coded 16 = .ok (.iload_n 1, 1) := by decide +kernel
theorem dX3_coded_17 : decode cX3_coded 17 = .ok (.lshl, 1) := by decide +kernel
theorem dX3_coded_18 : decode cX3_coded 18 = .ok (.invokevirtual 197, 3) := by decide +kernel
theorem dX3_coded_21 : decode cX3_coded 21 = .ok (.invokevirtual 200, 3) := by decide +kernel
theorem dX3_coded_24 : decode cX3_coded 24 = .ok (.ireturn, 1) := by decide +kernel
set_option maxRecDepth 20000 in
theorem ggX3_total_X2_has : GoodIn wsX3_total wsX2_has := goodIn_r _ [8, 9, 10, 45, 46, 47] (by decide +kernel) (by decide +kernel)
set_option maxRecDepth 20000 in
theorem gX3_total_X2_has : GoodIn wsX3_total (wsV RX3 94 RX2 yX2_has wsX2_has) := goodIn_app (goodIn_of _ (by decide +kernel)) ggX3_total_X2_has
set_option maxRecDepth 20000 in
theorem ggX3_total_X3_isIn : GoodIn wsX3_total wsX3_isIn := goodIn_r _ [14] (by decide +kernel) (by decide +kernel)
set_option maxRecDepth 20000 in
theorem gX3_total_X3_isIn : GoodIn wsX3_total (va_wsS RX3 71 yX3_isIn wsX3_isIn) := goodIn_app (goodIn_of _ (by decide +kernel)) ggX3_total_X3_isIn
set_option maxRecDepth 20000 in
theorem ggX3_total_X2_below : GoodIn wsX3_total wsX2_below := goodIn_r _ [18, 9, 10, 19, 13, 20, 45, 46, 47] (by decide +kernel) (by decide +kernel)
set_option maxRecDepth 20000 in
theorem gX3_total_X2_below : GoodIn wsX3_total (wsV RX3 197 RX2 yX2_below wsX2_below) := goodIn_app (goodIn_of _ (by decide +kernel)) ggX3_total_X2_below
set_option maxRecDepth 20000 in
theorem ggX3_total_X3_countCodedWith : GoodIn wsX3_total wsX3_countCodedWith := goodIn_r _ [24, 25, 26, 27, 28, 29, 13, 30, 31, 4, 5, 6, 7, 8, 9, 10, 32, 19, 20, 33, 34, 35, 36, 37, 38, 39, 40, 41, 42, 43, 44, 48, 49, 50, 51, 52, 53, 54, 55, 56, 57, 58, 59, 45, 46, 47] (by decide +kernel) (by decide +kernel)
set_option maxRecDepth 20000 in
theorem gX3_total_X3_countCodedWith : GoodIn wsX3_total (wsV RX3 200 RX3 yX3_countCodedWith wsX3_countCodedWith) := goodIn_app (goodIn_of _ (by decide +kernel)) ggX3_total_X3_countCodedWith
theorem dX3_total_0 : decode cX3_total 0 = .ok (.aload_n 0, 1) := by decide +kernel
theorem dX3_total_1 : decode cX3_total 1 = .ok (.getfield 18, 3) := by decide +kernel
theorem dX3_total_4 : decode cX3_total 4 = .ok (.iload_n 1, 1) := by decide +kernel
theorem dX3_total_5 : decode cX3_total 5 = .ok (.invokevirtual 94, 3) := by decide +kernel
theorem dX3_total_8 : decode cX3_total 8 = .ok (.ifCond .eq 12, 3) := by decide +kernel
theorem dX3_total_11 : decode cX3_total 11 = .ok (.iload_n 2, 1) := by decide +kernel
theorem dX3_total_12 : decode cX3_total 12 = .ok (.iconst 0, 1) := by decide +kernel
theorem dX3_total_13 : decode cX3_total 13 = .ok (.iconst 1, 1) := by decide +kernel
theorem dX3_total_14 : decode cX3_total 14 = .ok (.invokestatic 71, 3) := by decide +kernel
theorem dX3_total_17 : decode cX3_total 17 = .ok (.ifCond .ne 5, 3) := by decide +kernel
theorem dX3_total_20 : decode cX3_total 20 = .ok (.iconst (-1), 1) := by decide +kernel
theorem dX3_total_21 : decode cX3_total 21 = .ok (.ireturn, 1) := by decide +kernel
theorem dX3_total_22 : decode cX3_total 22 = .ok (.aload_n 0, 1) := by decide +kernel
theorem dX3_total_23 : decode cX3_total 23 = .ok (.getfield 18, 3) := by decide +kernel
theorem dX3_total_26 : decode cX3_total 26 = .ok (.lconst 1, 1) := by decide +kernel
theorem dX3_total_27 : decode cX3_total 27 = .ok (.iload_n 1, 1) := by decide +kernel
theorem dX3_total_28 : decode cX3_total 28 = .ok (.lshl, 1) := by decide +kernel
theorem dX3_total_29 : decode cX3_total 29 = .ok (.invokevirtual 197, 3) := by decide +kernel
theorem dX3_total_32 : decode cX3_total 32 = .ok (.lstore_n 3, 1) := by decide +kernel
theorem dX3_total_33 : decode cX3_total 33 = .ok (.lconst 0, 1) := by decide +kernel
theorem dX3_total_34 : decode cX3_total 34 = .ok (.lstore 5, 2) := by decide +kernel
theorem dX3_total_36 : decode cX3_total 36 = .ok (.iconst 0, 1) := by decide +kernel
theorem dX3_total_37 : decode cX3_total 37 = .ok (.istore 7, 2) := by decide +kernel
theorem dX3_total_39 : decode cX3_total 39 = .ok (.iload 7, 2) := by decide +kernel
theorem dX3_total_41 : decode cX3_total 41 = .ok (.aload_n 0, 1) := by decide +kernel
theorem dX3_total_42 : decode cX3_total 42 = .ok (.getfield 25, 3) := by decide +kernel
theorem dX3_total_45 : decode cX3_total 45 = .ok (.arraylength, 1) := by decide +kernel
theorem dX3_total_46 : decode cX3_total 46 = .ok (.if_icmp .ge 79, 3) := by decide +kernel
theorem dX3_total_49 : decode cX3_total 49 = .ok (.aload_n 0, 1) := by decide +kernel
theorem dX3_total_50 : decode cX3_total 50 = .ok (.getfield 25, 3) := by decide +kernel
theorem dX3_total_53 : decode cX3_total 53 = .ok (.iload 7, 2) := by decide +kernel
theorem dX3_total_55 : decode cX3_total 55 = .ok (.laload, 1) := by decide +kernel
theorem dX3_total_56 : decode cX3_total 56 = .ok (.lload_n 3, 1) := by decide +kernel
theorem dX3_total_57 : decode cX3_total 57 = .ok (.land, 1) := by decide +kernel
theorem dX3_total_58 : decode cX3_total 58 = .ok (.lconst 0, 1) := by decide +kernel
theorem dX3_total_59 : decode cX3_total 59 = .ok (.lcmp, 1) := by decide +kernel
theorem dX3_total_60 : decode cX3_total 60 = .ok (.ifCond .eq 7, 3) := by decide +kernel
theorem dX3_total_63 : decode cX3_total 63 = .ok (.iconst 1, 1) := by decide +kernel
theorem dX3_total_64 : decode cX3_total 64 = .ok (.goto 4, 3) := by decide +kernel
theorem dX3_total_67 : decode cX3_total 67 = .ok (.iconst 0, 1) := by decide +kernel
theorem dX3_total_68 : decode cX3_total 68 = .ok (.istore 8, 2) := by decide +kernel
theorem dX3_total_70 : decode cX3_total 70 = .ok (.aload_n 0, 1) := by decide +kernel
theorem dX3_total_71 : decode cX3_total 71 = .ok (.getfield 25, 3) := by decide +kernel
theorem dX3_total_74 : decode cX3_total 74 = .ok (.iload 7, 2) := by decide +kernel
theorem dX3_total_76 : decode cX3_total 76 = .ok (.laload, 1) := by decide +kernel
theorem dX3_total_77 : decode cX3_total 77 = .ok (.lload_n 3, 1) := by decide +kernel
theorem dX3_total_78 : decode cX3_total 78 = .ok (.ldc2_w 203, 3) := by decide +kernel
theorem dX3_total_81 : decode cX3_total 81 = .ok (.lxor, 1) := by decide +kernel
theorem dX3_total_82 : decode cX3_total 82 = .ok (.land, 1) := by decide +kernel
theorem dX3_total_83 : decode cX3_total 83 = .ok (.lconst 0, 1) := by decide +kernel
theorem dX3_total_84 : decode cX3_total 84 = .ok (.lcmp, 1) := by decide +kernel
theorem dX3_total_85 : decode cX3_total 85 = .ok (.ifCond .eq 7, 3) := by decide +kernel
theorem dX3_total_88 : decode cX3_total 88 = .ok (.iconst 1, 1) := by decide +kernel
theorem dX3_total_89 : decode cX3_total 89 = .ok (.goto 4, 3) := by decide +kernel
theorem dX3_total_92 : decode cX3_total 92 = .ok (.iconst 0, 1) := by decide +kernel
theorem dX3_total_93 : decode cX3_total 93 = .ok (.istore 9, 2) := by decide +kernel
theorem dX3_total_95 : decode cX3_total 95 = .ok (.iload 8, 2) := by decide +kernel
theorem dX3_total_97 : decode cX3_total 97 = .ok (.ifCond .eq 22, 3) := by decide +kernel
theorem dX3_total_100 : decode cX3_total 100 = .ok (.iload_n 2, 1) := by decide +kernel
theorem dX3_total_101 : decode cX3_total 101 = .ok (.iconst 1, 1) := by decide +kernel
theorem dX3_total_102 : decode cX3_total 102 = .ok (.if_icmp .eq 8, 3) := by decide +kernel
theorem dX3_total_105 : decode cX3_total 105 = .ok (.iload 9, 2) := by decide +kernel
theorem dX3_total_107 : decode cX3_total 107 = .ok (.ifCond .ne 12, 3) := by decide +kernel
theorem dX3_total_110 : decode cX3_total 110 = .ok (.lload 5, 2) := by decide +kernel
theorem dX3_total_112 : decode cX3_total 112 = .ok (.lconst 1, 1) := by decide +kernel
theorem dX3_total_113 : decode cX3_total 113 = .ok (.iload 7, 2) := by decide +kernel
theorem dX3_total_115 : decode cX3_total 115 = .ok (.lshl, 1) := by decide +kernel
theorem dX3_total_116 : decode cX3_total 116 = .ok (.lor, 1) := by decide +kernel
theorem dX3_total_117 : decode cX3_total 117 = .ok (.lstore 5, 2) := by decide +kernel
theorem dX3_total_119 : decode cX3_total 119 = .ok (.iinc 7 1, 3) := by decide +kernel
theorem dX3_total_122 : decode cX3_total 122 = .ok (.goto (-83), 3) := by decide +kernel
theorem dX3_total_125 : decode cX3_total 125 = .ok (.aload_n 0, 1) := by decide +kernel
theorem dX3_total_126 : decode cX3_total 126 = .ok (.lload 5, 2) := by decide +kernel
theorem dX3_total_128 : decode cX3_total 128 = .ok (.invokevirtual 200, 3) := by decide +kernel
theorem dX3_total_131 : decode cX3_total 131 = .ok (.ireturn, 1) := by decide +kernel
set_option maxRecDepth 20000 in
theorem ggX3_agree_X3_countSeconds : GoodIn wsX3_agree wsX3_countSeconds := goodIn_r _ [8, 9, 10, 25, 26, 27, 28, 29, 30, 31, 32, 33, 34, 35, 36, 40, 41, 42, 43, 44, 45, 46, 47, 48, 49, 50, 51] (by decide +kernel) (by decide +kernel)
set_option maxRecDepth 20000 in
theorem gX3_agree_X3_countSeconds : GoodIn wsX3_agree (wsV RX3 205 RX3 yX3_countSeconds wsX3_countSeconds) := goodIn_app (goodIn_of _ (by decide +kernel)) ggX3_agree_X3_countSeconds
set_option maxRecDepth 20000 in
theorem ggX3_agree_X3_countAgreeing : GoodIn wsX3_agree wsX3_countAgreeing := goodIn_r _ [14, 9, 10, 15, 25, 26, 27, 28, 29, 30, 31, 32, 33, 34, 35, 36, 40, 41, 42, 43, 44, 45, 46, 47, 48, 49, 50, 51] (by decide +kernel) (by decide +kernel)
set_option maxRecDepth 20000 in
theorem gX3_agree_X3_countAgreeing : GoodIn wsX3_agree (wsV RX3 209 RX3 yX3_countAgreeing wsX3_countAgreeing) := goodIn_app (goodIn_of _ (by decide +kernel)) ggX3_agree_X3_countAgreeing
set_option maxRecDepth 20000 in
theorem ggX3_agree_X3_chance : GoodIn wsX3_agree wsX3_chance := goodIn_r _ [19, 1, 2, 9, 10, 15, 25, 26, 27, 28, 29, 30, 31, 32, 33, 34, 35, 36, 37, 38, 39, 40, 41, 42, 43, 44, 45, 46, 47, 48, 49, 50, 51] (by decide +kernel) (by decide +kernel)
set_option maxRecDepth 20000 in
theorem gX3_agree_X3_chance : GoodIn wsX3_agree (wsV RX3 212 RX3 yX3_chance wsX3_chance) := goodIn_app (goodIn_of _ (by decide +kernel)) ggX3_agree_X3_chance
set_option maxRecDepth 20000 in
theorem ggX3_agree_X3_countState : GoodIn wsX3_agree wsX3_countState := goodIn_r _ [23, 9, 24, 25, 26, 27, 28, 29, 30, 31, 32, 33, 34, 35, 36, 40, 41, 42, 43, 44, 45, 46, 47, 48, 49, 50, 51] (by decide +kernel) (by decide +kernel)
set_option maxRecDepth 20000 in
theorem gX3_agree_X3_countState : GoodIn wsX3_agree (wsV RX3 219 RX3 yX3_countState wsX3_countState) := goodIn_app (goodIn_of _ (by decide +kernel)) ggX3_agree_X3_countState
theorem dX3_agree_0 : decode cX3_agree 0 = .ok (.aload_n 0, 1) := by decide +kernel
theorem dX3_agree_1 : decode cX3_agree 1 = .ok (.invokevirtual 205, 3) := by decide +kernel
theorem dX3_agree_4 : decode cX3_agree 4 = .ok (.i2l, 1) := by decide +kernel
theorem dX3_agree_5 : decode cX3_agree 5 = .ok (.lstore_n 2, 1) := by decide +kernel
theorem dX3_agree_6 : decode cX3_agree 6 = .ok (.aload_n 0, 1) := by decide +kernel
theorem dX3_agree_7 : decode cX3_agree 7 = .ok (.invokevirtual 209, 3) := by decide +kernel
theorem dX3_agree_10 : decode cX3_agree 10 = .ok (.i2l, 1) := by decide +kernel
theorem dX3_agree_11 : decode cX3_agree 11 = .ok (.lstore 4, 2) := by decide +kernel
theorem dX3_agree_13 : decode cX3_agree 13 = .ok (.iload_n 1, 1) := by decide +kernel
theorem dX3_agree_14 : decode cX3_agree 14 = .ok (.tableswitch 102 0 5 #[38, 40, 43, 53, 62, 90], 38) := by decide +kernel
theorem dX3_agree_52 : decode cX3_agree 52 = .ok (.lload_n 2, 1) := by decide +kernel
theorem dX3_agree_53 : decode cX3_agree 53 = .ok (.lreturn, 1) := by decide +kernel
theorem dX3_agree_54 : decode cX3_agree 54 = .ok (.lload 4, 2) := by decide +kernel
theorem dX3_agree_56 : decode cX3_agree 56 = .ok (.lreturn, 1) := by decide +kernel
theorem dX3_agree_57 : decode cX3_agree 57 = .ok (.lload_n 2, 1) := by decide +kernel
theorem dX3_agree_58 : decode cX3_agree 58 = .ok (.lload 4, 2) := by decide +kernel
theorem dX3_agree_60 : decode cX3_agree 60 = .ok (.lmul, 1) := by decide +kernel
theorem dX3_agree_61 : decode cX3_agree 61 = .ok (.aload_n 0, 1) := by decide +kernel
theorem dX3_agree_62 : decode cX3_agree 62 = .ok (.invokevirtual 212, 3) := by decide +kernel
theorem dX3_agree_65 : decode cX3_agree 65 = .ok (.lsub, 1) := by decide +kernel
theorem dX3_agree_66 : decode cX3_agree 66 = .ok (.lreturn, 1) := by decide +kernel
theorem dX3_agree_67 : decode cX3_agree 67 = .ok (.lload_n 2, 1) := by decide +kernel
theorem dX3_agree_68 : decode cX3_agree 68 = .ok (.lload_n 2, 1) := by decide +kernel
theorem dX3_agree_69 : decode cX3_agree 69 = .ok (.lmul, 1) := by decide +kernel
theorem dX3_agree_70 : decode cX3_agree 70 = .ok (.aload_n 0, 1) := by decide +kernel
theorem dX3_agree_71 : decode cX3_agree 71 = .ok (.invokevirtual 212, 3) := by decide +kernel
theorem dX3_agree_74 : decode cX3_agree 74 = .ok (.lsub, 1) := by decide +kernel
theorem dX3_agree_75 : decode cX3_agree 75 = .ok (.lreturn, 1) := by decide +kernel
theorem dX3_agree_76 : decode cX3_agree 76 = .ok (.aload_n 0, 1) := by decide +kernel
theorem dX3_agree_77 : decode cX3_agree 77 = .ok (.getfield 14, 3) := by decide +kernel
theorem dX3_agree_80 : decode cX3_agree 80 = .ok (.getfield 216, 3) := by decide +kernel
theorem dX3_agree_83 : decode cX3_agree 83 = .ok (.iconst 1, 1) := by decide +kernel
theorem dX3_agree_84 : decode cX3_agree 84 = .ok (.if_icmp .le 8, 3) := by decide +kernel
theorem dX3_agree_87 : decode cX3_agree 87 = .ok (.lload 4, 2) := by decide +kernel
theorem dX3_agree_89 : decode cX3_agree 89 = .ok (.goto 14, 3) := by decide +kernel
theorem dX3_agree_92 : decode cX3_agree 92 = .ok (.lload 4, 2) := by decide +kernel
theorem dX3_agree_94 : decode cX3_agree 94 = .ok (.aload_n 0, 1) := by decide +kernel
theorem dX3_agree_95 : decode cX3_agree 95 = .ok (.iconst 1, 1) := by decide +kernel
theorem dX3_agree_96 : decode cX3_agree 96 = .ok (.invokevirtual 219, 3) := by decide +kernel
theorem dX3_agree_99 : decode cX3_agree 99 = .ok (.i2l, 1) := by decide +kernel
theorem dX3_agree_100 : decode cX3_agree 100 = .ok (.ladd, 1) := by decide +kernel
theorem dX3_agree_101 : decode cX3_agree 101 = .ok (.lload_n 2, 1) := by decide +kernel
theorem dX3_agree_102 : decode cX3_agree 102 = .ok (.lsub, 1) := by decide +kernel
theorem dX3_agree_103 : decode cX3_agree 103 = .ok (.lreturn, 1) := by decide +kernel
theorem dX3_agree_104 : decode cX3_agree 104 = .ok (.lload 4, 2) := by decide +kernel
theorem dX3_agree_106 : decode cX3_agree 106 = .ok (.aload_n 0, 1) := by decide +kernel
theorem dX3_agree_107 : decode cX3_agree 107 = .ok (.iconst 1, 1) := by decide +kernel
theorem dX3_agree_108 : decode cX3_agree 108 = .ok (.invokevirtual 219, 3) := by decide +kernel
theorem dX3_agree_111 : decode cX3_agree 111 = .ok (.i2l, 1) := by decide +kernel
theorem dX3_agree_112 : decode cX3_agree 112 = .ok (.ladd, 1) := by decide +kernel
theorem dX3_agree_113 : decode cX3_agree 113 = .ok (.lload_n 2, 1) := by decide +kernel
theorem dX3_agree_114 : decode cX3_agree 114 = .ok (.lsub, 1) := by decide +kernel
theorem dX3_agree_115 : decode cX3_agree 115 = .ok (.lreturn, 1) := by decide +kernel
theorem dX3_agree_116 : decode cX3_agree 116 = .ok (.ldc2_w 222, 3) := by decide +kernel
theorem dX3_agree_119 : decode cX3_agree 119 = .ok (.lreturn, 1) := by decide +kernel
set_option maxRecDepth 20000 in
theorem ggX3_count_X3_countState : GoodIn wsX3_count wsX3_countState := goodIn_r _ [10, 11, 12, 66, 67, 68, 69, 70, 71, 72, 73, 74, 75, 76, 77, 81, 82, 83, 84, 85, 86, 87, 88, 89, 90, 91, 92] (by decide +kernel) (by decide +kernel)
set_option maxRecDepth 20000 in
theorem gX3_count_X3_countState : GoodIn wsX3_count (wsV RX3 219 RX3 yX3_countState wsX3_countState) := goodIn_app (goodIn_of _ (by decide +kernel)) ggX3_count_X3_countState
set_option maxRecDepth 20000 in
theorem ggX3_count_X3_countQuarrels : GoodIn wsX3_count wsX3_countQuarrels := goodIn_r _ [16, 17, 18, 19, 20, 9, 21, 22, 23, 24, 25, 26, 27, 28, 29, 30, 31, 32, 33, 34, 35, 36, 66, 67, 68, 69, 70, 71, 72, 73, 74, 75, 76, 77, 93, 94, 95, 96, 97, 98] (by decide +kernel) (by decide +kernel)
set_option maxRecDepth 20000 in
theorem gX3_count_X3_countQuarrels : GoodIn wsX3_count (wsV RX3 224 RX3 yX3_countQuarrels wsX3_countQuarrels) := goodIn_app (goodIn_of _ (by decide +kernel)) ggX3_count_X3_countQuarrels
set_option maxRecDepth 20000 in
theorem ggX3_count_X3_countStale : GoodIn wsX3_count wsX3_countStale := goodIn_r _ [40, 11, 41, 42, 43, 9, 44, 45, 46, 47, 48, 49, 50, 17, 51, 52, 53, 54, 55, 56, 57, 58, 59, 29, 60, 31, 34, 61, 35, 62, 63, 36, 64, 65, 22, 23, 24, 25, 66, 67, 68, 69, 70, 71, 72, 73, 74, 75, 76, 77, 81, 82, 83, 84, 85, 86, 87, 88, 89, 90, 91, 92, 93, 94, 95, 96, 97, 98] (by decide +kernel) (by decide +kernel)
set_option maxRecDepth 20000 in
theorem gX3_count_X3_countStale : GoodIn wsX3_count (wsV RX3 227 RX3 yX3_countStale wsX3_countStale) := goodIn_app (goodIn_of _ (by decide +kernel)) ggX3_count_X3_countStale
theorem dX3_count_0 : decode cX3_count 0 = .ok (.iload_n 1, 1) := by decide +kernel
theorem dX3_count_1 : decode cX3_count 1 = .ok (.tableswitch 127 0 9 #[55, 63, 68, 86, 91, 97, 103, 109, 114, 119], 55) := by decide +kernel
theorem dX3_count_56 : decode cX3_count 56 = .ok (.aload_n 0, 1) := by decide +kernel
theorem dX3_count_57 : decode cX3_count 57 = .ok (.getfield 14, 3) := by decide +kernel
theorem dX3_count_60 : decode cX3_count 60 = .ok (.getfield 216, 3) := by decide +kernel
theorem dX3_count_63 : decode cX3_count 63 = .ok (.ireturn, 1) := by decide +kernel
theorem dX3_count_64 : decode cX3_count 64 = .ok (.aload_n 0, 1) := by decide +kernel
theorem dX3_count_65 : decode cX3_count 65 = .ok (.getfield 38, 3) := by decide +kernel
theorem dX3_count_68 : decode cX3_count 68 = .ok (.ireturn, 1) := by decide +kernel
theorem dX3_count_69 : decode cX3_count 69 = .ok (.aload_n 0, 1) := by decide +kernel
theorem dX3_count_70 : decode cX3_count 70 = .ok (.iconst 0, 1) := by decide +kernel
theorem dX3_count_71 : decode cX3_count 71 = .ok (.invokevirtual 219, 3) := by decide +kernel
theorem dX3_count_74 : decode cX3_count 74 = .ok (.aload_n 0, 1) := by decide +kernel
theorem dX3_count_75 : decode cX3_count 75 = .ok (.iconst 1, 1) := by decide +kernel
theorem dX3_count_76 : decode cX3_count 76 = .ok (.invokevirtual 219, 3) := by decide +kernel
theorem dX3_count_79 : decode cX3_count 79 = .ok (.iadd, 1) := by decide +kernel
theorem dX3_count_80 : decode cX3_count 80 = .ok (.aload_n 0, 1) := by decide +kernel
theorem dX3_count_81 : decode cX3_count 81 = .ok (.iconst 2, 1) := by decide +kernel
theorem dX3_count_82 : decode cX3_count 82 = .ok (.invokevirtual 219, 3) := by decide +kernel
theorem dX3_count_85 : decode cX3_count 85 = .ok (.iadd, 1) := by decide +kernel
theorem dX3_count_86 : decode cX3_count 86 = .ok (.ireturn, 1) := by decide +kernel
theorem dX3_count_87 : decode cX3_count 87 = .ok (.aload_n 0, 1) := by decide +kernel
theorem dX3_count_88 : decode cX3_count 88 = .ok (.getfield 48, 3) := by decide +kernel
theorem dX3_count_91 : decode cX3_count 91 = .ok (.ireturn, 1) := by decide +kernel
theorem dX3_count_92 : decode cX3_count 92 = .ok (.aload_n 0, 1) := by decide +kernel
theorem dX3_count_93 : decode cX3_count 93 = .ok (.iconst 0, 1) := by decide +kernel
theorem dX3_count_94 : decode cX3_count 94 = .ok (.invokevirtual 219, 3) := by decide +kernel
theorem dX3_count_97 : decode cX3_count 97 = .ok (.ireturn, 1) := by decide +kernel
theorem dX3_count_98 : decode cX3_count 98 = .ok (.aload_n 0, 1) := by decide +kernel
theorem dX3_count_99 : decode cX3_count 99 = .ok (.iconst 1, 1) := by decide +kernel
theorem dX3_count_100 : decode cX3_count 100 = .ok (.invokevirtual 219, 3) := by decide +kernel
theorem dX3_count_103 : decode cX3_count 103 = .ok (.ireturn, 1) := by decide +kernel
theorem dX3_count_104 : decode cX3_count 104 = .ok (.aload_n 0, 1) := by decide +kernel
theorem dX3_count_105 : decode cX3_count 105 = .ok (.iconst 2, 1) := by decide +kernel
theorem dX3_count_106 : decode cX3_count 106 = .ok (.invokevirtual 219, 3) := by decide +kernel
theorem dX3_count_109 : decode cX3_count 109 = .ok (.ireturn, 1) := by decide +kernel
theorem dX3_count_110 : decode cX3_count 110 = .ok (.aload_n 0, 1) := by decide +kernel
theorem dX3_count_111 : decode cX3_count 111 = .ok (.invokevirtual 224, 3) := by decide +kernel
theorem dX3_count_114 : decode cX3_count 114 = .ok (.ireturn, 1) := by decide +kernel
theorem dX3_count_115 : decode cX3_count 115 = .ok (.aload_n 0, 1) := by decide +kernel
theorem dX3_count_116 : decode cX3_count 116 = .ok (.invokevirtual 227, 3) := by decide +kernel
theorem dX3_count_119 : decode cX3_count 119 = .ok (.ireturn, 1) := by decide +kernel
theorem dX3_count_120 : decode cX3_count 120 = .ok (.aload_n 0, 1) := by decide +kernel
theorem dX3_count_121 : decode cX3_count 121 = .ok (.getfield 18, 3) := by decide +kernel
theorem dX3_count_124 : decode cX3_count 124 = .ok (.getfield 216, 3) := by decide +kernel
theorem dX3_count_127 : decode cX3_count 127 = .ok (.ireturn, 1) := by decide +kernel
theorem dX3_count_128 : decode cX3_count 128 = .ok (.iconst (-1), 1) := by decide +kernel
theorem dX3_count_129 : decode cX3_count 129 = .ok (.ireturn, 1) := by decide +kernel
theorem dX3_isIn_0 : decode cX3_isIn 0 = .ok (.iload_n 0, 1) := by decide +kernel
theorem dX3_isIn_1 : decode cX3_isIn 1 = .ok (.iload_n 1, 1) := by decide +kernel
theorem dX3_isIn_2 : decode cX3_isIn 2 = .ok (.if_icmp .lt 12, 3) := by decide +kernel
theorem dX3_isIn_5 : decode cX3_isIn 5 = .ok (.iload_n 0, 1) := by decide +kernel
theorem dX3_isIn_6 : decode cX3_isIn 6 = .ok (.iload_n 2, 1) := by decide +kernel
theorem dX3_isIn_7 : decode cX3_isIn 7 = .ok (.if_icmp .gt 7, 3) := by decide +kernel
theorem dX3_isIn_10 : decode cX3_isIn 10 = .ok (.iconst 1, 1) := by decide +kernel
theorem dX3_isIn_11 : decode cX3_isIn 11 = .ok (.goto 4, 3) := by decide +kernel
theorem dX3_isIn_14 : decode cX3_isIn 14 = .ok (.iconst 0, 1) := by decide +kernel
theorem dX3_isIn_15 : decode cX3_isIn 15 = .ok (.ireturn, 1) := by decide +kernel
set_option maxRecDepth 20000 in
theorem ggX3_isDigit_X3_isIn : GoodIn wsX3_isDigit wsX3_isIn := goodIn_r _ [4] (by decide +kernel) (by decide +kernel)
set_option maxRecDepth 20000 in
theorem gX3_isDigit_X3_isIn : GoodIn wsX3_isDigit (va_wsS RX3 71 yX3_isIn wsX3_isIn) := goodIn_app (goodIn_of _ (by decide +kernel)) ggX3_isDigit_X3_isIn
theorem dX3_isDigit_0 : decode cX3_isDigit 0 = .ok (.iload_n 0, 1) := by decide +kernel
theorem dX3_isDigit_1 : decode cX3_isDigit 1 = .ok (.iconst 0, 1) := by decide +kernel
theorem dX3_isDigit_2 : decode cX3_isDigit 2 = .ok (.bipush 9, 2) := by decide +kernel
theorem dX3_isDigit_4 : decode cX3_isDigit 4 = .ok (.invokestatic 71, 3) := by decide +kernel
theorem dX3_isDigit_7 : decode cX3_isDigit 7 = .ok (.ireturn, 1) := by decide +kernel
theorem dX3_isWord_0 : decode cX3_isWord 0 = .ok (.iload_n 1, 1) := by decide +kernel
theorem dX3_isWord_1 : decode cX3_isWord 1 = .ok (.ifCond .lt 16, 3) := by decide +kernel
theorem dX3_isWord_4 : decode cX3_isWord 4 = .ok (.iload_n 1, 1) := by decide +kernel
theorem dX3_isWord_5 : decode cX3_isWord 5 = .ok (.aload_n 0, 1) := by decide +kernel
theorem dX3_isWord_6 : decode cX3_isWord 6 = .ok (.getfield 28, 3) := by decide +kernel
theorem dX3_isWord_9 : decode cX3_isWord 9 = .ok (.arraylength, 1) := by decide +kernel
theorem dX3_isWord_10 : decode cX3_isWord 10 = .ok (.if_icmp .ge 7, 3) := by decide +kernel
theorem dX3_isWord_13 : decode cX3_isWord 13 = .ok (.iconst 1, 1) := by decide +kernel
theorem dX3_isWord_14 : decode cX3_isWord 14 = .ok (.goto 4, 3) := by decide +kernel
theorem dX3_isWord_17 : decode cX3_isWord 17 = .ok (.iconst 0, 1) := by decide +kernel
theorem dX3_isWord_18 : decode cX3_isWord 18 = .ok (.ireturn, 1) := by decide +kernel
set_option maxRecDepth 20000 in
theorem ggX3_isCode_X2_has : GoodIn wsX3_isCode wsX2_has := goodIn_r _ [6, 7, 8, 21, 22, 23] (by decide +kernel) (by decide +kernel)
set_option maxRecDepth 20000 in
theorem gX3_isCode_X2_has : GoodIn wsX3_isCode (wsV RX3 94 RX2 yX2_has wsX2_has) := goodIn_app (goodIn_of _ (by decide +kernel)) ggX3_isCode_X2_has
theorem dX3_isCode_0 : decode cX3_isCode 0 = .ok (.aload_n 0, 1) := by decide +kernel
theorem dX3_isCode_1 : decode cX3_isCode 1 = .ok (.getfield 14, 3) := by decide +kernel
theorem dX3_isCode_4 : decode cX3_isCode 4 = .ok (.iload_n 1, 1) := by decide +kernel
theorem dX3_isCode_5 : decode cX3_isCode 5 = .ok (.invokevirtual 94, 3) := by decide +kernel
theorem dX3_isCode_8 : decode cX3_isCode 8 = .ok (.ireturn, 1) := by decide +kernel
theorem dX3_itemAt_0 : decode cX3_itemAt 0 = .ok (.iload_n 1, 1) := by decide +kernel
theorem dX3_itemAt_1 : decode cX3_itemAt 1 = .ok (.ifCond .lt 21, 3) := by decide +kernel
theorem dX3_itemAt_4 : decode cX3_itemAt 4 = .ok (.iload_n 1, 1) := by decide +kernel
theorem dX3_itemAt_5 : decode cX3_itemAt 5 = .ok (.aload_n 0, 1) := by decide +kernel
theorem dX3_itemAt_6 : decode cX3_itemAt 6 = .ok (.getfield 34, 3) := by decide +kernel
theorem dX3_itemAt_9 : decode cX3_itemAt 9 = .ok (.arraylength, 1) := by decide +kernel
theorem dX3_itemAt_10 : decode cX3_itemAt 10 = .ok (.if_icmp .ge 12, 3) := by decide +kernel
theorem dX3_itemAt_13 : decode cX3_itemAt 13 = .ok (.aload_n 0, 1) := by decide +kernel
theorem dX3_itemAt_14 : decode cX3_itemAt 14 = .ok (.getfield 34, 3) := by decide +kernel
theorem dX3_itemAt_17 : decode cX3_itemAt 17 = .ok (.iload_n 1, 1) := by decide +kernel
theorem dX3_itemAt_18 : decode cX3_itemAt 18 = .ok (.aaload, 1) := by decide +kernel
theorem dX3_itemAt_19 : decode cX3_itemAt 19 = .ok (.goto 4, 3) := by decide +kernel
theorem dX3_itemAt_22 : decode cX3_itemAt 22 = .ok (.aconst_null, 1) := by decide +kernel
theorem dX3_itemAt_23 : decode cX3_itemAt 23 = .ok (.areturn, 1) := by decide +kernel
theorem dX3_ruleAt_0 : decode cX3_ruleAt 0 = .ok (.iload_n 1, 1) := by decide +kernel
theorem dX3_ruleAt_1 : decode cX3_ruleAt 1 = .ok (.ifCond .lt 21, 3) := by decide +kernel
theorem dX3_ruleAt_4 : decode cX3_ruleAt 4 = .ok (.iload_n 1, 1) := by decide +kernel
theorem dX3_ruleAt_5 : decode cX3_ruleAt 5 = .ok (.aload_n 0, 1) := by decide +kernel
theorem dX3_ruleAt_6 : decode cX3_ruleAt 6 = .ok (.getfield 44, 3) := by decide +kernel
theorem dX3_ruleAt_9 : decode cX3_ruleAt 9 = .ok (.arraylength, 1) := by decide +kernel
theorem dX3_ruleAt_10 : decode cX3_ruleAt 10 = .ok (.if_icmp .ge 12, 3) := by decide +kernel
theorem dX3_ruleAt_13 : decode cX3_ruleAt 13 = .ok (.aload_n 0, 1) := by decide +kernel
theorem dX3_ruleAt_14 : decode cX3_ruleAt 14 = .ok (.getfield 44, 3) := by decide +kernel
theorem dX3_ruleAt_17 : decode cX3_ruleAt 17 = .ok (.iload_n 1, 1) := by decide +kernel
theorem dX3_ruleAt_18 : decode cX3_ruleAt 18 = .ok (.aaload, 1) := by decide +kernel
theorem dX3_ruleAt_19 : decode cX3_ruleAt 19 = .ok (.goto 4, 3) := by decide +kernel
theorem dX3_ruleAt_22 : decode cX3_ruleAt 22 = .ok (.aconst_null, 1) := by decide +kernel
theorem dX3_ruleAt_23 : decode cX3_ruleAt 23 = .ok (.areturn, 1) := by decide +kernel
theorem dX3_bit_0 : decode cX3_bit 0 = .ok (.lload_n 0, 1) := by decide +kernel
theorem dX3_bit_1 : decode cX3_bit 1 = .ok (.iload_n 2, 1) := by decide +kernel
theorem dX3_bit_2 : decode cX3_bit 2 = .ok (.lushr, 1) := by decide +kernel
theorem dX3_bit_3 : decode cX3_bit 3 = .ok (.lconst 1, 1) := by decide +kernel
theorem dX3_bit_4 : decode cX3_bit 4 = .ok (.land, 1) := by decide +kernel
theorem dX3_bit_5 : decode cX3_bit 5 = .ok (.l2i, 1) := by decide +kernel
theorem dX3_bit_6 : decode cX3_bit 6 = .ok (.ireturn, 1) := by decide +kernel
theorem dX3_withBit_0 : decode cX3_withBit 0 = .ok (.iload_n 3, 1) := by decide +kernel
theorem dX3_withBit_1 : decode cX3_withBit 1 = .ok (.iconst 1, 1) := by decide +kernel
theorem dX3_withBit_2 : decode cX3_withBit 2 = .ok (.if_icmp .ne 11, 3) := by decide +kernel
theorem dX3_withBit_5 : decode cX3_withBit 5 = .ok (.lload_n 0, 1) := by decide +kernel
theorem dX3_withBit_6 : decode cX3_withBit 6 = .ok (.lconst 1, 1) := by decide +kernel
theorem dX3_withBit_7 : decode cX3_withBit 7 = .ok (.iload_n 2, 1) := by decide +kernel
theorem dX3_withBit_8 : decode cX3_withBit 8 = .ok (.lshl, 1) := by decide +kernel
theorem dX3_withBit_9 : decode cX3_withBit 9 = .ok (.lor, 1) := by decide +kernel
theorem dX3_withBit_10 : decode cX3_withBit 10 = .ok (.goto 12, 3) := by decide +kernel
theorem dX3_withBit_13 : decode cX3_withBit 13 = .ok (.lload_n 0, 1) := by decide +kernel
theorem dX3_withBit_14 : decode cX3_withBit 14 = .ok (.lconst 1, 1) := by decide +kernel
theorem dX3_withBit_15 : decode cX3_withBit 15 = .ok (.iload_n 2, 1) := by decide +kernel
theorem dX3_withBit_16 : decode cX3_withBit 16 = .ok (.lshl, 1) := by decide +kernel
theorem dX3_withBit_17 : decode cX3_withBit 17 = .ok (.ldc2_w 203, 3) := by decide +kernel
theorem dX3_withBit_20 : decode cX3_withBit 20 = .ok (.lxor, 1) := by decide +kernel
theorem dX3_withBit_21 : decode cX3_withBit 21 = .ok (.land, 1) := by decide +kernel
theorem dX3_withBit_22 : decode cX3_withBit 22 = .ok (.lreturn, 1) := by decide +kernel
set_option maxRecDepth 20000 in
theorem ggX3_setOf_X3_bit : GoodIn wsX3_setOf wsX3_bit := goodIn_r _ [5] (by decide +kernel) (by decide +kernel)
set_option maxRecDepth 20000 in
theorem gX3_setOf_X3_bit : GoodIn wsX3_setOf (va_wsS RX3 75 yX3_bit wsX3_bit) := goodIn_app (goodIn_of _ (by decide +kernel)) ggX3_setOf_X3_bit
theorem dX3_setOf_0 : decode cX3_setOf 0 = .ok (.lconst 0, 1) := by decide +kernel
theorem dX3_setOf_1 : decode cX3_setOf 1 = .ok (.lstore_n 3, 1) := by decide +kernel
theorem dX3_setOf_2 : decode cX3_setOf 2 = .ok (.iconst 0, 1) := by decide +kernel
theorem dX3_setOf_3 : decode cX3_setOf 3 = .ok (.istore 5, 2) := by decide +kernel
theorem dX3_setOf_5 : decode cX3_setOf 5 = .ok (.iload 5, 2) := by decide +kernel
theorem dX3_setOf_7 : decode cX3_setOf 7 = .ok (.aload_n 0, 1) := by decide +kernel
theorem dX3_setOf_8 : decode cX3_setOf 8 = .ok (.getfield 28, 3) := by decide +kernel
theorem dX3_setOf_11 : decode cX3_setOf 11 = .ok (.arraylength, 1) := by decide +kernel
theorem dX3_setOf_12 : decode cX3_setOf 12 = .ok (.if_icmp .ge 31, 3) := by decide +kernel
theorem dX3_setOf_15 : decode cX3_setOf 15 = .ok (.lload_n 1, 1) := by decide +kernel
theorem dX3_setOf_16 : decode cX3_setOf 16 = .ok (.iload 5, 2) := by decide +kernel
theorem dX3_setOf_18 : decode cX3_setOf 18 = .ok (.invokestatic 75, 3) := by decide +kernel
theorem dX3_setOf_21 : decode cX3_setOf 21 = .ok (.iconst 1, 1) := by decide +kernel
theorem dX3_setOf_22 : decode cX3_setOf 22 = .ok (.if_icmp .ne 15, 3) := by decide +kernel
theorem dX3_setOf_25 : decode cX3_setOf 25 = .ok (.lload_n 3, 1) := by decide +kernel
theorem dX3_setOf_26 : decode cX3_setOf 26 = .ok (.lconst 1, 1) := by decide +kernel
theorem dX3_setOf_27 : decode cX3_setOf 27 = .ok (.aload_n 0, 1) := by decide +kernel
theorem dX3_setOf_28 : decode cX3_setOf 28 = .ok (.getfield 28, 3) := by decide +kernel
theorem dX3_setOf_31 : decode cX3_setOf 31 = .ok (.iload 5, 2) := by decide +kernel
theorem dX3_setOf_33 : decode cX3_setOf 33 = .ok (.iaload, 1) := by decide +kernel
theorem dX3_setOf_34 : decode cX3_setOf 34 = .ok (.lshl, 1) := by decide +kernel
theorem dX3_setOf_35 : decode cX3_setOf 35 = .ok (.lor, 1) := by decide +kernel
theorem dX3_setOf_36 : decode cX3_setOf 36 = .ok (.lstore_n 3, 1) := by decide +kernel
theorem dX3_setOf_37 : decode cX3_setOf 37 = .ok (.iinc 5 1, 3) := by decide +kernel
theorem dX3_setOf_40 : decode cX3_setOf 40 = .ok (.goto (-35), 3) := by decide +kernel
theorem dX3_setOf_43 : decode cX3_setOf 43 = .ok (.lload_n 3, 1) := by decide +kernel
theorem dX3_setOf_44 : decode cX3_setOf 44 = .ok (.lreturn, 1) := by decide +kernel
set_option maxRecDepth 20000 in
theorem ggX3_byRules_X3_leaderFor : GoodIn wsX3_byRules wsX3_leaderFor := goodIn_r _ [8, 1, 2, 9, 10, 11, 12, 13, 14, 15, 16, 17, 18, 19, 20, 21, 7, 22, 27, 28, 29, 30, 31, 32, 33, 34, 35, 36, 37, 38, 39, 40, 41, 42, 43, 44, 45, 46, 47, 48, 49, 50, 51, 52, 53, 54, 55, 56] (by decide +kernel) (by decide +kernel)
set_option maxRecDepth 20000 in
theorem gX3_byRules_X3_leaderFor : GoodIn wsX3_byRules (wsV RX3 230 RX3 yX3_leaderFor wsX3_leaderFor) := goodIn_app (goodIn_of _ (by decide +kernel)) ggX3_byRules_X3_leaderFor
set_option maxRecDepth 20000 in
theorem ggX3_byRules_X3_ruleAt : GoodIn wsX3_byRules wsX3_ruleAt := goodIn_r _ [26, 1, 27, 28, 29, 30, 31, 32, 33, 34, 35, 36, 37, 38] (by decide +kernel) (by decide +kernel)
set_option maxRecDepth 20000 in
theorem gX3_byRules_X3_ruleAt : GoodIn wsX3_byRules (wsV RX3 123 RX3 yX3_ruleAt wsX3_ruleAt) := goodIn_app (goodIn_of _ (by decide +kernel)) ggX3_byRules_X3_ruleAt
set_option maxRecDepth 20000 in
theorem ggX3_byRules_X1_fits : GoodIn wsX3_byRules wsX1_fits := goodIn_r _ [13, 14, 15, 16, 17, 18, 19, 20, 21, 7, 22, 39, 40, 41, 42, 43, 44, 45, 46, 47, 48, 49, 50, 51, 52, 53, 54, 55, 56] (by decide +kernel) (by decide +kernel)
set_option maxRecDepth 20000 in
theorem gX3_byRules_X1_fits : GoodIn wsX3_byRules (wsV RX3 135 RX1 yX1_fits wsX1_fits) := goodIn_app (goodIn_of _ (by decide +kernel)) ggX3_byRules_X1_fits
theorem dX3_byRules_0 : decode cX3_byRules 0 = .ok (.aload_n 0, 1) := by decide +kernel
theorem dX3_byRules_1 : decode cX3_byRules 1 = .ok (.aload_n 0, 1) := by decide +kernel
theorem dX3_byRules_2 : decode cX3_byRules 2 = .ok (.aload_n 1, 1) := by decide +kernel
theorem dX3_byRules_3 : decode cX3_byRules 3 = .ok (.iload_n 2, 1) := by decide +kernel
theorem dX3_byRules_4 : decode cX3_byRules 4 = .ok (.invokevirtual 230, 3) := by decide +kernel
theorem dX3_byRules_7 : decode cX3_byRules 7 = .ok (.invokevirtual 123, 3) := by decide +kernel
theorem dX3_byRules_10 : decode cX3_byRules 10 = .ok (.astore_n 3, 1) := by decide +kernel
theorem dX3_byRules_11 : decode cX3_byRules 11 = .ok (.aload_n 3, 1) := by decide +kernel
theorem dX3_byRules_12 : decode cX3_byRules 12 = .ok (.ifnonnull 6, 3) := by decide +kernel
theorem dX3_byRules_15 : decode cX3_byRules 15 = .ok (.bipush (-2), 2) := by decide +kernel
theorem dX3_byRules_17 : decode cX3_byRules 17 = .ok (.ireturn, 1) := by decide +kernel
theorem dX3_byRules_18 : decode cX3_byRules 18 = .ok (.iconst 0, 1) := by decide +kernel
theorem dX3_byRules_19 : decode cX3_byRules 19 = .ok (.istore 4, 2) := by decide +kernel
theorem dX3_byRules_21 : decode cX3_byRules 21 = .ok (.iload 4, 2) := by decide +kernel
theorem dX3_byRules_23 : decode cX3_byRules 23 = .ok (.aload_n 0, 1) := by decide +kernel
theorem dX3_byRules_24 : decode cX3_byRules 24 = .ok (.getfield 44, 3) := by decide +kernel
theorem dX3_byRules_27 : decode cX3_byRules 27 = .ok (.arraylength, 1) := by decide +kernel
theorem dX3_byRules_28 : decode cX3_byRules 28 = .ok (.if_icmp .ge 65, 3) := by decide +kernel
theorem dX3_byRules_31 : decode cX3_byRules 31 = .ok (.aload_n 0, 1) := by decide +kernel
theorem dX3_byRules_32 : decode cX3_byRules 32 = .ok (.getfield 44, 3) := by decide +kernel
theorem dX3_byRules_35 : decode cX3_byRules 35 = .ok (.iload 4, 2) := by decide +kernel
theorem dX3_byRules_37 : decode cX3_byRules 37 = .ok (.aaload, 1) := by decide +kernel
theorem dX3_byRules_38 : decode cX3_byRules 38 = .ok (.astore 5, 2) := by decide +kernel
theorem dX3_byRules_40 : decode cX3_byRules 40 = .ok (.iload 4, 2) := by decide +kernel
theorem dX3_byRules_42 : decode cX3_byRules 42 = .ok (.iload_n 2, 1) := by decide +kernel
theorem dX3_byRules_43 : decode cX3_byRules 43 = .ok (.if_icmp .eq 44, 3) := by decide +kernel
theorem dX3_byRules_46 : decode cX3_byRules 46 = .ok (.aload 5, 2) := by decide +kernel
theorem dX3_byRules_48 : decode cX3_byRules 48 = .ok (.ifnull 39, 3) := by decide +kernel
theorem dX3_byRules_51 : decode cX3_byRules 51 = .ok (.aload 5, 2) := by decide +kernel
theorem dX3_byRules_53 : decode cX3_byRules 53 = .ok (.getfield 233, 3) := by decide +kernel
theorem dX3_byRules_56 : decode cX3_byRules 56 = .ok (.aload_n 3, 1) := by decide +kernel
theorem dX3_byRules_57 : decode cX3_byRules 57 = .ok (.getfield 233, 3) := by decide +kernel
theorem dX3_byRules_60 : decode cX3_byRules 60 = .ok (.if_icmp .ne 27, 3) := by decide +kernel
theorem dX3_byRules_63 : decode cX3_byRules 63 = .ok (.aload 5, 2) := by decide +kernel
theorem dX3_byRules_65 : decode cX3_byRules 65 = .ok (.getfield 236, 3) := by decide +kernel
theorem dX3_byRules_68 : decode cX3_byRules 68 = .ok (.aload_n 3, 1) := by decide +kernel
theorem dX3_byRules_69 : decode cX3_byRules 69 = .ok (.getfield 236, 3) := by decide +kernel
theorem dX3_byRules_72 : decode cX3_byRules 72 = .ok (.if_icmp .eq 15, 3) := by decide +kernel
theorem dX3_byRules_75 : decode cX3_byRules 75 = .ok (.aload 5, 2) := by decide +kernel
theorem dX3_byRules_77 : decode cX3_byRules 77 = .ok (.aload_n 1, 1) := by decide +kernel
theorem dX3_byRules_78 : decode cX3_byRules 78 = .ok (.invokevirtual 135, 3) := by decide +kernel
theorem dX3_byRules_81 : decode cX3_byRules 81 = .ok (.ifCond .eq 6, 3) := by decide +kernel
theorem dX3_byRules_84 : decode cX3_byRules 84 = .ok (.bipush (-5), 2) := by decide +kernel
theorem dX3_byRules_86 : decode cX3_byRules 86 = .ok (.ireturn, 1) := by decide +kernel
theorem dX3_byRules_87 : decode cX3_byRules 87 = .ok (.iinc 4 1, 3) := by decide +kernel
theorem dX3_byRules_90 : decode cX3_byRules 90 = .ok (.goto (-69), 3) := by decide +kernel
theorem dX3_byRules_93 : decode cX3_byRules 93 = .ok (.aload_n 3, 1) := by decide +kernel
theorem dX3_byRules_94 : decode cX3_byRules 94 = .ok (.getfield 236, 3) := by decide +kernel
theorem dX3_byRules_97 : decode cX3_byRules 97 = .ok (.ireturn, 1) := by decide +kernel
set_option maxRecDepth 20000 in
theorem ggX3_leaderFor_X1_fits : GoodIn wsX3_leaderFor wsX1_fits := goodIn_r _ [7, 8, 9, 10, 11, 12, 13, 14, 15, 16, 17, 30, 31, 32, 33, 34, 35, 36, 37, 38, 39, 40, 41, 42, 43, 44, 45, 46, 47] (by decide +kernel) (by decide +kernel)
set_option maxRecDepth 20000 in
theorem gX3_leaderFor_X1_fits : GoodIn wsX3_leaderFor (wsV RX3 135 RX1 yX1_fits wsX1_fits) := goodIn_app (goodIn_of _ (by decide +kernel)) ggX3_leaderFor_X1_fits
theorem dX3_leaderFor_0 : decode cX3_leaderFor 0 = .ok (.iconst (-1), 1) := by decide +kernel
theorem dX3_leaderFor_1 : decode cX3_leaderFor 1 = .ok (.istore_n 3, 1) := by decide +kernel
theorem dX3_leaderFor_2 : decode cX3_leaderFor 2 = .ok (.bipush 10, 2) := by decide +kernel
theorem dX3_leaderFor_4 : decode cX3_leaderFor 4 = .ok (.istore 4, 2) := by decide +kernel
theorem dX3_leaderFor_6 : decode cX3_leaderFor 6 = .ok (.iconst 0, 1) := by decide +kernel
theorem dX3_leaderFor_7 : decode cX3_leaderFor 7 = .ok (.istore 5, 2) := by decide +kernel
theorem dX3_leaderFor_9 : decode cX3_leaderFor 9 = .ok (.iload 5, 2) := by decide +kernel
theorem dX3_leaderFor_11 : decode cX3_leaderFor 11 = .ok (.aload_n 0, 1) := by decide +kernel
theorem dX3_leaderFor_12 : decode cX3_leaderFor 12 = .ok (.getfield 44, 3) := by decide +kernel
theorem dX3_leaderFor_15 : decode cX3_leaderFor 15 = .ok (.arraylength, 1) := by decide +kernel
theorem dX3_leaderFor_16 : decode cX3_leaderFor 16 = .ok (.if_icmp .ge 58, 3) := by decide +kernel
theorem dX3_leaderFor_19 : decode cX3_leaderFor 19 = .ok (.aload_n 0, 1) := by decide +kernel
theorem dX3_leaderFor_20 : decode cX3_leaderFor 20 = .ok (.getfield 44, 3) := by decide +kernel
theorem dX3_leaderFor_23 : decode cX3_leaderFor 23 = .ok (.iload 5, 2) := by decide +kernel
theorem dX3_leaderFor_25 : decode cX3_leaderFor 25 = .ok (.aaload, 1) := by decide +kernel
theorem dX3_leaderFor_26 : decode cX3_leaderFor 26 = .ok (.astore 6, 2) := by decide +kernel
theorem dX3_leaderFor_28 : decode cX3_leaderFor 28 = .ok (.iload 5, 2) := by decide +kernel
theorem dX3_leaderFor_30 : decode cX3_leaderFor 30 = .ok (.iload_n 2, 1) := by decide +kernel
theorem dX3_leaderFor_31 : decode cX3_leaderFor 31 = .ok (.if_icmp .eq 37, 3) := by decide +kernel
theorem dX3_leaderFor_34 : decode cX3_leaderFor 34 = .ok (.aload 6, 2) := by decide +kernel
theorem dX3_leaderFor_36 : decode cX3_leaderFor 36 = .ok (.ifnull 32, 3) := by decide +kernel
theorem dX3_leaderFor_39 : decode cX3_leaderFor 39 = .ok (.aload 6, 2) := by decide +kernel
theorem dX3_leaderFor_41 : decode cX3_leaderFor 41 = .ok (.getfield 233, 3) := by decide +kernel
theorem dX3_leaderFor_44 : decode cX3_leaderFor 44 = .ok (.iload 4, 2) := by decide +kernel
theorem dX3_leaderFor_46 : decode cX3_leaderFor 46 = .ok (.if_icmp .ge 22, 3) := by decide +kernel
theorem dX3_leaderFor_49 : decode cX3_leaderFor 49 = .ok (.aload 6, 2) := by decide +kernel
theorem dX3_leaderFor_51 : decode cX3_leaderFor 51 = .ok (.aload_n 1, 1) := by decide +kernel
theorem dX3_leaderFor_52 : decode cX3_leaderFor 52 = .ok (.invokevirtual 135, 3) := by decide +kernel
theorem dX3_leaderFor_55 : decode cX3_leaderFor 55 = .ok (.ifCond .eq 13, 3) := by decide +kernel
theorem dX3_leaderFor_58 : decode cX3_leaderFor 58 = .ok (.iload 5, 2) := by decide +kernel
theorem dX3_leaderFor_60 : decode cX3_leaderFor 60 = .ok (.istore_n 3, 1) := by decide +kernel
theorem dX3_leaderFor_61 : decode cX3_leaderFor 61 = .ok (.aload 6, 2) := by decide +kernel
theorem dX3_leaderFor_63 : decode cX3_leaderFor 63 = .ok (.getfield 233, 3) := by decide +kernel
theorem dX3_leaderFor_66 : decode cX3_leaderFor 66 = .ok (.istore 4, 2) := by decide +kernel
theorem dX3_leaderFor_68 : decode cX3_leaderFor 68 = .ok (.iinc 5 1, 3) := by decide +kernel
theorem dX3_leaderFor_71 : decode cX3_leaderFor 71 = .ok (.goto (-62), 3) := by decide +kernel
theorem dX3_leaderFor_74 : decode cX3_leaderFor 74 = .ok (.iload_n 3, 1) := by decide +kernel
theorem dX3_leaderFor_75 : decode cX3_leaderFor 75 = .ok (.ireturn, 1) := by decide +kernel
set_option maxRecDepth 20000 in
theorem ggX3_doQuarrel_X3_ruleAt : GoodIn wsX3_doQuarrel wsX3_ruleAt := goodIn_r _ [5, 6, 18, 19, 20, 21, 22, 23, 24, 25, 26, 27, 28, 29] (by decide +kernel) (by decide +kernel)
set_option maxRecDepth 20000 in
theorem gX3_doQuarrel_X3_ruleAt : GoodIn wsX3_doQuarrel (wsV RX3 123 RX3 yX3_ruleAt wsX3_ruleAt) := goodIn_app (goodIn_of _ (by decide +kernel)) ggX3_doQuarrel_X3_ruleAt
set_option maxRecDepth 20000 in
theorem ggX3_doQuarrel_X1_quarrelsWith : GoodIn wsX3_doQuarrel wsX1_quarrelsWith := goodIn_r _ [11, 12, 13, 14, 15, 16, 17, 30, 31, 32, 33, 34, 35] (by decide +kernel) (by decide +kernel)
set_option maxRecDepth 20000 in
theorem gX3_doQuarrel_X1_quarrelsWith : GoodIn wsX3_doQuarrel (wsV RX3 237 RX1 yX1_quarrelsWith wsX1_quarrelsWith) := goodIn_app (goodIn_of _ (by decide +kernel)) ggX3_doQuarrel_X1_quarrelsWith
theorem dX3_doQuarrel_0 : decode cX3_doQuarrel 0 = .ok (.aload_n 0, 1) := by decide +kernel
theorem dX3_doQuarrel_1 : decode cX3_doQuarrel 1 = .ok (.iload_n 1, 1) := by decide +kernel
theorem dX3_doQuarrel_2 : decode cX3_doQuarrel 2 = .ok (.invokevirtual 123, 3) := by decide +kernel
theorem dX3_doQuarrel_5 : decode cX3_doQuarrel 5 = .ok (.astore_n 3, 1) := by decide +kernel
theorem dX3_doQuarrel_6 : decode cX3_doQuarrel 6 = .ok (.aload_n 0, 1) := by decide +kernel
theorem dX3_doQuarrel_7 : decode cX3_doQuarrel 7 = .ok (.iload_n 2, 1) := by decide +kernel
theorem dX3_doQuarrel_8 : decode cX3_doQuarrel 8 = .ok (.invokevirtual 123, 3) := by decide +kernel
theorem dX3_doQuarrel_11 : decode cX3_doQuarrel 11 = .ok (.astore 4, 2) := by decide +kernel
theorem dX3_doQuarrel_13 : decode cX3_doQuarrel 13 = .ok (.aload_n 3, 1) := by decide +kernel
theorem dX3_doQuarrel_14 : decode cX3_doQuarrel 14 = .ok (.ifnull 21, 3) := by decide +kernel
theorem dX3_doQuarrel_17 : decode cX3_doQuarrel 17 = .ok (.aload 4, 2) := by decide +kernel
theorem dX3_doQuarrel_19 : decode cX3_doQuarrel 19 = .ok (.ifnull 16, 3) := by decide +kernel
theorem dX3_doQuarrel_22 : decode cX3_doQuarrel 22 = .ok (.aload_n 3, 1) := by decide +kernel
theorem dX3_doQuarrel_23 : decode cX3_doQuarrel 23 = .ok (.aload 4, 2) := by decide +kernel
theorem dX3_doQuarrel_25 : decode cX3_doQuarrel 25 = .ok (.invokevirtual 237, 3) := by decide +kernel
theorem dX3_doQuarrel_28 : decode cX3_doQuarrel 28 = .ok (.ifCond .eq 7, 3) := by decide +kernel
theorem dX3_doQuarrel_31 : decode cX3_doQuarrel 31 = .ok (.iconst 1, 1) := by decide +kernel
theorem dX3_doQuarrel_32 : decode cX3_doQuarrel 32 = .ok (.goto 4, 3) := by decide +kernel
theorem dX3_doQuarrel_35 : decode cX3_doQuarrel 35 = .ok (.iconst 0, 1) := by decide +kernel
theorem dX3_doQuarrel_36 : decode cX3_doQuarrel 36 = .ok (.ireturn, 1) := by decide +kernel
set_option maxRecDepth 20000 in
theorem ggX3_countQuarrels_X3_doQuarrel : GoodIn wsX3_countQuarrels wsX3_doQuarrel := goodIn_r _ [6, 7, 8, 9, 5, 10, 1, 11, 12, 13, 14, 15, 16, 17, 18, 19, 20, 21, 22, 23, 24, 25, 26, 27, 28, 29, 30, 31, 32, 33, 34, 35, 36, 37, 38, 39] (by decide +kernel) (by decide +kernel)
set_option maxRecDepth 20000 in
theorem gX3_countQuarrels_X3_doQuarrel : GoodIn wsX3_countQuarrels (wsV RX3 143 RX3 yX3_doQuarrel wsX3_doQuarrel) := goodIn_app (goodIn_of _ (by decide +kernel)) ggX3_countQuarrels_X3_doQuarrel
theorem dX3_countQuarrels_0 : decode cX3_countQuarrels 0 = .ok (.iconst 0, 1) := by decide +kernel
theorem dX3_countQuarrels_1 : decode cX3_countQuarrels 1 = .ok (.istore_n 1, 1) := by decide +kernel
theorem dX3_countQuarrels_2 : decode cX3_countQuarrels 2 = .ok (.iconst 0, 1) := by decide +kernel
theorem dX3_countQuarrels_3 : decode cX3_countQuarrels 3 = .ok (.istore_n 2, 1) := by decide +kernel
theorem dX3_countQuarrels_4 : decode cX3_countQuarrels 4 = .ok (.iload_n 2, 1) := by decide +kernel
theorem dX3_countQuarrels_5 : decode cX3_countQuarrels 5 = .ok (.aload_n 0, 1) := by decide +kernel
theorem dX3_countQuarrels_6 : decode cX3_countQuarrels 6 = .ok (.getfield 44, 3) := by decide +kernel
theorem dX3_countQuarrels_9 : decode cX3_countQuarrels 9 = .ok (.arraylength, 1) := by decide +kernel
theorem dX3_countQuarrels_10 : decode cX3_countQuarrels 10 = .ok (.if_icmp .ge 40, 3) := by decide +kernel
theorem dX3_countQuarrels_13 : decode cX3_countQuarrels 13 = .ok (.iload_n 2, 1) := by decide +kernel
theorem dX3_countQuarrels_14 : decode cX3_countQuarrels 14 = .ok (.iconst 1, 1) := by decide +kernel
theorem dX3_countQuarrels_15 : decode cX3_countQuarrels 15 = .ok (.iadd, 1) := by decide +kernel
theorem dX3_countQuarrels_16 : decode cX3_countQuarrels 16 = .ok (.istore_n 3, 1) := by decide +kernel
theorem dX3_countQuarrels_17 : decode cX3_countQuarrels 17 = .ok (.iload_n 3, 1) := by decide +kernel
theorem dX3_countQuarrels_18 : decode cX3_countQuarrels 18 = .ok (.aload_n 0, 1) := by decide +kernel
theorem dX3_countQuarrels_19 : decode cX3_countQuarrels 19 = .ok (.getfield 44, 3) := by decide +kernel
theorem dX3_countQuarrels_22 : decode cX3_countQuarrels 22 = .ok (.arraylength, 1) := by decide +kernel
theorem dX3_countQuarrels_23 : decode cX3_countQuarrels 23 = .ok (.if_icmp .ge 21, 3) := by decide +kernel
theorem dX3_countQuarrels_26 : decode cX3_countQuarrels 26 = .ok (.aload_n 0, 1) := by decide +kernel
theorem dX3_countQuarrels_27 : decode cX3_countQuarrels 27 = .ok (.iload_n 2, 1) := by decide +kernel
theorem dX3_countQuarrels_28 : decode cX3_countQuarrels 28 = .ok (.iload_n 3, 1) := by decide +kernel
theorem dX3_countQuarrels_29 : decode cX3_countQuarrels 29 = .ok (.invokevirtual 143, 3) := by decide +kernel
theorem dX3_countQuarrels_32 : decode cX3_countQuarrels 32 = .ok (.ifCond .eq 6, 3) := by decide +kernel
theorem dX3_countQuarrels_35 : decode cX3_countQuarrels 35 = .ok (.iinc 1 1, 3) := by decide +kernel
theorem dX3_countQuarrels_38 : decode cX3_countQuarrels 38 = .ok (.iinc 3 1, 3) := by decide +kernel
theorem dX3_countQuarrels_41 : decode cX3_countQuarrels 41 = .ok (.goto (-24), 3) := by decide +kernel
theorem dX3_countQuarrels_44 : decode cX3_countQuarrels 44 = .ok (.iinc 2 1, 3) := by decide +kernel
theorem dX3_countQuarrels_47 : decode cX3_countQuarrels 47 = .ok (.goto (-43), 3) := by decide +kernel
theorem dX3_countQuarrels_50 : decode cX3_countQuarrels 50 = .ok (.iload_n 1, 1) := by decide +kernel
theorem dX3_countQuarrels_51 : decode cX3_countQuarrels 51 = .ok (.ireturn, 1) := by decide +kernel
set_option maxRecDepth 20000 in
theorem ggX3_isStale_X3_byRules : GoodIn wsX3_isStale wsX3_byRules := goodIn_r _ [7, 8, 9, 10, 11, 12, 13, 6, 14, 15, 16, 17, 18, 19, 20, 21, 22, 23, 24, 25, 26, 27, 28, 29, 30, 31, 32, 45, 46, 47, 48, 49, 50, 51, 52, 53, 54, 55, 56, 57, 58, 59, 60, 61, 62, 33, 34, 35, 36, 37, 38, 39, 40, 41, 42, 43, 44] (by decide +kernel) (by decide +kernel)
set_option maxRecDepth 20000 in
theorem gX3_isStale_X3_byRules : GoodIn wsX3_isStale (wsV RX3 139 RX3 yX3_byRules wsX3_byRules) := goodIn_app (goodIn_of _ (by decide +kernel)) ggX3_isStale_X3_byRules
theorem dX3_isStale_0 : decode cX3_isStale 0 = .ok (.aload_n 1, 1) := by decide +kernel
theorem dX3_isStale_1 : decode cX3_isStale 1 = .ok (.ifnull 27, 3) := by decide +kernel
theorem dX3_isStale_4 : decode cX3_isStale 4 = .ok (.aload_n 1, 1) := by decide +kernel
theorem dX3_isStale_5 : decode cX3_isStale 5 = .ok (.getfield 185, 3) := by decide +kernel
theorem dX3_isStale_8 : decode cX3_isStale 8 = .ok (.ifCond .ne 20, 3) := by decide +kernel
theorem dX3_isStale_11 : decode cX3_isStale 11 = .ok (.aload_n 0, 1) := by decide +kernel
theorem dX3_isStale_12 : decode cX3_isStale 12 = .ok (.aload_n 1, 1) := by decide +kernel
theorem dX3_isStale_13 : decode cX3_isStale 13 = .ok (.iconst (-1), 1) := by decide +kernel
theorem dX3_isStale_14 : decode cX3_isStale 14 = .ok (.invokevirtual 139, 3) := by decide +kernel
theorem dX3_isStale_17 : decode cX3_isStale 17 = .ok (.aload_n 1, 1) := by decide +kernel
theorem dX3_isStale_18 : decode cX3_isStale 18 = .ok (.getfield 194, 3) := by decide +kernel
theorem dX3_isStale_21 : decode cX3_isStale 21 = .ok (.if_icmp .eq 7, 3) := by decide +kernel
theorem dX3_isStale_24 : decode cX3_isStale 24 = .ok (.iconst 1, 1) := by decide +kernel
theorem dX3_isStale_25 : decode cX3_isStale 25 = .ok (.goto 4, 3) := by decide +kernel
theorem dX3_isStale_28 : decode cX3_isStale 28 = .ok (.iconst 0, 1) := by decide +kernel
theorem dX3_isStale_29 : decode cX3_isStale 29 = .ok (.ireturn, 1) := by decide +kernel
set_option maxRecDepth 20000 in
theorem ggX3_countStale_X3_isStale : GoodIn wsX3_countStale wsX3_isStale := goodIn_r _ [6, 7, 8, 9, 10, 11, 5, 12, 13, 14, 15, 16, 17, 18, 19, 20, 21, 22, 23, 24, 25, 26, 27, 28, 29, 30, 31, 32, 33, 34, 35, 36, 37, 50, 51, 52, 53, 54, 55, 56, 57, 58, 59, 60, 61, 38, 39, 40, 41, 42, 43, 44, 45, 46, 47, 48, 49, 62, 63, 64, 65, 66, 67] (by decide +kernel) (by decide +kernel)
set_option maxRecDepth 20000 in
theorem gX3_countStale_X3_isStale : GoodIn wsX3_countStale (wsV RX3 179 RX3 yX3_isStale wsX3_isStale) := goodIn_app (goodIn_of _ (by decide +kernel)) ggX3_countStale_X3_isStale
theorem dX3_countStale_0 : decode cX3_countStale 0 = .ok (.iconst 0, 1) := by decide +kernel
theorem dX3_countStale_1 : decode cX3_countStale 1 = .ok (.istore_n 1, 1) := by decide +kernel
theorem dX3_countStale_2 : decode cX3_countStale 2 = .ok (.iconst 0, 1) := by decide +kernel
theorem dX3_countStale_3 : decode cX3_countStale 3 = .ok (.istore_n 2, 1) := by decide +kernel
theorem dX3_countStale_4 : decode cX3_countStale 4 = .ok (.iload_n 2, 1) := by decide +kernel
theorem dX3_countStale_5 : decode cX3_countStale 5 = .ok (.aload_n 0, 1) := by decide +kernel
theorem dX3_countStale_6 : decode cX3_countStale 6 = .ok (.getfield 34, 3) := by decide +kernel
theorem dX3_countStale_9 : decode cX3_countStale 9 = .ok (.arraylength, 1) := by decide +kernel
theorem dX3_countStale_10 : decode cX3_countStale 10 = .ok (.if_icmp .ge 25, 3) := by decide +kernel
theorem dX3_countStale_13 : decode cX3_countStale 13 = .ok (.aload_n 0, 1) := by decide +kernel
theorem dX3_countStale_14 : decode cX3_countStale 14 = .ok (.aload_n 0, 1) := by decide +kernel
theorem dX3_countStale_15 : decode cX3_countStale 15 = .ok (.getfield 34, 3) := by decide +kernel
theorem dX3_countStale_18 : decode cX3_countStale 18 = .ok (.iload_n 2, 1) := by decide +kernel
theorem dX3_countStale_19 : decode cX3_countStale 19 = .ok (.aaload, 1) := by decide +kernel
theorem dX3_countStale_20 : decode cX3_countStale 20 = .ok (.invokevirtual 179, 3) := by decide +kernel
theorem dX3_countStale_23 : decode cX3_countStale 23 = .ok (.ifCond .eq 6, 3) := by decide +kernel
theorem dX3_countStale_26 : decode cX3_countStale 26 = .ok (.iinc 1 1, 3) := by decide +kernel
theorem dX3_countStale_29 : decode cX3_countStale 29 = .ok (.iinc 2 1, 3) := by decide +kernel
theorem dX3_countStale_32 : decode cX3_countStale 32 = .ok (.goto (-28), 3) := by decide +kernel
theorem dX3_countStale_35 : decode cX3_countStale 35 = .ok (.iload_n 1, 1) := by decide +kernel
theorem dX3_countStale_36 : decode cX3_countStale 36 = .ok (.ireturn, 1) := by decide +kernel
set_option maxRecDepth 20000 in
theorem ggX3_fillNears_X3_codesExcluding : GoodIn wsX3_fillNears wsX3_codesExcluding := goodIn_r _ [14, 15, 47, 48, 49, 50, 51, 52, 53, 54, 55, 56, 57, 58] (by decide +kernel) (by decide +kernel)
set_option maxRecDepth 20000 in
theorem gX3_fillNears_X3_codesExcluding : GoodIn wsX3_fillNears (wsV RX3 241 RX3 yX3_codesExcluding wsX3_codesExcluding) := goodIn_app (goodIn_of _ (by decide +kernel)) ggX3_fillNears_X3_codesExcluding
set_option maxRecDepth 20000 in
theorem ggX3_fillNears_X2_below : GoodIn wsX3_fillNears wsX2_below := goodIn_r _ [20, 21, 22, 23, 13, 24, 71, 72, 73] (by decide +kernel) (by decide +kernel)
set_option maxRecDepth 20000 in
theorem gX3_fillNears_X2_below : GoodIn wsX3_fillNears (wsV RX3 197 RX2 yX2_below wsX2_below) := goodIn_app (goodIn_of _ (by decide +kernel)) ggX3_fillNears_X2_below
set_option maxRecDepth 20000 in
theorem ggX3_fillNears_X3_isCode : GoodIn wsX3_fillNears wsX3_isCode := goodIn_r _ [28, 2, 29, 30, 31, 19, 32, 21, 22, 47, 48, 49, 50, 51, 52, 53, 54, 55, 56, 57, 58, 71, 72, 73] (by decide +kernel) (by decide +kernel)
set_option maxRecDepth 20000 in
theorem gX3_fillNears_X3_isCode : GoodIn wsX3_fillNears (wsV RX3 64 RX3 yX3_isCode wsX3_isCode) := goodIn_app (goodIn_of _ (by decide +kernel)) ggX3_fillNears_X3_isCode
set_option maxRecDepth 20000 in
theorem ggX3_fillNears_X3_bit : GoodIn wsX3_fillNears wsX3_bit := goodIn_r _ [24] (by decide +kernel) (by decide +kernel)
set_option maxRecDepth 20000 in
theorem gX3_fillNears_X3_bit : GoodIn wsX3_fillNears (va_wsS RX3 75 yX3_bit wsX3_bit) := goodIn_app (goodIn_of _ (by decide +kernel)) ggX3_fillNears_X3_bit
set_option maxRecDepth 20000 in
theorem ggX3_fillNears_X0_likenessTo : GoodIn wsX3_fillNears wsX0_likenessTo := goodIn_r _ [38, 39, 40, 41, 42, 43, 44, 45, 46, 59, 60, 61, 62, 63, 64, 65, 66, 67, 68, 69, 70] (by decide +kernel) (by decide +kernel)
set_option maxRecDepth 20000 in
theorem gX3_fillNears_X0_likenessTo : GoodIn wsX3_fillNears (wsV RX3 147 RX0 yX0_likenessTo wsX0_likenessTo) := goodIn_app (goodIn_of _ (by decide +kernel)) ggX3_fillNears_X0_likenessTo
theorem dX3_fillNears_0 : decode cX3_fillNears 0 = .ok (.iconst 0, 1) := by decide +kernel
theorem dX3_fillNears_1 : decode cX3_fillNears 1 = .ok (.istore_n 2, 1) := by decide +kernel
theorem dX3_fillNears_2 : decode cX3_fillNears 2 = .ok (.iload_n 2, 1) := by decide +kernel
theorem dX3_fillNears_3 : decode cX3_fillNears 3 = .ok (.aload_n 0, 1) := by decide +kernel
theorem dX3_fillNears_4 : decode cX3_fillNears 4 = .ok (.getfield 57, 3) := by decide +kernel
theorem dX3_fillNears_7 : decode cX3_fillNears 7 = .ok (.arraylength, 1) := by decide +kernel
theorem dX3_fillNears_8 : decode cX3_fillNears 8 = .ok (.if_icmp .ge 16, 3) := by decide +kernel
theorem dX3_fillNears_11 : decode cX3_fillNears 11 = .ok (.aload_n 0, 1) := by decide +kernel
theorem dX3_fillNears_12 : decode cX3_fillNears 12 = .ok (.getfield 57, 3) := by decide +kernel
theorem dX3_fillNears_15 : decode cX3_fillNears 15 = .ok (.iload_n 2, 1) := by decide +kernel
theorem dX3_fillNears_16 : decode cX3_fillNears 16 = .ok (.iconst 0, 1) := by decide +kernel
theorem dX3_fillNears_17 : decode cX3_fillNears 17 = .ok (.iastore, 1) := by decide +kernel
theorem dX3_fillNears_18 : decode cX3_fillNears 18 = .ok (.iinc 2 1, 3) := by decide +kernel
theorem dX3_fillNears_21 : decode cX3_fillNears 21 = .ok (.goto (-19), 3) := by decide +kernel
theorem dX3_fillNears_24 : decode cX3_fillNears 24 = .ok (.aload_n 0, 1) := by decide +kernel
theorem dX3_fillNears_25 : decode cX3_fillNears 25 = .ok (.getfield 14, 3) := by decide +kernel
theorem dX3_fillNears_28 : decode cX3_fillNears 28 = .ok (.aload_n 0, 1) := by decide +kernel
theorem dX3_fillNears_29 : decode cX3_fillNears 29 = .ok (.aload_n 1, 1) := by decide +kernel
theorem dX3_fillNears_30 : decode cX3_fillNears 30 = .ok (.getfield 91, 3) := by decide +kernel
theorem dX3_fillNears_33 : decode cX3_fillNears 33 = .ok (.invokevirtual 241, 3) := by decide +kernel
theorem dX3_fillNears_36 : decode cX3_fillNears 36 = .ok (.invokevirtual 197, 3) := by decide +kernel
theorem dX3_fillNears_39 : decode cX3_fillNears 39 = .ok (.lstore_n 2, 1) := by decide +kernel
theorem dX3_fillNears_40 : decode cX3_fillNears 40 = .ok (.iconst 0, 1) := by decide +kernel
theorem dX3_fillNears_41 : decode cX3_fillNears 41 = .ok (.istore 4, 2) := by decide +kernel
theorem dX3_fillNears_43 : decode cX3_fillNears 43 = .ok (.iload 4, 2) := by decide +kernel
theorem dX3_fillNears_45 : decode cX3_fillNears 45 = .ok (.aload_n 0, 1) := by decide +kernel
theorem dX3_fillNears_46 : decode cX3_fillNears 46 = .ok (.getfield 34, 3) := by decide +kernel
theorem dX3_fillNears_49 : decode cX3_fillNears 49 = .ok (.arraylength, 1) := by decide +kernel
theorem dX3_fillNears_50 : decode cX3_fillNears 50 = .ok (.if_icmp .ge 82, 3) := by decide +kernel
theorem dX3_fillNears_53 : decode cX3_fillNears 53 = .ok (.aload_n 0, 1) := by decide +kernel
theorem dX3_fillNears_54 : decode cX3_fillNears 54 = .ok (.getfield 34, 3) := by decide +kernel
theorem dX3_fillNears_57 : decode cX3_fillNears 57 = .ok (.iload 4, 2) := by decide +kernel
theorem dX3_fillNears_59 : decode cX3_fillNears 59 = .ok (.aaload, 1) := by decide +kernel
theorem dX3_fillNears_60 : decode cX3_fillNears 60 = .ok (.astore 5, 2) := by decide +kernel
theorem dX3_fillNears_62 : decode cX3_fillNears 62 = .ok (.aload 5, 2) := by decide +kernel
theorem dX3_fillNears_64 : decode cX3_fillNears 64 = .ok (.ifnull 62, 3) := by decide +kernel
theorem dX3_fillNears_67 : decode cX3_fillNears 67 = .ok (.aload 5, 2) := by decide +kernel
theorem dX3_fillNears_69 : decode cX3_fillNears 69 = .ok (.aload_n 1, 1) := by decide +kernel
theorem dX3_fillNears_70 : decode cX3_fillNears 70 = .ok (.if_acmp .eq 56, 3) := by decide +kernel
theorem dX3_fillNears_73 : decode cX3_fillNears 73 = .ok (.aload_n 0, 1) := by decide +kernel
theorem dX3_fillNears_74 : decode cX3_fillNears 74 = .ok (.aload 5, 2) := by decide +kernel
theorem dX3_fillNears_76 : decode cX3_fillNears 76 = .ok (.getfield 194, 3) := by decide +kernel
theorem dX3_fillNears_79 : decode cX3_fillNears 79 = .ok (.invokevirtual 64, 3) := by decide +kernel
theorem dX3_fillNears_82 : decode cX3_fillNears 82 = .ok (.ifCond .eq 44, 3) := by decide +kernel
theorem dX3_fillNears_85 : decode cX3_fillNears 85 = .ok (.lload_n 2, 1) := by decide +kernel
theorem dX3_fillNears_86 : decode cX3_fillNears 86 = .ok (.aload 5, 2) := by decide +kernel
theorem dX3_fillNears_88 : decode cX3_fillNears 88 = .ok (.getfield 194, 3) := by decide +kernel
theorem dX3_fillNears_91 : decode cX3_fillNears 91 = .ok (.invokestatic 75, 3) := by decide +kernel
theorem dX3_fillNears_94 : decode cX3_fillNears 94 = .ok (.ifCond .ne 32, 3) := by decide +kernel
theorem dX3_fillNears_97 : decode cX3_fillNears 97 = .ok (.aload_n 0, 1) := by decide +kernel
theorem dX3_fillNears_98 : decode cX3_fillNears 98 = .ok (.getfield 57, 3) := by decide +kernel
theorem dX3_fillNears_101 : decode cX3_fillNears 101 = .ok (.aload 5, 2) := by decide +kernel
theorem dX3_fillNears_103 : decode cX3_fillNears 103 = .ok (.getfield 194, 3) := by decide +kernel
theorem dX3_fillNears_106 : decode cX3_fillNears 106 = .ok (.aload_n 0, 1) := by decide +kernel
theorem dX3_fillNears_107 : decode cX3_fillNears 107 = .ok (.getfield 57, 3) := by decide +kernel
theorem dX3_fillNears_110 : decode cX3_fillNears 110 = .ok (.aload 5, 2) := by decide +kernel
theorem dX3_fillNears_112 : decode cX3_fillNears 112 = .ok (.getfield 194, 3) := by decide +kernel
theorem dX3_fillNears_115 : decode cX3_fillNears 115 = .ok (.iaload, 1) := by decide +kernel
theorem dX3_fillNears_116 : decode cX3_fillNears 116 = .ok (.aload_n 1, 1) := by decide +kernel
theorem dX3_fillNears_117 : decode cX3_fillNears 117 = .ok (.aload 5, 2) := by decide +kernel
theorem dX3_fillNears_119 : decode cX3_fillNears 119 = .ok (.invokevirtual 147, 3) := by decide +kernel
theorem dX3_fillNears_122 : decode cX3_fillNears 122 = .ok (.invokestatic 244, 3) := by decide +kernel
theorem dX3_fillNears_125 : decode cX3_fillNears 125 = .ok (.iastore, 1) := by decide +kernel
theorem dX3_fillNears_126 : decode cX3_fillNears 126 = .ok (.iinc 4 1, 3) := by decide +kernel
theorem dX3_fillNears_129 : decode cX3_fillNears 129 = .ok (.goto (-86), 3) := by decide +kernel
theorem dX3_fillNears_132 : decode cX3_fillNears 132 = .ok (.return_, 1) := by decide +kernel
theorem dX3_codesExcluding_0 : decode cX3_codesExcluding 0 = .ok (.lconst 0, 1) := by decide +kernel
theorem dX3_codesExcluding_1 : decode cX3_codesExcluding 1 = .ok (.lstore_n 3, 1) := by decide +kernel
theorem dX3_codesExcluding_2 : decode cX3_codesExcluding 2 = .ok (.iconst 0, 1) := by decide +kernel
theorem dX3_codesExcluding_3 : decode cX3_codesExcluding 3 = .ok (.istore 5, 2) := by decide +kernel
theorem dX3_codesExcluding_5 : decode cX3_codesExcluding 5 = .ok (.iload 5, 2) := by decide +kernel
theorem dX3_codesExcluding_7 : decode cX3_codesExcluding 7 = .ok (.aload_n 0, 1) := by decide +kernel
theorem dX3_codesExcluding_8 : decode cX3_codesExcluding 8 = .ok (.getfield 21, 3) := by decide +kernel
theorem dX3_codesExcluding_11 : decode cX3_codesExcluding 11 = .ok (.arraylength, 1) := by decide +kernel
theorem dX3_codesExcluding_12 : decode cX3_codesExcluding 12 = .ok (.if_icmp .ge 30, 3) := by decide +kernel
theorem dX3_codesExcluding_15 : decode cX3_codesExcluding 15 = .ok (.aload_n 0, 1) := by decide +kernel
theorem dX3_codesExcluding_16 : decode cX3_codesExcluding 16 = .ok (.getfield 21, 3) := by decide +kernel
theorem dX3_codesExcluding_19 : decode cX3_codesExcluding 19 = .ok (.iload 5, 2) := by decide +kernel
theorem dX3_codesExcluding_21 : decode cX3_codesExcluding 21 = .ok (.laload, 1) := by decide +kernel
theorem dX3_codesExcluding_22 : decode cX3_codesExcluding 22 = .ok (.lload_n 1, 1) := by decide +kernel
theorem dX3_codesExcluding_23 : decode cX3_codesExcluding 23 = .ok (.land, 1) := by decide +kernel
theorem dX3_codesExcluding_24 : decode cX3_codesExcluding 24 = .ok (.lconst 0, 1) := by decide +kernel
theorem dX3_codesExcluding_25 : decode cX3_codesExcluding 25 = .ok (.lcmp, 1) := by decide +kernel
theorem dX3_codesExcluding_26 : decode cX3_codesExcluding 26 = .ok (.ifCond .eq 10, 3) := by decide +kernel
theorem dX3_codesExcluding_29 : decode cX3_codesExcluding 29 = .ok (.lload_n 3, 1) := by decide +kernel
theorem dX3_codesExcluding_30 : decode cX3_codesExcluding 30 = .ok (.lconst 1, 1) := by decide +kernel
theorem dX3_codesExcluding_31 : decode cX3_codesExcluding 31 = .ok (.iload 5, 2) := by decide +kernel
theorem dX3_codesExcluding_33 : decode cX3_codesExcluding 33 = .ok (.lshl, 1) := by decide +kernel
theorem dX3_codesExcluding_34 : decode cX3_codesExcluding 34 = .ok (.lor, 1) := by decide +kernel
theorem dX3_codesExcluding_35 : decode cX3_codesExcluding 35 = .ok (.lstore_n 3, 1) := by decide +kernel
theorem dX3_codesExcluding_36 : decode cX3_codesExcluding 36 = .ok (.iinc 5 1, 3) := by decide +kernel
theorem dX3_codesExcluding_39 : decode cX3_codesExcluding 39 = .ok (.goto (-34), 3) := by decide +kernel
theorem dX3_codesExcluding_42 : decode cX3_codesExcluding 42 = .ok (.lload_n 3, 1) := by decide +kernel
theorem dX3_codesExcluding_43 : decode cX3_codesExcluding 43 = .ok (.lreturn, 1) := by decide +kernel
set_option maxRecDepth 20000 in
theorem ggX3_byLikeness_X3_fillNears : GoodIn wsX3_byLikeness wsX3_fillNears := goodIn_r _ [8, 1, 9, 10, 11, 12, 13, 14, 15, 16, 17, 18, 19, 7, 20, 21, 22, 23, 24, 25, 26, 27, 28, 29, 30, 31, 32, 33, 34, 35, 36, 37, 38, 39, 40, 41, 42, 43, 44, 45, 46, 47, 48, 49, 50, 51, 52, 53, 54, 55, 56, 57, 58, 59, 60, 61, 62, 63, 64, 65, 66, 67, 68, 69, 70, 71, 72, 73, 74, 75, 76, 77, 78, 79] (by decide +kernel) (by decide +kernel)
set_option maxRecDepth 20000 in
theorem gX3_byLikeness_X3_fillNears : GoodIn wsX3_byLikeness (wsV RX3 150 RX3 yX3_fillNears wsX3_fillNears) := goodIn_app (goodIn_of _ (by decide +kernel)) ggX3_byLikeness_X3_fillNears
theorem dX3_byLikeness_0 : decode cX3_byLikeness 0 = .ok (.aload_n 0, 1) := by decide +kernel
theorem dX3_byLikeness_1 : decode cX3_byLikeness 1 = .ok (.aload_n 1, 1) := by decide +kernel
theorem dX3_byLikeness_2 : decode cX3_byLikeness 2 = .ok (.invokevirtual 150, 3) := by decide +kernel
theorem dX3_byLikeness_5 : decode cX3_byLikeness 5 = .ok (.iconst 0, 1) := by decide +kernel
theorem dX3_byLikeness_6 : decode cX3_byLikeness 6 = .ok (.istore_n 2, 1) := by decide +kernel
theorem dX3_byLikeness_7 : decode cX3_byLikeness 7 = .ok (.iconst 0, 1) := by decide +kernel
theorem dX3_byLikeness_8 : decode cX3_byLikeness 8 = .ok (.istore_n 3, 1) := by decide +kernel
theorem dX3_byLikeness_9 : decode cX3_byLikeness 9 = .ok (.iconst 0, 1) := by decide +kernel
theorem dX3_byLikeness_10 : decode cX3_byLikeness 10 = .ok (.istore 4, 2) := by decide +kernel
theorem dX3_byLikeness_12 : decode cX3_byLikeness 12 = .ok (.iconst 0, 1) := by decide +kernel
theorem dX3_byLikeness_13 : decode cX3_byLikeness 13 = .ok (.istore 5, 2) := by decide +kernel
theorem dX3_byLikeness_15 : decode cX3_byLikeness 15 = .ok (.iload 5, 2) := by decide +kernel
theorem dX3_byLikeness_17 : decode cX3_byLikeness 17 = .ok (.aload_n 0, 1) := by decide +kernel
theorem dX3_byLikeness_18 : decode cX3_byLikeness 18 = .ok (.getfield 57, 3) := by decide +kernel
theorem dX3_byLikeness_21 : decode cX3_byLikeness 21 = .ok (.arraylength, 1) := by decide +kernel
theorem dX3_byLikeness_22 : decode cX3_byLikeness 22 = .ok (.if_icmp .ge 58, 3) := by decide +kernel
theorem dX3_byLikeness_25 : decode cX3_byLikeness 25 = .ok (.aload_n 0, 1) := by decide +kernel
theorem dX3_byLikeness_26 : decode cX3_byLikeness 26 = .ok (.getfield 57, 3) := by decide +kernel
theorem dX3_byLikeness_29 : decode cX3_byLikeness 29 = .ok (.iload 5, 2) := by decide +kernel
theorem dX3_byLikeness_31 : decode cX3_byLikeness 31 = .ok (.iaload, 1) := by decide +kernel
theorem dX3_byLikeness_32 : decode cX3_byLikeness 32 = .ok (.iload_n 3, 1) := by decide +kernel
theorem dX3_byLikeness_33 : decode cX3_byLikeness 33 = .ok (.if_icmp .le 20, 3) := by decide +kernel
theorem dX3_byLikeness_36 : decode cX3_byLikeness 36 = .ok (.iload_n 3, 1) := by decide +kernel
theorem dX3_byLikeness_37 : decode cX3_byLikeness 37 = .ok (.istore 4, 2) := by decide +kernel
theorem dX3_byLikeness_39 : decode cX3_byLikeness 39 = .ok (.aload_n 0, 1) := by decide +kernel
theorem dX3_byLikeness_40 : decode cX3_byLikeness 40 = .ok (.getfield 57, 3) := by decide +kernel
theorem dX3_byLikeness_43 : decode cX3_byLikeness 43 = .ok (.iload 5, 2) := by decide +kernel
theorem dX3_byLikeness_45 : decode cX3_byLikeness 45 = .ok (.iaload, 1) := by decide +kernel
theorem dX3_byLikeness_46 : decode cX3_byLikeness 46 = .ok (.istore_n 3, 1) := by decide +kernel
theorem dX3_byLikeness_47 : decode cX3_byLikeness 47 = .ok (.iload 5, 2) := by decide +kernel
theorem dX3_byLikeness_49 : decode cX3_byLikeness 49 = .ok (.istore_n 2, 1) := by decide +kernel
theorem dX3_byLikeness_50 : decode cX3_byLikeness 50 = .ok (.goto 24, 3) := by decide +kernel
theorem dX3_byLikeness_53 : decode cX3_byLikeness 53 = .ok (.aload_n 0, 1) := by decide +kernel
theorem dX3_byLikeness_54 : decode cX3_byLikeness 54 = .ok (.getfield 57, 3) := by decide +kernel
theorem dX3_byLikeness_57 : decode cX3_byLikeness 57 = .ok (.iload 5, 2) := by decide +kernel
theorem dX3_byLikeness_59 : decode cX3_byLikeness 59 = .ok (.iaload, 1) := by decide +kernel
theorem dX3_byLikeness_60 : decode cX3_byLikeness 60 = .ok (.iload 4, 2) := by decide +kernel
theorem dX3_byLikeness_62 : decode cX3_byLikeness 62 = .ok (.if_icmp .le 12, 3) := by decide +kernel
theorem dX3_byLikeness_65 : decode cX3_byLikeness 65 = .ok (.aload_n 0, 1) := by decide +kernel
theorem dX3_byLikeness_66 : decode cX3_byLikeness 66 = .ok (.getfield 57, 3) := by decide +kernel
theorem dX3_byLikeness_69 : decode cX3_byLikeness 69 = .ok (.iload 5, 2) := by decide +kernel
theorem dX3_byLikeness_71 : decode cX3_byLikeness 71 = .ok (.iaload, 1) := by decide +kernel
theorem dX3_byLikeness_72 : decode cX3_byLikeness 72 = .ok (.istore 4, 2) := by decide +kernel
theorem dX3_byLikeness_74 : decode cX3_byLikeness 74 = .ok (.iinc 5 1, 3) := by decide +kernel
theorem dX3_byLikeness_77 : decode cX3_byLikeness 77 = .ok (.goto (-62), 3) := by decide +kernel
theorem dX3_byLikeness_80 : decode cX3_byLikeness 80 = .ok (.iload_n 3, 1) := by decide +kernel
theorem dX3_byLikeness_81 : decode cX3_byLikeness 81 = .ok (.aload_n 0, 1) := by decide +kernel
theorem dX3_byLikeness_82 : decode cX3_byLikeness 82 = .ok (.getfield 51, 3) := by decide +kernel
theorem dX3_byLikeness_85 : decode cX3_byLikeness 85 = .ok (.if_icmp .lt 18, 3) := by decide +kernel
theorem dX3_byLikeness_88 : decode cX3_byLikeness 88 = .ok (.iload_n 3, 1) := by decide +kernel
theorem dX3_byLikeness_89 : decode cX3_byLikeness 89 = .ok (.iload 4, 2) := by decide +kernel
theorem dX3_byLikeness_91 : decode cX3_byLikeness 91 = .ok (.isub, 1) := by decide +kernel
theorem dX3_byLikeness_92 : decode cX3_byLikeness 92 = .ok (.aload_n 0, 1) := by decide +kernel
theorem dX3_byLikeness_93 : decode cX3_byLikeness 93 = .ok (.getfield 54, 3) := by decide +kernel
theorem dX3_byLikeness_96 : decode cX3_byLikeness 96 = .ok (.if_icmp .lt 7, 3) := by decide +kernel
theorem dX3_byLikeness_99 : decode cX3_byLikeness 99 = .ok (.iload_n 2, 1) := by decide +kernel
theorem dX3_byLikeness_100 : decode cX3_byLikeness 100 = .ok (.goto 5, 3) := by decide +kernel
theorem dX3_byLikeness_103 : decode cX3_byLikeness 103 = .ok (.bipush (-2), 2) := by decide +kernel
theorem dX3_byLikeness_105 : decode cX3_byLikeness 105 = .ok (.ireturn, 1) := by decide +kernel
set_option maxRecDepth 20000 in
theorem ggX3_nearestWith_X0_likenessTo : GoodIn wsX3_nearestWith wsX0_likenessTo := goodIn_r _ [7, 8, 9, 10, 11, 12, 13, 14, 15, 28, 29, 30, 31, 32, 33, 34, 35, 36, 37, 38, 39] (by decide +kernel) (by decide +kernel)
set_option maxRecDepth 20000 in
theorem gX3_nearestWith_X0_likenessTo : GoodIn wsX3_nearestWith (wsV RX3 147 RX0 yX0_likenessTo wsX0_likenessTo) := goodIn_app (goodIn_of _ (by decide +kernel)) ggX3_nearestWith_X0_likenessTo
theorem dX3_nearestWith_0 : decode cX3_nearestWith 0 = .ok (.iconst (-1), 1) := by decide +kernel
theorem dX3_nearestWith_1 : decode cX3_nearestWith 1 = .ok (.istore_n 3, 1) := by decide +kernel
theorem dX3_nearestWith_2 : decode cX3_nearestWith 2 = .ok (.iconst 0, 1) := by decide +kernel
theorem dX3_nearestWith_3 : decode cX3_nearestWith 3 = .ok (.istore 4, 2) := by decide +kernel
theorem dX3_nearestWith_5 : decode cX3_nearestWith 5 = .ok (.iconst 0, 1) := by decide +kernel
theorem dX3_nearestWith_6 : decode cX3_nearestWith 6 = .ok (.istore 5, 2) := by decide +kernel
theorem dX3_nearestWith_8 : decode cX3_nearestWith 8 = .ok (.iload 5, 2) := by decide +kernel
theorem dX3_nearestWith_10 : decode cX3_nearestWith 10 = .ok (.aload_n 0, 1) := by decide +kernel
theorem dX3_nearestWith_11 : decode cX3_nearestWith 11 = .ok (.getfield 34, 3) := by decide +kernel
theorem dX3_nearestWith_14 : decode cX3_nearestWith 14 = .ok (.arraylength, 1) := by decide +kernel
theorem dX3_nearestWith_15 : decode cX3_nearestWith 15 = .ok (.if_icmp .ge 60, 3) := by decide +kernel
theorem dX3_nearestWith_18 : decode cX3_nearestWith 18 = .ok (.aload_n 0, 1) := by decide +kernel
theorem dX3_nearestWith_19 : decode cX3_nearestWith 19 = .ok (.getfield 34, 3) := by decide +kernel
theorem dX3_nearestWith_22 : decode cX3_nearestWith 22 = .ok (.iload 5, 2) := by decide +kernel
theorem dX3_nearestWith_24 : decode cX3_nearestWith 24 = .ok (.aaload, 1) := by decide +kernel
theorem dX3_nearestWith_25 : decode cX3_nearestWith 25 = .ok (.astore 6, 2) := by decide +kernel
theorem dX3_nearestWith_27 : decode cX3_nearestWith 27 = .ok (.aload 6, 2) := by decide +kernel
theorem dX3_nearestWith_29 : decode cX3_nearestWith 29 = .ok (.ifnull 40, 3) := by decide +kernel
theorem dX3_nearestWith_32 : decode cX3_nearestWith 32 = .ok (.aload 6, 2) := by decide +kernel
theorem dX3_nearestWith_34 : decode cX3_nearestWith 34 = .ok (.aload_n 2, 1) := by decide +kernel
theorem dX3_nearestWith_35 : decode cX3_nearestWith 35 = .ok (.if_acmp .eq 34, 3) := by decide +kernel
theorem dX3_nearestWith_38 : decode cX3_nearestWith 38 = .ok (.aload 6, 2) := by decide +kernel
theorem dX3_nearestWith_40 : decode cX3_nearestWith 40 = .ok (.getfield 194, 3) := by decide +kernel
theorem dX3_nearestWith_43 : decode cX3_nearestWith 43 = .ok (.iload_n 1, 1) := by decide +kernel
theorem dX3_nearestWith_44 : decode cX3_nearestWith 44 = .ok (.if_icmp .ne 25, 3) := by decide +kernel
theorem dX3_nearestWith_47 : decode cX3_nearestWith 47 = .ok (.aload_n 2, 1) := by decide +kernel
theorem dX3_nearestWith_48 : decode cX3_nearestWith 48 = .ok (.aload 6, 2) := by decide +kernel
theorem dX3_nearestWith_50 : decode cX3_nearestWith 50 = .ok (.invokevirtual 147, 3) := by decide +kernel
theorem dX3_nearestWith_53 : decode cX3_nearestWith 53 = .ok (.istore 7, 2) := by decide +kernel
theorem dX3_nearestWith_55 : decode cX3_nearestWith 55 = .ok (.iload 7, 2) := by decide +kernel
theorem dX3_nearestWith_57 : decode cX3_nearestWith 57 = .ok (.iload 4, 2) := by decide +kernel
theorem dX3_nearestWith_59 : decode cX3_nearestWith 59 = .ok (.if_icmp .le 10, 3) := by decide +kernel
theorem dX3_nearestWith_62 : decode cX3_nearestWith 62 = .ok (.iload 7, 2) := by decide +kernel
theorem dX3_nearestWith_64 : decode cX3_nearestWith 64 = .ok (.istore 4, 2) := by decide +kernel
theorem dX3_nearestWith_66 : decode cX3_nearestWith 66 = .ok (.iload 5, 2) := by decide +kernel
theorem dX3_nearestWith_68 : decode cX3_nearestWith 68 = .ok (.istore_n 3, 1) := by decide +kernel
theorem dX3_nearestWith_69 : decode cX3_nearestWith 69 = .ok (.iinc 5 1, 3) := by decide +kernel
theorem dX3_nearestWith_72 : decode cX3_nearestWith 72 = .ok (.goto (-64), 3) := by decide +kernel
theorem dX3_nearestWith_75 : decode cX3_nearestWith 75 = .ok (.iload_n 3, 1) := by decide +kernel
theorem dX3_nearestWith_76 : decode cX3_nearestWith 76 = .ok (.ireturn, 1) := by decide +kernel
theorem dX3_isOpen_0 : decode cX3_isOpen 0 = .ok (.aload_n 0, 1) := by decide +kernel
theorem dX3_isOpen_1 : decode cX3_isOpen 1 = .ok (.ifnull 15, 3) := by decide +kernel
theorem dX3_isOpen_4 : decode cX3_isOpen 4 = .ok (.aload_n 0, 1) := by decide +kernel
theorem dX3_isOpen_5 : decode cX3_isOpen 5 = .ok (.getfield 107, 3) := by decide +kernel
theorem dX3_isOpen_8 : decode cX3_isOpen 8 = .ok (.iconst 1, 1) := by decide +kernel
theorem dX3_isOpen_9 : decode cX3_isOpen 9 = .ok (.if_icmp .eq 7, 3) := by decide +kernel
theorem dX3_isOpen_12 : decode cX3_isOpen 12 = .ok (.iconst 1, 1) := by decide +kernel
theorem dX3_isOpen_13 : decode cX3_isOpen 13 = .ok (.goto 4, 3) := by decide +kernel
theorem dX3_isOpen_16 : decode cX3_isOpen 16 = .ok (.iconst 0, 1) := by decide +kernel
theorem dX3_isOpen_17 : decode cX3_isOpen 17 = .ok (.ireturn, 1) := by decide +kernel
theorem dX3_isInDoubt_0 : decode cX3_isInDoubt 0 = .ok (.aload_n 0, 1) := by decide +kernel
theorem dX3_isInDoubt_1 : decode cX3_isInDoubt 1 = .ok (.ifnull 15, 3) := by decide +kernel
theorem dX3_isInDoubt_4 : decode cX3_isInDoubt 4 = .ok (.aload_n 0, 1) := by decide +kernel
theorem dX3_isInDoubt_5 : decode cX3_isInDoubt 5 = .ok (.getfield 107, 3) := by decide +kernel
theorem dX3_isInDoubt_8 : decode cX3_isInDoubt 8 = .ok (.iconst 2, 1) := by decide +kernel
theorem dX3_isInDoubt_9 : decode cX3_isInDoubt 9 = .ok (.if_icmp .ne 7, 3) := by decide +kernel
theorem dX3_isInDoubt_12 : decode cX3_isInDoubt 12 = .ok (.iconst 1, 1) := by decide +kernel
theorem dX3_isInDoubt_13 : decode cX3_isInDoubt 13 = .ok (.goto 4, 3) := by decide +kernel
theorem dX3_isInDoubt_16 : decode cX3_isInDoubt 16 = .ok (.iconst 0, 1) := by decide +kernel
theorem dX3_isInDoubt_17 : decode cX3_isInDoubt 17 = .ok (.ireturn, 1) := by decide +kernel
set_option maxRecDepth 20000 in
theorem ggX3_plan_X3_byRules : GoodIn wsX3_plan wsX3_byRules := goodIn_r _ [5, 6, 7, 8, 9, 10, 11, 4, 12, 13, 14, 15, 16, 17, 18, 19, 20, 21, 22, 23, 24, 25, 26, 27, 28, 29, 30, 99, 100, 101, 102, 103, 104, 105, 106, 107, 108, 109, 110, 111, 112, 113, 114, 115, 116, 117, 118, 119, 120, 121, 122, 123, 124, 125, 126, 127, 128] (by decide +kernel) (by decide +kernel)
set_option maxRecDepth 20000 in
theorem gX3_plan_X3_byRules : GoodIn wsX3_plan (wsV RX3 139 RX3 yX3_byRules wsX3_byRules) := goodIn_app (goodIn_of _ (by decide +kernel)) ggX3_plan_X3_byRules
set_option maxRecDepth 20000 in
theorem ggX3_plan_X0_plan : GoodIn wsX3_plan wsX0_plan := goodIn_r _ [35, 36, 37, 38, 117, 118, 119, 120, 121, 122, 123, 124, 125, 126, 127, 128] (by decide +kernel) (by decide +kernel)
set_option maxRecDepth 20000 in
theorem gX3_plan_X0_plan : GoodIn wsX3_plan (wsV RX3 249 RX0 yX0_plan wsX0_plan) := goodIn_app (goodIn_of _ (by decide +kernel)) ggX3_plan_X0_plan
set_option maxRecDepth 20000 in
theorem ggX3_plan_X3_planByLikeness : GoodIn wsX3_plan wsX3_planByLikeness := goodIn_r _ [42, 43, 44, 45, 4, 46, 47, 48, 49, 50, 51, 52, 53, 54, 55, 56, 57, 58, 59, 60, 61, 62, 63, 64, 65, 66, 67, 68, 69, 70, 71, 72, 73, 25, 26, 74, 75, 76, 77, 78, 79, 80, 81, 82, 83, 84, 85, 34, 86, 87, 88, 89, 90, 91, 92, 93, 94, 31, 32, 33, 35, 36, 37, 38, 95, 96, 97, 98, 99, 100, 101, 102, 103, 104, 105, 106, 107, 108, 109, 110, 117, 118, 119, 120, 121, 122, 123, 124, 125, 126, 127, 128, 129, 130, 131] (by decide +kernel) (by decide +kernel)
set_option maxRecDepth 20000 in
theorem gX3_plan_X3_planByLikeness : GoodIn wsX3_plan (wsV RX3 251 RX3 yX3_planByLikeness wsX3_planByLikeness) := goodIn_app (goodIn_of _ (by decide +kernel)) ggX3_plan_X3_planByLikeness
set_option maxRecDepth 20000 in
theorem ggX3_plan_X3_leaderFor : GoodIn wsX3_plan wsX3_leaderFor := goodIn_r _ [12, 6, 7, 13, 14, 15, 16, 17, 18, 19, 20, 21, 22, 23, 24, 25, 4, 26, 99, 100, 101, 102, 103, 104, 105, 106, 107, 108, 109, 110, 111, 112, 113, 114, 115, 116, 117, 118, 119, 120, 121, 122, 123, 124, 125, 126, 127, 128] (by decide +kernel) (by decide +kernel)
set_option maxRecDepth 20000 in
theorem gX3_plan_X3_leaderFor : GoodIn wsX3_plan (wsV RX3 230 RX3 yX3_leaderFor wsX3_leaderFor) := goodIn_app (goodIn_of _ (by decide +kernel)) ggX3_plan_X3_leaderFor
theorem dX3_plan_0 : decode cX3_plan 0 = .ok (.aload_n 0, 1) := by decide +kernel
theorem dX3_plan_1 : decode cX3_plan 1 = .ok (.aload_n 1, 1) := by decide +kernel
theorem dX3_plan_2 : decode cX3_plan 2 = .ok (.iconst (-1), 1) := by decide +kernel
theorem dX3_plan_3 : decode cX3_plan 3 = .ok (.invokevirtual 139, 3) := by decide +kernel
theorem dX3_plan_6 : decode cX3_plan 6 = .ok (.istore_n 2, 1) := by decide +kernel
theorem dX3_plan_7 : decode cX3_plan 7 = .ok (.iload_n 2, 1) := by decide +kernel
theorem dX3_plan_8 : decode cX3_plan 8 = .ok (.bipush (-5), 2) := by decide +kernel
theorem dX3_plan_10 : decode cX3_plan 10 = .ok (.if_icmp .ne 13, 3) := by decide +kernel
theorem dX3_plan_13 : decode cX3_plan 13 = .ok (.aload_n 1, 1) := by decide +kernel
theorem dX3_plan_14 : decode cX3_plan 14 = .ok (.iconst (-1), 1) := by decide +kernel
theorem dX3_plan_15 : decode cX3_plan 15 = .ok (.iconst (-1), 1) := by decide +kernel
theorem dX3_plan_16 : decode cX3_plan 16 = .ok (.iconst (-1), 1) := by decide +kernel
theorem dX3_plan_17 : decode cX3_plan 17 = .ok (.invokevirtual 249, 3) := by decide +kernel
theorem dX3_plan_20 : decode cX3_plan 20 = .ok (.goto 29, 3) := by decide +kernel
theorem dX3_plan_23 : decode cX3_plan 23 = .ok (.iload_n 2, 1) := by decide +kernel
theorem dX3_plan_24 : decode cX3_plan 24 = .ok (.bipush (-2), 2) := by decide +kernel
theorem dX3_plan_26 : decode cX3_plan 26 = .ok (.if_icmp .ne 11, 3) := by decide +kernel
theorem dX3_plan_29 : decode cX3_plan 29 = .ok (.aload_n 0, 1) := by decide +kernel
theorem dX3_plan_30 : decode cX3_plan 30 = .ok (.aload_n 1, 1) := by decide +kernel
theorem dX3_plan_31 : decode cX3_plan 31 = .ok (.invokevirtual 251, 3) := by decide +kernel
theorem dX3_plan_34 : decode cX3_plan 34 = .ok (.goto 15, 3) := by decide +kernel
theorem dX3_plan_37 : decode cX3_plan 37 = .ok (.aload_n 1, 1) := by decide +kernel
theorem dX3_plan_38 : decode cX3_plan 38 = .ok (.iload_n 2, 1) := by decide +kernel
theorem dX3_plan_39 : decode cX3_plan 39 = .ok (.iconst 0, 1) := by decide +kernel
theorem dX3_plan_40 : decode cX3_plan 40 = .ok (.aload_n 0, 1) := by decide +kernel
theorem dX3_plan_41 : decode cX3_plan 41 = .ok (.aload_n 1, 1) := by decide +kernel
theorem dX3_plan_42 : decode cX3_plan 42 = .ok (.iconst (-1), 1) := by decide +kernel
theorem dX3_plan_43 : decode cX3_plan 43 = .ok (.invokevirtual 230, 3) := by decide +kernel
theorem dX3_plan_46 : decode cX3_plan 46 = .ok (.invokevirtual 249, 3) := by decide +kernel
theorem dX3_plan_49 : decode cX3_plan 49 = .ok (.return_, 1) := by decide +kernel
set_option maxRecDepth 20000 in
theorem ggX3_planByLikeness_X3_byLikeness : GoodIn wsX3_planByLikeness wsX3_byLikeness := goodIn_r _ [5, 6, 7, 8, 9, 10, 11, 4, 12, 13, 14, 15, 16, 17, 18, 19, 20, 21, 22, 23, 24, 25, 26, 27, 28, 29, 30, 31, 32, 33, 34, 35, 36, 37, 38, 39, 40, 41, 42, 43, 44, 45, 46, 47, 48, 49, 50, 51, 52, 53, 54, 55, 56, 68, 69, 70, 71, 72, 73, 74, 75, 76, 77, 78, 79, 80, 81, 82, 83, 84, 85, 86, 87, 88, 89, 90, 91, 92, 93, 94] (by decide +kernel) (by decide +kernel)
set_option maxRecDepth 20000 in
theorem gX3_planByLikeness_X3_byLikeness : GoodIn wsX3_planByLikeness (wsV RX3 154 RX3 yX3_byLikeness wsX3_byLikeness) := goodIn_app (goodIn_of _ (by decide +kernel)) ggX3_planByLikeness_X3_byLikeness
set_option maxRecDepth 20000 in
theorem ggX3_planByLikeness_X0_plan : GoodIn wsX3_planByLikeness wsX0_plan := goodIn_r _ [60, 61, 62, 63, 80, 81, 82, 83, 84, 85, 86, 87, 88, 89, 90, 91] (by decide +kernel) (by decide +kernel)
set_option maxRecDepth 20000 in
theorem gX3_planByLikeness_X0_plan : GoodIn wsX3_planByLikeness (wsV RX3 249 RX0 yX0_plan wsX0_plan) := goodIn_app (goodIn_of _ (by decide +kernel)) ggX3_planByLikeness_X0_plan
set_option maxRecDepth 20000 in
theorem ggX3_planByLikeness_X3_nearestWith : GoodIn wsX3_planByLikeness wsX3_nearestWith := goodIn_r _ [67, 15, 16, 44, 45, 46, 47, 48, 49, 50, 51, 52, 53, 54, 55, 56, 68, 69, 70, 71, 72, 73, 74, 75, 76, 77, 78, 79, 80, 81, 82, 83, 84, 85, 86, 87, 88, 89, 90, 91] (by decide +kernel) (by decide +kernel)
set_option maxRecDepth 20000 in
theorem gX3_planByLikeness_X3_nearestWith : GoodIn wsX3_planByLikeness (wsV RX3 254 RX3 yX3_nearestWith wsX3_nearestWith) := goodIn_app (goodIn_of _ (by decide +kernel)) ggX3_planByLikeness_X3_nearestWith
theorem dX3_planByLikeness_0 : decode cX3_planByLikeness 0 = .ok (.aload_n 0, 1) := by decide +kernel
theorem dX3_planByLikeness_1 : decode cX3_planByLikeness 1 = .ok (.aload_n 1, 1) := by decide +kernel
theorem dX3_planByLikeness_2 : decode cX3_planByLikeness 2 = .ok (.invokevirtual 154, 3) := by decide +kernel
theorem dX3_planByLikeness_5 : decode cX3_planByLikeness 5 = .ok (.istore_n 2, 1) := by decide +kernel
theorem dX3_planByLikeness_6 : decode cX3_planByLikeness 6 = .ok (.iload_n 2, 1) := by decide +kernel
theorem dX3_planByLikeness_7 : decode cX3_planByLikeness 7 = .ok (.bipush (-2), 2) := by decide +kernel
theorem dX3_planByLikeness_9 : decode cX3_planByLikeness 9 = .ok (.if_icmp .ne 13, 3) := by decide +kernel
theorem dX3_planByLikeness_12 : decode cX3_planByLikeness 12 = .ok (.aload_n 1, 1) := by decide +kernel
theorem dX3_planByLikeness_13 : decode cX3_planByLikeness 13 = .ok (.iconst (-1), 1) := by decide +kernel
theorem dX3_planByLikeness_14 : decode cX3_planByLikeness 14 = .ok (.iconst (-1), 1) := by decide +kernel
theorem dX3_planByLikeness_15 : decode cX3_planByLikeness 15 = .ok (.iconst (-1), 1) := by decide +kernel
theorem dX3_planByLikeness_16 : decode cX3_planByLikeness 16 = .ok (.invokevirtual 249, 3) := by decide +kernel
theorem dX3_planByLikeness_19 : decode cX3_planByLikeness 19 = .ok (.goto 15, 3) := by decide +kernel
theorem dX3_planByLikeness_22 : decode cX3_planByLikeness 22 = .ok (.aload_n 1, 1) := by decide +kernel
theorem dX3_planByLikeness_23 : decode cX3_planByLikeness 23 = .ok (.iload_n 2, 1) := by decide +kernel
theorem dX3_planByLikeness_24 : decode cX3_planByLikeness 24 = .ok (.iconst 1, 1) := by decide +kernel
theorem dX3_planByLikeness_25 : decode cX3_planByLikeness 25 = .ok (.aload_n 0, 1) := by decide +kernel
theorem dX3_planByLikeness_26 : decode cX3_planByLikeness 26 = .ok (.iload_n 2, 1) := by decide +kernel
theorem dX3_planByLikeness_27 : decode cX3_planByLikeness 27 = .ok (.aload_n 1, 1) := by decide +kernel
theorem dX3_planByLikeness_28 : decode cX3_planByLikeness 28 = .ok (.invokevirtual 254, 3) := by decide +kernel
theorem dX3_planByLikeness_31 : decode cX3_planByLikeness 31 = .ok (.invokevirtual 249, 3) := by decide +kernel
theorem dX3_planByLikeness_34 : decode cX3_planByLikeness 34 = .ok (.return_, 1) := by decide +kernel
set_option maxRecDepth 20000 in
theorem ggX3_countAlike_X0_isAlike : GoodIn wsX3_countAlike wsX0_isAlike := goodIn_r _ [6, 7, 8, 9, 22, 23, 24, 25, 26, 27, 28, 29, 30, 31, 32, 33] (by decide +kernel) (by decide +kernel)
set_option maxRecDepth 20000 in
theorem gX3_countAlike_X0_isAlike : GoodIn wsX3_countAlike (wsV RX3 173 RX0 yX0_isAlike wsX0_isAlike) := goodIn_app (goodIn_of _ (by decide +kernel)) ggX3_countAlike_X0_isAlike
theorem dX3_countAlike_0 : decode cX3_countAlike 0 = .ok (.iconst 0, 1) := by decide +kernel
theorem dX3_countAlike_1 : decode cX3_countAlike 1 = .ok (.istore_n 2, 1) := by decide +kernel
theorem dX3_countAlike_2 : decode cX3_countAlike 2 = .ok (.iconst 0, 1) := by decide +kernel
theorem dX3_countAlike_3 : decode cX3_countAlike 3 = .ok (.istore_n 3, 1) := by decide +kernel
theorem dX3_countAlike_4 : decode cX3_countAlike 4 = .ok (.iload_n 3, 1) := by decide +kernel
theorem dX3_countAlike_5 : decode cX3_countAlike 5 = .ok (.aload_n 0, 1) := by decide +kernel
theorem dX3_countAlike_6 : decode cX3_countAlike 6 = .ok (.getfield 34, 3) := by decide +kernel
theorem dX3_countAlike_9 : decode cX3_countAlike 9 = .ok (.arraylength, 1) := by decide +kernel
theorem dX3_countAlike_10 : decode cX3_countAlike 10 = .ok (.if_icmp .ge 34, 3) := by decide +kernel
theorem dX3_countAlike_13 : decode cX3_countAlike 13 = .ok (.aload_n 0, 1) := by decide +kernel
theorem dX3_countAlike_14 : decode cX3_countAlike 14 = .ok (.getfield 34, 3) := by decide +kernel
theorem dX3_countAlike_17 : decode cX3_countAlike 17 = .ok (.iload_n 3, 1) := by decide +kernel
theorem dX3_countAlike_18 : decode cX3_countAlike 18 = .ok (.aaload, 1) := by decide +kernel
theorem dX3_countAlike_19 : decode cX3_countAlike 19 = .ok (.ifnull 19, 3) := by decide +kernel
theorem dX3_countAlike_22 : decode cX3_countAlike 22 = .ok (.aload_n 1, 1) := by decide +kernel
theorem dX3_countAlike_23 : decode cX3_countAlike 23 = .ok (.aload_n 0, 1) := by decide +kernel
theorem dX3_countAlike_24 : decode cX3_countAlike 24 = .ok (.getfield 34, 3) := by decide +kernel
theorem dX3_countAlike_27 : decode cX3_countAlike 27 = .ok (.iload_n 3, 1) := by decide +kernel
theorem dX3_countAlike_28 : decode cX3_countAlike 28 = .ok (.aaload, 1) := by decide +kernel
theorem dX3_countAlike_29 : decode cX3_countAlike 29 = .ok (.invokevirtual 173, 3) := by decide +kernel
theorem dX3_countAlike_32 : decode cX3_countAlike 32 = .ok (.ifCond .eq 6, 3) := by decide +kernel
theorem dX3_countAlike_35 : decode cX3_countAlike 35 = .ok (.iinc 2 1, 3) := by decide +kernel
theorem dX3_countAlike_38 : decode cX3_countAlike 38 = .ok (.iinc 3 1, 3) := by decide +kernel
theorem dX3_countAlike_41 : decode cX3_countAlike 41 = .ok (.goto (-37), 3) := by decide +kernel
theorem dX3_countAlike_44 : decode cX3_countAlike 44 = .ok (.iload_n 2, 1) := by decide +kernel
theorem dX3_countAlike_45 : decode cX3_countAlike 45 = .ok (.ireturn, 1) := by decide +kernel
set_option maxRecDepth 20000 in
theorem ggX3_countDoubtsAlike_X3_isInDoubt : GoodIn wsX3_countDoubtsAlike wsX3_isInDoubt := goodIn_r _ [5, 6, 27, 28, 29, 30, 31, 32, 33, 34, 35, 36, 37, 38] (by decide +kernel) (by decide +kernel)
set_option maxRecDepth 20000 in
theorem gX3_countDoubtsAlike_X3_isInDoubt : GoodIn wsX3_countDoubtsAlike (va_wsS RX3 167 yX3_isInDoubt wsX3_isInDoubt) := goodIn_app (goodIn_of _ (by decide +kernel)) ggX3_countDoubtsAlike_X3_isInDoubt
set_option maxRecDepth 20000 in
theorem ggX3_countDoubtsAlike_X0_isAlike : GoodIn wsX3_countDoubtsAlike wsX0_isAlike := goodIn_r _ [11, 12, 13, 14, 27, 28, 29, 30, 31, 32, 33, 34, 35, 36, 37, 38] (by decide +kernel) (by decide +kernel)
set_option maxRecDepth 20000 in
theorem gX3_countDoubtsAlike_X0_isAlike : GoodIn wsX3_countDoubtsAlike (wsV RX3 173 RX0 yX0_isAlike wsX0_isAlike) := goodIn_app (goodIn_of _ (by decide +kernel)) ggX3_countDoubtsAlike_X0_isAlike
theorem dX3_countDoubtsAlike_0 : decode cX3_countDoubtsAlike 0 = .ok (.iconst 0, 1) := by decide +kernel
theorem dX3_countDoubtsAlike_1 : decode cX3_countDoubtsAlike 1 = .ok (.istore_n 2, 1) := by decide +kernel
theorem dX3_countDoubtsAlike_2 : decode cX3_countDoubtsAlike 2 = .ok (.iconst 0, 1) := by decide +kernel
theorem dX3_countDoubtsAlike_3 : decode cX3_countDoubtsAlike 3 = .ok (.istore_n 3, 1) := by decide +kernel
theorem dX3_countDoubtsAlike_4 : decode cX3_countDoubtsAlike 4 = .ok (.iload_n 3, 1) := by decide +kernel
theorem dX3_countDoubtsAlike_5 : decode cX3_countDoubtsAlike 5 = .ok (.aload_n 0, 1) := by decide +kernel
theorem dX3_countDoubtsAlike_6 : decode cX3_countDoubtsAlike 6 = .ok (.getfield 34, 3) := by decide +kernel
theorem dX3_countDoubtsAlike_9 : decode cX3_countDoubtsAlike 9 = .ok (.arraylength, 1) := by decide +kernel
theorem dX3_countDoubtsAlike_10 : decode cX3_countDoubtsAlike 10 = .ok (.if_icmp .ge 37, 3) := by decide +kernel
theorem dX3_countDoubtsAlike_13 : decode cX3_countDoubtsAlike 13 = .ok (.aload_n 0, 1) := by decide +kernel
theorem dX3_countDoubtsAlike_14 : decode cX3_countDoubtsAlike 14 = .ok (.getfield 34, 3) := by decide +kernel
theorem dX3_countDoubtsAlike_17 : decode cX3_countDoubtsAlike 17 = .ok (.iload_n 3, 1) := by decide +kernel
theorem dX3_countDoubtsAlike_18 : decode cX3_countDoubtsAlike 18 = .ok (.aaload, 1) := by decide +kernel
theorem dX3_countDoubtsAlike_19 : decode cX3_countDoubtsAlike 19 = .ok (.invokestatic 167, 3) := by decide +kernel
theorem dX3_countDoubtsAlike_22 : decode cX3_countDoubtsAlike 22 = .ok (.ifCond .eq 19, 3) := by decide +kernel
theorem dX3_countDoubtsAlike_25 : decode cX3_countDoubtsAlike 25 = .ok (.aload_n 1, 1) := by decide +kernel
theorem dX3_countDoubtsAlike_26 : decode cX3_countDoubtsAlike 26 = .ok (.aload_n 0, 1) := by decide +kernel
theorem dX3_countDoubtsAlike_27 : decode cX3_countDoubtsAlike 27 = .ok (.getfield 34, 3) := by decide +kernel
theorem dX3_countDoubtsAlike_30 : decode cX3_countDoubtsAlike 30 = .ok (.iload_n 3, 1) := by decide +kernel
theorem dX3_countDoubtsAlike_31 : decode cX3_countDoubtsAlike 31 = .ok (.aaload, 1) := by decide +kernel
theorem dX3_countDoubtsAlike_32 : decode cX3_countDoubtsAlike 32 = .ok (.invokevirtual 173, 3) := by decide +kernel
theorem dX3_countDoubtsAlike_35 : decode cX3_countDoubtsAlike 35 = .ok (.ifCond .eq 6, 3) := by decide +kernel
theorem dX3_countDoubtsAlike_38 : decode cX3_countDoubtsAlike 38 = .ok (.iinc 2 1, 3) := by decide +kernel
theorem dX3_countDoubtsAlike_41 : decode cX3_countDoubtsAlike 41 = .ok (.iinc 3 1, 3) := by decide +kernel
theorem dX3_countDoubtsAlike_44 : decode cX3_countDoubtsAlike 44 = .ok (.goto (-40), 3) := by decide +kernel
theorem dX3_countDoubtsAlike_47 : decode cX3_countDoubtsAlike 47 = .ok (.iload_n 2, 1) := by decide +kernel
theorem dX3_countDoubtsAlike_48 : decode cX3_countDoubtsAlike 48 = .ok (.ireturn, 1) := by decide +kernel
theorem dX3_countState_0 : decode cX3_countState 0 = .ok (.iconst 0, 1) := by decide +kernel
theorem dX3_countState_1 : decode cX3_countState 1 = .ok (.istore_n 2, 1) := by decide +kernel
theorem dX3_countState_2 : decode cX3_countState 2 = .ok (.iconst 0, 1) := by decide +kernel
theorem dX3_countState_3 : decode cX3_countState 3 = .ok (.istore_n 3, 1) := by decide +kernel
theorem dX3_countState_4 : decode cX3_countState 4 = .ok (.iload_n 3, 1) := by decide +kernel
theorem dX3_countState_5 : decode cX3_countState 5 = .ok (.aload_n 0, 1) := by decide +kernel
theorem dX3_countState_6 : decode cX3_countState 6 = .ok (.getfield 34, 3) := by decide +kernel
theorem dX3_countState_9 : decode cX3_countState 9 = .ok (.arraylength, 1) := by decide +kernel
theorem dX3_countState_10 : decode cX3_countState 10 = .ok (.if_icmp .ge 34, 3) := by decide +kernel
theorem dX3_countState_13 : decode cX3_countState 13 = .ok (.aload_n 0, 1) := by decide +kernel
theorem dX3_countState_14 : decode cX3_countState 14 = .ok (.getfield 34, 3) := by decide +kernel
theorem dX3_countState_17 : decode cX3_countState 17 = .ok (.iload_n 3, 1) := by decide +kernel
theorem dX3_countState_18 : decode cX3_countState 18 = .ok (.aaload, 1) := by decide +kernel
theorem dX3_countState_19 : decode cX3_countState 19 = .ok (.ifnull 19, 3) := by decide +kernel
theorem dX3_countState_22 : decode cX3_countState 22 = .ok (.aload_n 0, 1) := by decide +kernel
theorem dX3_countState_23 : decode cX3_countState 23 = .ok (.getfield 34, 3) := by decide +kernel
theorem dX3_countState_26 : decode cX3_countState 26 = .ok (.iload_n 3, 1) := by decide +kernel
theorem dX3_countState_27 : decode cX3_countState 27 = .ok (.aaload, 1) := by decide +kernel
theorem dX3_countState_28 : decode cX3_countState 28 = .ok (.getfield 107, 3) := by decide +kernel
theorem dX3_countState_31 : decode cX3_countState 31 = .ok (.iload_n 1, 1) := by decide +kernel
theorem dX3_countState_32 : decode cX3_countState 32 = .ok (.if_icmp .ne 6, 3) := by decide +kernel
theorem dX3_countState_35 : decode cX3_countState 35 = .ok (.iinc 2 1, 3) := by decide +kernel
theorem dX3_countState_38 : decode cX3_countState 38 = .ok (.iinc 3 1, 3) := by decide +kernel
theorem dX3_countState_41 : decode cX3_countState 41 = .ok (.goto (-37), 3) := by decide +kernel
theorem dX3_countState_44 : decode cX3_countState 44 = .ok (.iload_n 2, 1) := by decide +kernel
theorem dX3_countState_45 : decode cX3_countState 45 = .ok (.ireturn, 1) := by decide +kernel
